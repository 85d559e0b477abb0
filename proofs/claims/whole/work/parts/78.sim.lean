/-! THE REFERENCE READS A RULE AS zq_g DOES -/
def zr_R (B : Nat → Nat → Int32) (J : Nat → Nat → Int64) (F : zz_F) (q : Nat ⊕ (Int32 × Nat)) (o : Option (Int32 × (Nat → Nat → Int32) × (Nat → Nat → Int64) × zz_F)) : Prop := match q with
  | .inr (v, b) => o = some (v, zr_m B (nI b) (-1), J, F)
  | .inl x => x < 1000 ∧ ∃ v b, o = some (v, zr_m B b (nI x), J, F)
theorem zr_Ri {B : Nat → Nat → Int32} {J : Nat → Nat → Int64} {F : zz_F} {p : Int32 × Nat} {o : Option (Int32 × (Nat → Nat → Int32) × (Nat → Nat → Int64) × zz_F)} (h : o = some (p.1, zr_m B (nI p.2) (-1), J, F)) : zr_R B J F (.inr p) o := by
  obtain ⟨v, b⟩ := p
  exact h
theorem zr_n1 {α : Type} (x : α) : ¬ ((1 : Int32), x).1 = 0 := (by decide : ¬ (1 : Int32) = 0)
theorem zr_letN {c : Int32} (h : zq_let c = 6) : zv_X12_letterOf c = -1 := by
  unfold zq_let at h
  unfold zv_X12_letterOf
  by_cases a : c = 111
  · rw [if_pos a] at h; cases h
  · by_cases b : c = 112
    · rw [if_neg a, if_pos b] at h; cases h
    · by_cases d : c = 113
      · rw [if_neg a, if_neg b, if_pos d] at h; cases h
      · by_cases e : c = 109
        · rw [if_neg a, if_neg b, if_neg d, if_pos e] at h; cases h
        · by_cases f : c = 108
          · rw [if_neg a, if_neg b, if_neg d, if_neg e, if_pos f] at h; cases h
          · by_cases g : c = 115
            · rw [if_neg a, if_neg b, if_neg d, if_neg e, if_neg f, if_pos g] at h; cases h
            · rw [if_pos a, if_pos b, if_pos d, if_pos e, if_pos f, if_pos g]
theorem zr_letY {c : Int32} (h : ¬ zq_let c = 6) : zq_let c < 6 ∧ zv_X12_letterOf c = nI (zq_let c) := by
  unfold zq_let at h ⊢
  unfold zv_X12_letterOf
  by_cases a : c = 111
  · subst a; exact ⟨by decide, rfl⟩
  · by_cases b : c = 112
    · subst b; exact ⟨by decide, rfl⟩
    · by_cases d : c = 113
      · subst d; exact ⟨by decide, rfl⟩
      · by_cases e : c = 109
        · subst e; exact ⟨by decide, rfl⟩
        · by_cases f : c = 108
          · subst f; exact ⟨by decide, rfl⟩
          · by_cases g : c = 115
            · subst g; exact ⟨by decide, rfl⟩
            · rw [if_neg a, if_neg b, if_neg d, if_neg e, if_neg f, if_neg g] at h
              exact absurd rfl h
theorem zr_sim {N : Nat} (hN : 100000 ≤ N) {B : Nat → Nat → Int32} {J : Nat → Nat → Int64} {F : zz_F} {m : Nat} {t : Nat → Int32} (h : zr_ok B F m t) (hb : ∀ i, i < m → ∃ b, b < 256 ∧ t i = (nI b).toInt8.toInt32) (hm : m ≤ 100) {e : Nat → Int32} (he : ∀ k, k < 6 → e k = if B 52 17 = 0 then 0 else B 60 k) : ∀ f dp a, dp ≤ 4 → a ≤ m →
    (∀ g D, g < 4 → 6 * (m - a) + 5 ≤ f + g → 5 + 4 * (4 - dp) + (m - a) ≤ D + g → zr_R B J F (zq_g m t e f g dp 0 a) (zg_held N D g (nI dp) (zr_m B (nI a) (-1)) J F)) ∧
    (∀ v D u, 6 * (m - a) + 1 ≤ f → 2 + 4 * (4 - dp) + (m - a) ≤ D → 2 * (m - a) + 3 ≤ u → zr_R B J F (zq_g m t e f 4 dp v a) (zl_X12_sum N (zg_held N D) u 6 (nI dp) v (zr_m B (nI a) (-1)) J F)) ∧
    (∀ v D u, 6 * (m - a) + 1 ≤ f → 1 + 4 * (4 - dp) + (m - a) ≤ D → 2 * (m - a) + 3 ≤ u → zr_R B J F (zq_g m t e f 5 dp v a) (zl_X12_product N (zg_held N D) u 6 (nI dp) v (zr_m B (nI a) (-1)) J F)) := by
  intro f
  induction f with
  | zero =>
    intro dp a hdp ha
    exact ⟨fun g D hg h1 h2 => by omega, fun v D u h1 => by omega, fun v D u h1 => by omega⟩
  | succ f ih =>
    intro dp a hdp ha
    obtain ⟨L, hL⟩ := zu_one N hN
    refine ⟨fun g D hg hf hD => ?_, fun v D u hf hD hu => ?_, fun v D u hf hD hu => ?_⟩
    · obtain ⟨E, rfl⟩ : ∃ E, D = E + 1 := ⟨D - 1, by omega⟩
      rcases (by omega : g = 0 ∨ g = 1 ∨ g = 2 ∨ g = 3) with rfl | rfl | rfl | rfl
      · -- a comparison
        rw [zge_held_0]
        unfold zf_X12_held
        rw [show zl_X12_held N (zg_held N E) N = zl_X12_held N (zg_held N E) (L + 1) by rw [← hL], ze_X12_held_0]
        unfold zb_X12_held_0
        have s1 := (ih dp a hdp ha).1 1 E (by omega) (by omega) (by omega)
        rw [zq_g]
        generalize hq : zq_g m t e f 1 dp 0 a = q at s1 ⊢
        cases q with
        | inl x =>
          obtain ⟨hx, v, b, s1⟩ := s1
          rw [s1, Option.bind_some]
          dsimp only
          rw [zr_passB hN hx, Option.bind_some]
          dsimp only
          rw [if_pos (rfl : (0 : Int32) = 0), zr_passB hN hx, Option.bind_some]
          dsimp only
          rw [if_pos (rfl : (0 : Int32) = 0), zr_passB hN hx, Option.bind_some]
          dsimp only
          rw [if_pos (rfl : (0 : Int32) = 0)]
          exact ⟨hx, _, _, rfl⟩
        | inr p =>
          obtain ⟨x, b⟩ := p
          have pr := zq_prog _ _ _ _ _ _ _ ha hq
          have s1 : zg_held N E 1 (nI dp) (zr_m B (nI a) (-1)) J F = some (x, zr_m B (nI b) (-1), J, F) := s1
          rw [s1, Option.bind_some]
          simp only []
          rw [zr_pass hN h (by omega)]
          by_cases c1 : zq_h m t b = 60
          · have bl := zq_hlt (k := 60) (by omega) c1
            rw [if_pos c1, if_pos c1, Option.bind_some, if_neg (zr_n1 _)]
            have s2 := (ih dp (b + 1) hdp (by omega)).1 1 E (by omega) (by omega) (by omega)
            generalize zq_g m t e f 1 dp 0 (b + 1) = q2 at s2 ⊢
            cases q2 with
            | inl y =>
              obtain ⟨hy, v, b', s2⟩ := s2
              rw [s2, Option.bind_some]
              refine ⟨hy, ?_⟩
              simp only []
              split
              · exact ⟨_, _, rfl⟩
              · exact ⟨_, _, rfl⟩
            | inr p2 =>
              obtain ⟨y, b2⟩ := p2
              have s2 : zg_held N E 1 (nI dp) (zr_m B (nI (b + 1)) (-1)) J F = some (y, zr_m B (nI b2) (-1), J, F) := s2
              rw [s2, Option.bind_some]
              simp only []
              by_cases d : x < y
              · rw [if_neg (Int32.not_le.mpr d)]
                show _ = some (if x < y then 1 else 0, _, J, F)
                rw [if_pos d]
              · rw [if_pos (Int32.not_lt.mp d)]
                show _ = some (if x < y then 1 else 0, _, J, F)
                rw [if_neg d]
          · rw [if_neg c1, if_neg c1, Option.bind_some, if_pos rfl]
            simp only []
            rw [zr_pass hN h (by omega)]
            by_cases c2 : zq_h m t b = 62
            · have bl := zq_hlt (k := 62) (by omega) c2
              rw [if_pos c2, if_pos c2, Option.bind_some, if_neg (zr_n1 _)]
              have s2 := (ih dp (b + 1) hdp (by omega)).1 1 E (by omega) (by omega) (by omega)
              generalize zq_g m t e f 1 dp 0 (b + 1) = q2 at s2 ⊢
              cases q2 with
              | inl y =>
                obtain ⟨hy, v, b', s2⟩ := s2
                rw [s2, Option.bind_some]
                refine ⟨hy, ?_⟩
                simp only []
                split
                · exact ⟨_, _, rfl⟩
                · exact ⟨_, _, rfl⟩
              | inr p2 =>
                obtain ⟨y, b2⟩ := p2
                have s2 : zg_held N E 1 (nI dp) (zr_m B (nI (b + 1)) (-1)) J F = some (y, zr_m B (nI b2) (-1), J, F) := s2
                rw [s2, Option.bind_some]
                simp only []
                by_cases d : y < x
                · rw [if_neg (Int32.not_le.mpr d)]
                  show _ = some (if y < x then 1 else 0, _, J, F)
                  rw [if_pos d]
                · rw [if_pos (Int32.not_lt.mp d)]
                  show _ = some (if y < x then 1 else 0, _, J, F)
                  rw [if_neg d]
            · rw [if_neg c2, if_neg c2, Option.bind_some, if_pos rfl]
              simp only []
              rw [zr_pass hN h (by omega)]
              by_cases c3 : zq_h m t b = 61
              · have bl := zq_hlt (k := 61) (by omega) c3
                rw [if_pos c3, if_pos c3, Option.bind_some, if_neg (zr_n1 _)]
                have s2 := (ih dp (b + 1) hdp (by omega)).1 1 E (by omega) (by omega) (by omega)
                generalize zq_g m t e f 1 dp 0 (b + 1) = q2 at s2 ⊢
                cases q2 with
                | inl y =>
                  obtain ⟨hy, v, b', s2⟩ := s2
                  rw [s2, Option.bind_some]
                  refine ⟨hy, ?_⟩
                  simp only []
                  split
                  · exact ⟨_, _, rfl⟩
                  · exact ⟨_, _, rfl⟩
                | inr p2 =>
                  obtain ⟨y, b2⟩ := p2
                  have s2 : zg_held N E 1 (nI dp) (zr_m B (nI (b + 1)) (-1)) J F = some (y, zr_m B (nI b2) (-1), J, F) := s2
                  rw [s2, Option.bind_some]
                  simp only []
                  by_cases d : x = y
                  · rw [if_neg (show ¬ ¬ x = y from fun w => w d), if_pos d]
                    rfl
                  · rw [if_pos (show ¬ x = y from d), if_neg d]
                    rfl
              · rw [if_neg c3, if_neg c3, Option.bind_some, if_pos rfl]
                rfl
      · -- a sum
        rw [zge_held_1]
        unfold zf_X12_sum
        rw [show zl_X12_sum N (zg_held N E) N = zl_X12_sum N (zg_held N E) (L + 1) by rw [← hL], ze_X12_sum_0]
        unfold zb_X12_sum_0
        have s1 := (ih dp a hdp ha).1 2 E (by omega) (by omega) (by omega)
        rw [zq_g]
        generalize hq : zq_g m t e f 2 dp 0 a = q at s1 ⊢
        cases q with
        | inl x =>
          obtain ⟨hx, v, b, s1⟩ := s1
          obtain ⟨L2, rfl⟩ : ∃ L2, L = L2 + 1 + 1 := ⟨L - 2, by omega⟩
          rw [s1, Option.bind_some, ze_X12_sum_6]
          unfold zb_X12_sum_6
          simp only []
          rw [zr_bad hx, if_pos rfl, ze_X12_sum_82]
          exact ⟨hx, _, _, rfl⟩
        | inr p =>
          obtain ⟨x, b⟩ := p
          have pr := zq_prog _ _ _ _ _ _ _ ha hq
          have s1 : zg_held N E 2 (nI dp) (zr_m B (nI a) (-1)) J F = some (x, zr_m B (nI b) (-1), J, F) := s1
          rw [s1, Option.bind_some]
          exact (ih dp b hdp (by omega)).2.1 x E L (by omega) (by omega) (by omega)
      · -- a product
        rw [zge_held_2]
        unfold zf_X12_product
        rw [show zl_X12_product N (zg_held N E) N = zl_X12_product N (zg_held N E) (L + 1) by rw [← hL], ze_X12_product_0]
        unfold zb_X12_product_0
        have s1 := (ih dp a hdp ha).1 3 E (by omega) (by omega) (by omega)
        rw [zq_g]
        generalize hq : zq_g m t e f 3 dp 0 a = q at s1 ⊢
        cases q with
        | inl x =>
          obtain ⟨hx, v, b, s1⟩ := s1
          obtain ⟨L2, rfl⟩ : ∃ L2, L = L2 + 1 + 1 := ⟨L - 2, by omega⟩
          rw [s1, Option.bind_some, ze_X12_product_6]
          unfold zb_X12_product_6
          simp only []
          rw [zr_bad hx, if_pos rfl, ze_X12_product_91]
          exact ⟨hx, _, _, rfl⟩
        | inr p =>
          obtain ⟨x, b⟩ := p
          have pr := zq_prog _ _ _ _ _ _ _ ha hq
          have s1 : zg_held N E 3 (nI dp) (zr_m B (nI a) (-1)) J F = some (x, zr_m B (nI b) (-1), J, F) := s1
          rw [s1, Option.bind_some]
          exact (ih dp b hdp (by omega)).2.2 x E L (by omega) (by omega) (by omega)
      · -- a thing
        rw [zge_held_3]
        unfold zf_X12_thing
        obtain ⟨L2, rfl⟩ : ∃ L2, L = L2 + 1 := ⟨L - 1, by omega⟩
        rw [show zl_X12_thing N (zg_held N E) N = zl_X12_thing N (zg_held N E) (L2 + 1 + 1) by rw [← hL], ze_X12_thing_0]
        unfold zb_X12_thing_0
        rw [zr_pass hN h (by omega), zq_g]
        by_cases c1 : zq_h m t a = 45
        · have al := zq_hlt (k := 45) (by omega) c1
          rw [if_pos c1, if_pos c1, Option.bind_some, if_neg (zr_n1 _)]
          have s2 := (ih dp (a + 1) hdp (by omega)).1 3 E (by omega) (by omega) (by omega)
          generalize zq_g m t e f 3 dp 0 (a + 1) = q2 at s2 ⊢
          cases q2 with
          | inl y =>
            obtain ⟨hy, v, b', s2⟩ := s2
            rw [s2, Option.bind_some]
            exact ⟨hy, _, _, rfl⟩
          | inr p2 =>
            obtain ⟨y, b2⟩ := p2
            have s2 : zg_held N E 3 (nI dp) (zr_m B (nI (a + 1)) (-1)) J F = some (y, zr_m B (nI b2) (-1), J, F) := s2
            rw [s2, Option.bind_some]
            rfl
        · rw [if_neg c1, if_neg c1, Option.bind_some]
          dsimp only
          rw [if_pos (rfl : (0 : Int32) = 0), if_pos (show ¬ zv_X12_fine (zr_m B (nI a) (-1)) = 0 by rw [zr_fine]; decide), zr_here hN h (by omega), Option.bind_some]
          dsimp only
          have rest : ¬ (zq_h m t a = 40 ∧ dp < 4) → zr_R B J F (if zq_dig (zq_h m t a) = true then .inr (zq_num m t a) else if zq_let (zq_h m t a) = 6 then .inl a else .inr (e (zq_let (zq_h m t a)), a + 1)) (zl_X12_thing N (zg_held N E) (L2 + 1) 67 0 (zq_h m t a) (zr_m B (nI a) (-1)) J F) := by
            intro _
            rw [ze_X12_thing_67]
            unfold zb_X12_thing_67
            simp only [zq_inD]
            by_cases d : zq_dig (zq_h m t a) = true
            · rw [if_pos d, if_neg (show ¬ zq_dig (zq_h m t a) = false by rw [d]; decide), zr_num hN h hb (by omega) d, Option.bind_some]
              exact zr_Ri rfl
            · rw [if_neg d, if_pos (show zq_dig (zq_h m t a) = false from Bool.eq_false_iff.mpr d)]
              by_cases l : zq_let (zq_h m t a) = 6
              · rw [if_pos l, zr_letN l, if_neg (show ¬ ¬ ((-1 : Int32) = -1) from fun w => w rfl), zr_11, zr_fault]
                exact ⟨by omega, _, _, rfl⟩
              · obtain ⟨l1, l2⟩ := zr_letY l
                rw [if_neg l, l2, if_pos (show ¬ nI (zq_let (zq_h m t a)) = -1 from fun w => nI_pos (n := zq_let (zq_h m t a)) (by omega) (by rw [w]; decide)), if_pos (nI_in (show zq_let (zq_h m t a) < 6 by omega) (by omega)), nI_clamp (by omega), zr_11, nI_1, zr_at, zr_x (show 60 ≠ 52 by omega), show zr_m B (nI a) (-1) 52 17 = B 52 17 from rfl]
                show _ = some (e (zq_let (zq_h m t a)), _, J, F)
                rw [he _ l1]
                split
                · rfl
                · rfl
          by_cases c2 : zq_h m t a = 40
          · rw [if_neg (show ¬ ¬ zq_h m t a = 40 from fun w => w c2)]
            by_cases c3 : dp < 4
            · have al := zq_hlt (k := 40) (by omega) c2
              rw [if_pos (show zq_h m t a = 40 ∧ dp < 4 from ⟨c2, c3⟩), if_neg (show ¬ (4 : Int32) ≤ nI dp from nI_ge (b := 4) c3 (by omega)), nI_1, zr_11, zr_at, nI_1]
              have s2 := (ih (dp + 1) (a + 1) (by omega) (by omega)).1 0 E (by omega) (by omega) (by omega)
              generalize hq2 : zq_g m t e f 0 (dp + 1) 0 (a + 1) = q2 at s2 ⊢
              cases q2 with
              | inl y =>
                obtain ⟨hy, v, b', s2⟩ := s2
                rw [s2, Option.bind_some]
                simp only []
                rw [zr_needB hN hy, Option.bind_some]
                exact ⟨hy, _, _, rfl⟩
              | inr p2 =>
                obtain ⟨y, b2⟩ := p2
                have pr := zq_prog _ _ _ _ _ _ _ (by omega) hq2
                have s2 : zg_held N E 0 (nI (dp + 1)) (zr_m B (nI (a + 1)) (-1)) J F = some (y, zr_m B (nI b2) (-1), J, F) := s2
                rw [s2, Option.bind_some]
                simp only []
                rw [zr_need hN h (by omega)]
                by_cases c4 : zq_h m t b2 = 41
                · rw [if_pos c4, if_pos c4, Option.bind_some]
                  rfl
                · rw [if_neg c4, if_neg c4, Option.bind_some]
                  exact ⟨by omega, _, _, rfl⟩
            · rw [if_neg (show ¬ (zq_h m t a = 40 ∧ dp < 4) from fun w => c3 w.2), if_pos (show (4 : Int32) ≤ nI dp from nI_le (a := 4) (by omega) (by omega))]
              exact rest (fun w => c3 w.2)
          · rw [if_neg (show ¬ (zq_h m t a = 40 ∧ dp < 4) from fun w => c2 w.1), if_pos (show ¬ zq_h m t a = 40 from c2)]
            exact rest (fun w => c2 w.1)
    · -- the rest of a sum
      obtain ⟨u2, rfl⟩ : ∃ u2, u = u2 + 1 + 1 := ⟨u - 2, by omega⟩
      rw [ze_X12_sum_6, zq_g]
      unfold zb_X12_sum_6
      rw [if_neg (show ¬ zv_X12_fine (zr_m B (nI a) (-1)) = 0 by rw [zr_fine]; decide), zr_here hN h (by omega), Option.bind_some]
      dsimp only
      rw [zr_here hN h (by omega), Option.bind_some]
      dsimp only
      by_cases c1 : zq_h m t a = 43
      · have al := zq_hlt (k := 43) (by omega) c1
        rw [if_pos c1, if_pos c1, ze_X12_sum_31]
        unfold zb_X12_sum_31
        rw [zr_here hN h (by omega), Option.bind_some]
        dsimp only
        rw [if_neg (show ¬ ¬ zq_h m t a = 43 from fun w => w c1), zr_11, zr_at, nI_1]
        have s2 := (ih dp (a + 1) hdp (by omega)).1 2 D (by omega) (by omega) (by omega)
        generalize hq2 : zq_g m t e f 2 dp 0 (a + 1) = q2 at s2 ⊢
        cases q2 with
        | inl y =>
          obtain ⟨hy, v', b', s2⟩ := s2
          obtain ⟨u3, rfl⟩ : ∃ u3, u2 = u3 + 1 + 1 := ⟨u2 - 2, by omega⟩
          rw [s2, Option.bind_some, if_neg (show ¬ (1 : Int32) = 0 by decide), ze_X12_sum_6]
          unfold zb_X12_sum_6
          simp only []
          rw [zr_bad hy, if_pos rfl, ze_X12_sum_82]
          exact ⟨hy, _, _, rfl⟩
        | inr p2 =>
          obtain ⟨y, b2⟩ := p2
          have pr := zq_prog _ _ _ _ _ _ _ (by omega) hq2
          have s2 : zg_held N D 2 (nI dp) (zr_m B (nI (a + 1)) (-1)) J F = some (y, zr_m B (nI b2) (-1), J, F) := s2
          rw [s2, Option.bind_some, if_neg (show ¬ (1 : Int32) = 0 by decide)]
          exact (ih dp b2 hdp (by omega)).2.1 (v + y) D u2 (by omega) (by omega) (by omega)
      · rw [if_neg c1, if_neg c1]
        by_cases c2 : zq_h m t a = 45
        · have al := zq_hlt (k := 45) (by omega) c2
          rw [if_pos c2, if_neg (show ¬ ¬ zq_h m t a = 45 from fun w => w c2), ze_X12_sum_31]
          unfold zb_X12_sum_31
          rw [zr_here hN h (by omega), Option.bind_some]
          dsimp only
          rw [if_pos (show ¬ zq_h m t a = 43 from c1), zr_11, zr_at, nI_1]
          have s2 := (ih dp (a + 1) hdp (by omega)).1 2 D (by omega) (by omega) (by omega)
          generalize hq2 : zq_g m t e f 2 dp 0 (a + 1) = q2 at s2 ⊢
          cases q2 with
          | inl y =>
            obtain ⟨hy, v', b', s2⟩ := s2
            obtain ⟨u3, rfl⟩ : ∃ u3, u2 = u3 + 1 + 1 := ⟨u2 - 2, by omega⟩
            rw [s2, Option.bind_some, if_pos (rfl : (0 : Int32) = 0), ze_X12_sum_6]
            unfold zb_X12_sum_6
            simp only []
            rw [zr_bad hy, if_pos rfl, ze_X12_sum_82]
            exact ⟨hy, _, _, rfl⟩
          | inr p2 =>
            obtain ⟨y, b2⟩ := p2
            have pr := zq_prog _ _ _ _ _ _ _ (by omega) hq2
            have s2 : zg_held N D 2 (nI dp) (zr_m B (nI (a + 1)) (-1)) J F = some (y, zr_m B (nI b2) (-1), J, F) := s2
            rw [s2, Option.bind_some, if_pos (rfl : (0 : Int32) = 0)]
            exact (ih dp b2 hdp (by omega)).2.1 (v - y) D u2 (by omega) (by omega) (by omega)
        · rw [if_neg c2, if_pos (show ¬ zq_h m t a = 45 from c2), ze_X12_sum_82]
          rfl
    · -- the rest of a product
      obtain ⟨u2, rfl⟩ : ∃ u2, u = u2 + 1 + 1 := ⟨u - 2, by omega⟩
      rw [ze_X12_product_6, zq_5]
      unfold zb_X12_product_6
      rw [if_neg (show ¬ zv_X12_fine (zr_m B (nI a) (-1)) = 0 by rw [zr_fine]; decide), zr_here hN h (by omega), Option.bind_some]
      dsimp only
      rw [zr_here hN h (by omega), Option.bind_some]
      dsimp only
      by_cases c1 : zq_h m t a = 42
      · have al := zq_hlt (k := 42) (by omega) c1
        rw [if_pos c1, if_pos c1, ze_X12_product_31]
        unfold zb_X12_product_31
        rw [zr_here hN h (by omega), Option.bind_some]
        dsimp only
        rw [if_neg (show ¬ ¬ zq_h m t a = 42 from fun w => w c1), zr_11, zr_at, nI_1]
        have s2 := (ih dp (a + 1) hdp (by omega)).1 3 D (by omega) (by omega) (by omega)
        generalize hq2 : zq_g m t e f 3 dp 0 (a + 1) = q2 at s2 ⊢
        cases q2 with
        | inl y =>
          obtain ⟨hy, v', b', s2⟩ := s2
          obtain ⟨u3, rfl⟩ : ∃ u3, u2 = u3 + 1 + 1 := ⟨u2 - 2, by omega⟩
          rw [s2, Option.bind_some, if_neg (show ¬ (1 : Int32) = 0 by decide), ze_X12_product_6]
          unfold zb_X12_product_6
          simp only []
          rw [zr_bad hy, if_pos rfl, ze_X12_product_91]
          exact ⟨hy, _, _, rfl⟩
        | inr p2 =>
          obtain ⟨y, b2⟩ := p2
          have pr := zq_prog _ _ _ _ _ _ _ (by omega) hq2
          have s2 : zg_held N D 3 (nI dp) (zr_m B (nI (a + 1)) (-1)) J F = some (y, zr_m B (nI b2) (-1), J, F) := s2
          rw [s2, Option.bind_some, if_neg (show ¬ (1 : Int32) = 0 by decide)]
          exact (ih dp b2 hdp (by omega)).2.2 (v * y) D u2 (by omega) (by omega) (by omega)
      · rw [if_neg c1, if_neg c1]
        by_cases c2 : zq_h m t a = 47
        · have al := zq_hlt (k := 47) (by omega) c2
          rw [if_pos c2, if_neg (show ¬ ¬ zq_h m t a = 47 from fun w => w c2), ze_X12_product_31]
          unfold zb_X12_product_31
          rw [zr_here hN h (by omega), Option.bind_some]
          dsimp only
          rw [if_pos (show ¬ zq_h m t a = 42 from c1), zr_11, zr_at, nI_1]
          have s2 := (ih dp (a + 1) hdp (by omega)).1 3 D (by omega) (by omega) (by omega)
          generalize hq2 : zq_g m t e f 3 dp 0 (a + 1) = q2 at s2 ⊢
          cases q2 with
          | inl y =>
            obtain ⟨hy, v', b', s2⟩ := s2
            obtain ⟨u3, rfl⟩ : ∃ u3, u2 = u3 + 1 + 1 := ⟨u2 - 2, by omega⟩
            rw [s2, Option.bind_some, if_pos (rfl : (0 : Int32) = 0)]
            have fin : ∀ w : Int32, zr_R B J F (.inl y) (zl_X12_product N (zg_held N D) (u3 + 1 + 1) 6 (nI dp) w (zr_m B b' (nI y)) J F) := by
              intro w
              rw [ze_X12_product_6]
              unfold zb_X12_product_6
              rw [zr_bad hy, if_pos rfl, ze_X12_product_91]
              exact ⟨hy, _, _, rfl⟩
            simp only []
            split
            · exact fin _
            · exact fin _
          | inr p2 =>
            obtain ⟨y, b2⟩ := p2
            have pr := zq_prog _ _ _ _ _ _ _ (by omega) hq2
            have s2 : zg_held N D 3 (nI dp) (zr_m B (nI (a + 1)) (-1)) J F = some (y, zr_m B (nI b2) (-1), J, F) := s2
            rw [s2, Option.bind_some, if_pos (rfl : (0 : Int32) = 0)]
            have nx := (ih dp b2 hdp (by omega)).2.2 (if y = 0 then 0 else v / y) D u2 (by omega) (by omega) (by omega)
            simp only []
            by_cases z : y = 0
            · rw [if_neg (show ¬ ¬ y = 0 from fun w => w z)]
              simp only [if_pos z] at nx ⊢
              exact nx
            · rw [if_pos (show ¬ y = 0 from z)]
              simp only [if_neg z] at nx ⊢
              exact nx
        · rw [if_neg c2, if_pos (show ¬ zq_h m t a = 47 from c2), ze_X12_product_91]
          rfl
