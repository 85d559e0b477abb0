/-! LIKELY, its end -/
def zh_hv (w : Nat → Nat) : Nat → Nat
  | 0 => 0
  | k + 1 => if w (zh_hv w k) < w (k + 1) then k + 1 else zh_hv w k
theorem zh_hv_le (w : Nat → Nat) : ∀ k, zh_hv w k ≤ k
  | 0 => Nat.le_refl 0
  | k + 1 => by
    have := zh_hv_le w k
    unfold zh_hv
    split <;> omega
theorem zs_heavy_l {N : Nat} {I : Nat → Nat → Int32} {J : Nat → Nat → Int64} (w : Nat → Nat) (hw : ∀ c, c < 13 → w c < 2 ^ 31 ∧ I 50 c = nI (w c)) : ∀ k s f, s + k = 12 → k < f → zl_X2_heaviestCount N f 4 (nI (zh_hv w s)) (nI (s + 1)) I J = some (nI (zh_hv w 12), I, J) := by
  intro k
  induction k with
  | zero =>
    intro s f hs hf
    obtain ⟨m, rfl⟩ : ∃ m, f = m + 1 := ⟨f - 1, by omega⟩
    obtain rfl : s = 12 := by omega
    rw [zo_X2_heaviestCount_4]
    unfold zb_X2_heaviestCount_4
    rw [if_pos (nI_le (Nat.le_refl 13) (by omega))]
  | succ k ih =>
    intro s f hs hf
    obtain ⟨m, rfl⟩ : ∃ m, f = m + 1 := ⟨f - 1, by omega⟩
    refine Eq.trans ?_ (ih (s + 1) m (by omega) (by omega))
    have hl := zh_hv_le w s
    rw [zo_X2_heaviestCount_4]
    unfold zb_X2_heaviestCount_4
    rw [if_neg (nI_ge (show s + 1 < 13 by omega) (by omega)), if_pos (nI_in (show s + 1 < 13 by omega) (by omega)), if_pos (nI_in (show zh_hv w s < 13 by omega) (by omega)), nI_clamp (by omega), nI_clamp (by omega), (hw (s + 1) (by omega)).2, (hw (zh_hv w s) (by omega)).2, nI_1]
    rw [show zh_hv w (s + 1) = if w (zh_hv w s) < w (s + 1) then s + 1 else zh_hv w s from rfl]
    by_cases c : w (zh_hv w s) < w (s + 1)
    · rw [if_neg (nI_ge c (hw (s + 1) (by omega)).1), if_pos c]
    · rw [if_pos (nI_le (by omega) (hw (zh_hv w s) (by omega)).1), if_neg c]
theorem zs_all_l {N : Nat} {I : Nat → Nat → Int32} {J : Nat → Nat → Int64} : ∀ k s f, s + k = 6 → k < f → zl_X2_weightOfAll N f 4 (nI (10 ^ s)) (nI s) I J = some (nI 1000000, I, J) := by
  intro k
  induction k with
  | zero =>
    intro s f hs hf
    obtain ⟨m, rfl⟩ : ∃ m, f = m + 1 := ⟨f - 1, by omega⟩
    obtain rfl : s = 6 := by omega
    rw [zo_X2_weightOfAll_4]
    unfold zb_X2_weightOfAll_4
    rw [if_pos (by decide)]
  | succ k ih =>
    intro s f hs hf
    obtain ⟨m, rfl⟩ : ∃ m, f = m + 1 := ⟨f - 1, by omega⟩
    refine Eq.trans ?_ (ih (s + 1) m (by omega) (by omega))
    rw [zo_X2_weightOfAll_4]
    unfold zb_X2_weightOfAll_4
    rw [if_neg (show ¬ (6 : Int32) ≤ nI s from nI_ge (b := 6) (by omega) (by omega)), show (10 : Int32) = nI 10 from rfl, pk_mul, nI_1, Nat.pow_succ]
theorem zm_lik1_l {N : Nat} {I : Nat → Nat → Int32} {J : Nat → Nat → Int64} (x y : Int32) (Q : Option (Int32 × (Nat → Nat → Int32) × (Nat → Nat → Int64)) → Prop) : ∀ k s f (g : Nat → Int64), s + k = 13 → (∀ c, c < s → g c = 0) → (∀ m g', (∀ c, c < 13 → g' c = 0) → f ≤ m + k + 1 → Q (zl_X12_likely N m 46 x y 0 0 I (zh_r J 78 g'))) → k < f → Q (zl_X12_likely N f 25 x y (nI s) 0 I (zh_r J 78 g)) := by
  intro k
  induction k with
  | zero =>
    intro s f g hs hg hR hf
    obtain ⟨m, rfl⟩ : ∃ m, f = m + 1 := ⟨f - 1, by omega⟩
    obtain rfl : s = 13 := by omega
    rw [zo_X12_likely_25]
    unfold zb_X12_likely_25
    rw [if_pos (by decide)]
    exact hR m g hg (by omega)
  | succ k ih =>
    intro s f g hs hg hR hf
    obtain ⟨m, rfl⟩ : ∃ m, f = m + 1 := ⟨f - 1, by omega⟩
    rw [zo_X12_likely_25]
    unfold zb_X12_likely_25
    rw [if_neg (show ¬ (12 : Int32) < nI s from nI_nlt (a := 12) (by omega) (by omega)), if_pos (nI_in (show s < 13 by omega) (by omega)), nI_clamp (by omega), nI_1, zh_ru]
    refine ih (s + 1) m _ (by omega) (fun c hc => ?_) (fun m' g' hg' hm => hR m' g' hg' (by omega)) (by omega)
    unfold zh_up
    split
    · rfl
    · exact hg c (by omega)
theorem zm_lik2_l {N n : Nat} (hN : 100000 ≤ N) (hn : n ≤ 12) {I : Nat → Nat → Int32} {J : Nat → Nat → Int64} (h1 : I 52 1 = nI n) (q : Nat) (hq : q ≤ 10) (Q : Option (Int32 × (Nat → Nat → Int32) × (Nat → Nat → Int64)) → Prop) : ∀ k s f (g : Nat → Int64), s + k = 64 → (∀ c, c < 13 → g c = lN (zh_ws (zh_cn n (I 53) (I 54)) (zh_w6 q) s c)) → (∀ m g', (∀ c, c < 13 → g' c = lN (zh_ws (zh_cn n (I 53) (I 54)) (zh_w6 q) 64 c)) → f ≤ m + k + 1 → Q (zl_X12_likely N m 115 0 0 0 1 I (zh_r J 78 g'))) → k < f → Q (zl_X12_likely N f 46 (nI q) (zh_W n (I 53) 0) (nI s) 0 I (zh_r J 78 g)) := by
  intro k
  induction k with
  | zero =>
    intro s f g hs hg hR hf
    obtain ⟨m, rfl⟩ : ∃ m, f = m + 1 := ⟨f - 1, by omega⟩
    obtain rfl : s = 64 := by omega
    rw [zo_X12_likely_46]
    unfold zb_X12_likely_46
    rw [if_pos (by decide)]
    exact hR m g hg (by omega)
  | succ k ih =>
    intro s f g hs hg hR hf
    obtain ⟨m, rfl⟩ : ∃ m, f = m + 1 := ⟨f - 1, by omega⟩
    have hcn := zh_cn_le hn (I 53) (I 54) s
    have b1 : zv_J6_bitCount (nI s) = nI (zh_b s) := zu_bcN (by omega)
    have b6 : zh_b s ≤ 6 := by
      have : ∀ s, s < 64 → zh_b s ≤ 6 := by decide +kernel
      exact this s (by omega)
    rw [zo_X12_likely_46]
    unfold zb_X12_likely_46
    rw [if_neg (show ¬ (64 : Int32) ≤ nI s from nI_ge (b := 64) (by omega) (by omega))]
    rw [zm_with hN hn h1]
    simp only [Option.bind_some, zm_cn hn, b1]
    rw [if_pos (nI_in (show zh_cn n (I 53) (I 54) s < 13 by omega) (by omega)), nI_clamp (by omega), zh_rr, nI_l (by omega), show (10 : Int32) - nI q = nI (10 - q) from pk_sub (a := 10) (by omega), nI_l (by omega), show (6 : Int32) - nI (zh_b s) = nI (6 - zh_b s) from pk_sub (a := 6) (by omega)]
    rw [zm_pow hN _ _ (by omega), Option.bind_some, zm_pow hN _ _ (by omega), Option.bind_some, zh_ru, nI_1]
    simp only [lN_mul]
    refine ih (s + 1) m _ (by omega) (fun c hc => ?_) (fun m' g' hg' hm => hR m' g' hg' (by omega)) (by omega)
    unfold zh_up
    rw [show zh_ws (zh_cn n (I 53) (I 54)) (zh_w6 q) (s + 1) c = zh_ws (zh_cn n (I 53) (I 54)) (zh_w6 q) s c + (if zh_cn n (I 53) (I 54) s = c then zh_w6 q s else 0) from rfl]
    by_cases e : c = zh_cn n (I 53) (I 54) s
    · rw [if_pos e, if_pos e.symm, ← e, hg c hc, lN_add]
      rfl
    · rw [if_neg e, if_neg (fun w => e w.symm), Nat.add_zero]
      exact hg c hc
theorem zm_lik3_l {N : Nat} (hN : 100000 ≤ N) {I : Nat → Nat → Int32} {J : Nat → Nat → Int64} (w : Nat → Nat) (hw : ∀ c, c < 13 → w c < 2 ^ 31 ∧ J 78 c = lN (w c)) : ∀ k s f, s + k = 12 → 2 * k < f → zl_X12_likely N f 115 0 0 (nI (zh_hv w s)) (nI (s + 1)) I J = some (nI (zh_hv w 12), zz_u I 52 6 2, zz_u (zz_u J 56 0 (lN (w (zh_hv w 12)) / lN (Nat.gcd (w (zh_hv w 12)) 1000000))) 56 1 (lN 1000000 / lN (Nat.gcd (w (zh_hv w 12)) 1000000))) := by
  intro k
  induction k with
  | zero =>
    intro s f hs hf
    obtain ⟨m, rfl⟩ : ∃ m, f = m + 1 := ⟨f - 1, by omega⟩
    obtain rfl : s = 12 := by omega
    have hl := zh_hv_le w 12
    rw [zo_X12_likely_115]
    unfold zb_X12_likely_115
    rw [if_pos (by decide), if_pos (nI_in (show zh_hv w 12 < 13 by omega) (by omega)), nI_clamp (by omega), (hw (zh_hv w 12) (by omega)).2]
    refine zu_bd (zm_pow hN 10 6 (by omega)) (zu_bd (zm_part hN (hw (zh_hv w 12) (by omega)).1 (by omega) (by omega)) rfl)
  | succ k ih =>
    intro s f hs hf
    obtain ⟨m, rfl⟩ : ∃ m, f = m + 1 + 1 := ⟨f - 2, by omega⟩
    refine Eq.trans ?_ (ih (s + 1) m (by omega) (by omega))
    have hl := zh_hv_le w s
    have a1 := (hw (s + 1) (by omega)).1
    have a2 := (hw (zh_hv w s) (by omega)).1
    rw [zo_X12_likely_115]
    unfold zb_X12_likely_115
    rw [if_neg (show ¬ (12 : Int32) < nI (s + 1) from nI_nlt (a := 12) (by omega) (by omega)), if_pos (nI_in (show s + 1 < 13 by omega) (by omega)), if_pos (nI_in (show zh_hv w s < 13 by omega) (by omega)), nI_clamp (by omega), nI_clamp (by omega), (hw (s + 1) (by omega)).2, (hw (zh_hv w s) (by omega)).2]
    simp only [zo_X12_likely_142, zb_X12_likely_142, nI_1]
    rw [show zh_hv w (s + 1) = if w (zh_hv w s) < w (s + 1) then s + 1 else zh_hv w s from rfl]
    by_cases c : w (zh_hv w s) < w (s + 1)
    · rw [if_neg (fun q => by rw [lg_cmp_le, lN_le (by omega) (by omega)] at q; omega), if_pos c]
    · rw [if_pos (by rw [lg_cmp_le, lN_le (by omega) (by omega)]; omega), if_neg c]
theorem zy_likely {N n : Nat} (hN : 100000 ≤ N) {I : Nat → Nat → Int32} {J : Nat → Nat → Int64} {F : zz_F} (h : zi n I J F) (x : Int32) : ∃ v I1 J1 I2 J2, zf_X11_likely N x I J = some (v, I1, J1) ∧ zf_X12_likely N x I1 J1 = some (v, I2, J2) ∧ zi n I2 J2 F := by
  have hn := h.1.1
  have hW : I 8 2 = zh_W n (I 53) 0 := h.2.1.2.2.1
  obtain ⟨M, rfl⟩ := zu_one N hN
  rcases zu_bet x 10 (by omega) with q | ⟨q, hq, rfl⟩
  · have a : zf_X11_likely (M + 1) x I J = some (-1, I, J) := by
      rw [zo_X11_likely]
      unfold zb_X11_likely_0
      rcases q with q | q
      · exact zu_gd q rfl
      · by_cases z : x < 0
        · exact zu_gd z rfl
        · exact zu_gn z (zu_gn (show ¬ x ≤ nI 10 from Int32.not_le.mpr q) rfl)
    have b : zf_X12_likely (M + 1) x I J = some (-1, zz_u I 52 7 0, J) := by
      rw [zo_X12_likely]
      exact zu_gn (fun w => w (zu_inN 10 q)) rfl
    exact ⟨_, _, _, _, _, a, b, zi_q0 h⟩
  · generalize hw : zh_ws (zh_cn n (I 53) (I 54)) (zh_w6 q) 64 = w
    have wl : ∀ c, w c < 2 ^ 31 := fun c => by
      rw [← hw]
      have := zh_ws_le (cn := zh_cn n (I 53) (I 54)) 64 c (zh_w6_le q hq)
      omega
    have hv := zh_hv_le w 12
    obtain ⟨g, e1, e2⟩ : ∃ g', zf_X2_weighCounts (M + 1) (zh_W n (I 53) 0) (nI q) I J = some (0, zh_r I 50 g', J) ∧ ∀ c, c < 13 → g' c = nI (w c) := by
      have two := fun m g' (hg' : ∀ c, c < 13 → g' c = (0 : Int32)) (hm : 64 < m) => zs_wei2_l (J := J) hN h.1 q hq 64 0 m g' (by omega) (fun c hc => hg' c hc) hm
      obtain ⟨g1, a1, a2⟩ := two 65 (fun _ => 0) (fun _ _ => rfl) (by omega)
      have full : ∀ m g', (∀ c, c < 13 → g' c = (0 : Int32)) → 64 < m → ∃ g2, zl_X2_weighCounts (M + 1) m 26 (zh_W n (I 53) 0) (nI q) (nI 0) 0 0 (zh_r I 50 g') J = some (0, zh_r I 50 g2, J) ∧ ∀ c, c < 13 → g2 c = nI (w c) := fun m g' hg' hm => by
        obtain ⟨g2, b1, b2⟩ := two m g' hg' hm
        refine ⟨g2, b1, fun c hc => ?_⟩
        rw [b2 c hc, ← hw]
        exact congrArg nI (zh_ws_rev (zh_cn n (I 53) (I 54)) (zh_w6 q) 64 c)
      have go : ∀ k s f (g : Nat → Int32), s + k = 13 → (∀ c, c < s → g c = 0) → k + 66 < f → ∃ g2, zl_X2_weighCounts (M + 1) f 2 (zh_W n (I 53) 0) (nI q) (nI s) 0 0 (zh_r I 50 g) J = some (0, zh_r I 50 g2, J) ∧ ∀ c, c < 13 → g2 c = nI (w c) := by
        intro k
        induction k with
        | zero =>
          intro s f g hs hg hf
          obtain ⟨m, rfl⟩ : ∃ m, f = m + 1 := ⟨f - 1, by omega⟩
          obtain rfl : s = 13 := by omega
          rw [zo_X2_weighCounts_2]
          unfold zb_X2_weighCounts_2
          rw [if_pos (nI_le (Nat.le_refl 13) (by omega))]
          exact full m g hg (by omega)
        | succ k ih =>
          intro s f g hs hg hf
          obtain ⟨m, rfl⟩ : ∃ m, f = m + 1 := ⟨f - 1, by omega⟩
          rw [zo_X2_weighCounts_2]
          unfold zb_X2_weighCounts_2
          rw [if_neg (nI_ge (show s < 13 by omega) (by omega)), if_pos (nI_in (show s < 13 by omega) (by omega)), nI_clamp (by omega), nI_1, zh_ru]
          refine ih (s + 1) m _ (by omega) (fun c hc => ?_) (by omega)
          unfold zh_up
          split
          · rfl
          · exact hg c (by omega)
      rw [zo_X2_weighCounts]
      have := go 13 0 M (I 50) (by omega) (fun c hc => by omega) (by omega)
      rw [zh_rs] at this
      exact this
    have a : zf_X11_likely (M + 1) (nI q) I J = some (nI (zh_hv w 12), zz_u (zh_r I 50 g) 2 3 2, zz_u (zz_u J 4 0 (lN (w (zh_hv w 12)) / lN (Nat.gcd (w (zh_hv w 12)) 1000000))) 4 1 (lN 1000000 / lN (Nat.gcd (w (zh_hv w 12)) 1000000))) := by
      rw [zo_X11_likely]
      unfold zb_X11_likely_0
      refine zu_gn (nI_pos (by omega)) (zu_gd (show nI q ≤ nI 10 from nI_le hq (by omega)) ?_)
      rw [hW]
      have eh : zf_X2_heaviestCount (M + 1) (zh_r I 50 g) J = some (nI (zh_hv w 12), zh_r I 50 g, J) := by
        rw [zo_X2_heaviestCount]
        exact zs_heavy_l w (fun c hc => ⟨wl c, by rw [zh_rr]; exact e2 c hc⟩) 12 0 M (by omega) (by omega)
      have ea : zf_X2_weightOfAll (M + 1) (zh_r I 50 g) J = some (nI 1000000, zh_r I 50 g, J) := by
        rw [zo_X2_weightOfAll]
        exact zs_all_l 6 0 M (by omega) (by omega)
      refine zu_bd e1 (zu_bd eh (zu_bd ea ?_))
      have wo : zv_X2_weightOf (zh_r I 50 g) (nI (zh_hv w 12)) = nI (w (zh_hv w 12)) := by
        unfold zv_X2_weightOf
        rw [if_neg (nI_pos (by omega)), if_neg (nI_ge (show zh_hv w 12 < 13 by omega) (by omega)), nI_clamp (by omega), zh_rr, e2 _ (by omega)]
      simp only [wo]
      rw [nI_l (wl _), nI_l (by omega)]
      exact zu_bd (zs_frac hN (wl _) (by omega) (by omega)) rfl
    have b : ∀ (I' : Nat → Nat → Int32) (J : Nat → Nat → Int64), I' 52 1 = nI n → I' 53 = I 53 → I' 54 = I 54 → ∃ g', zf_X12_likely (M + 1) (nI q) I' J = some (nI (zh_hv w 12), zz_u (zz_u I' 52 7 0) 52 6 2, zz_u (zz_u (zh_r J 78 g') 56 0 (lN (w (zh_hv w 12)) / lN (Nat.gcd (w (zh_hv w 12)) 1000000))) 56 1 (lN 1000000 / lN (Nat.gcd (w (zh_hv w 12)) 1000000))) := by
      intro I' J h1 e53 e54
      rw [zo_X12_likely]
      unfold zb_X12_likely_0
      have l3 : ∀ m g', (∀ c, c < 13 → g' c = lN (w c)) → 25 < m → ∃ g2, zl_X12_likely (M + 1) m 115 0 0 0 1 (zz_u I' 52 7 0) (zh_r J 78 g') = some (nI (zh_hv w 12), zz_u (zz_u I' 52 7 0) 52 6 2, zz_u (zz_u (zh_r J 78 g2) 56 0 (lN (w (zh_hv w 12)) / lN (Nat.gcd (w (zh_hv w 12)) 1000000))) 56 1 (lN 1000000 / lN (Nat.gcd (w (zh_hv w 12)) 1000000))) := fun m g' hg' hm => ⟨g', zm_lik3_l (J := zh_r J 78 g') hN w (fun c hc => ⟨wl c, by rw [zh_rr]; exact hg' c hc⟩) 12 0 m (by omega) (by omega)⟩
      have l2 : ∀ m g', (∀ c, c < 13 → g' c = 0) → 65 + 26 < m → ∃ g2, zl_X12_likely (M + 1) m 46 (nI q) (zh_W n (I 53) 0) 0 0 (zz_u I' 52 7 0) (zh_r J 78 g') = some (nI (zh_hv w 12), zz_u (zz_u I' 52 7 0) 52 6 2, zz_u (zz_u (zh_r J 78 g2) 56 0 (lN (w (zh_hv w 12)) / lN (Nat.gcd (w (zh_hv w 12)) 1000000))) 56 1 (lN 1000000 / lN (Nat.gcd (w (zh_hv w 12)) 1000000))) := fun m g' hg' hm => by
        have := zm_lik2_l (I := zz_u I' 52 7 0) (J := J) hN hn h1 q hq (fun r => ∃ g2, r = some (nI (zh_hv w 12), zz_u (zz_u I' 52 7 0) 52 6 2, zz_u (zz_u (zh_r J 78 g2) 56 0 (lN (w (zh_hv w 12)) / lN (Nat.gcd (w (zh_hv w 12)) 1000000))) 56 1 (lN 1000000 / lN (Nat.gcd (w (zh_hv w 12)) 1000000)))) 64 0 m g' (by omega) (fun c hc => hg' c hc) (fun m' g2 hg2 hm' => l3 m' g2 (fun c hc => by
          rw [hg2 c hc, ← hw, ← e53, ← e54]
          rfl) (by omega)) (by omega)
        rw [← e53]
        exact this
      rw [if_pos (by rw [show (10 : Int32) = nI 10 from rfl, zu_inY (by omega) hq]; decide), zm_where (I := zz_u I' 52 7 0) hN hn h1, Option.bind_some]
      have := zm_lik1_l (N := M + 1) (I := zz_u I' 52 7 0) (J := J) (nI q) (zh_W n (I 53) 0) (fun r => ∃ g2, r = some (nI (zh_hv w 12), zz_u (zz_u I' 52 7 0) 52 6 2, zz_u (zz_u (zh_r J 78 g2) 56 0 (lN (w (zh_hv w 12)) / lN (Nat.gcd (w (zh_hv w 12)) 1000000))) 56 1 (lN 1000000 / lN (Nat.gcd (w (zh_hv w 12)) 1000000)))) 13 0 M (J 78) (by omega) (fun c hc => by omega) (fun m g' hg' hm => l2 m g' hg' (by omega)) (by omega)
      rw [zh_rs] at this
      rw [show zz_u I' 52 7 0 53 = I 53 from e53]
      exact this
    obtain ⟨g', b⟩ := b (zz_u (zh_r I 50 g) 2 3 2) (zz_u (zz_u J 4 0 (lN (w (zh_hv w 12)) / lN (Nat.gcd (w (zh_hv w 12)) 1000000))) 4 1 (lN 1000000 / lN (Nat.gcd (w (zh_hv w 12)) 1000000))) h.1.2.1 rfl rfl
    exact ⟨_, _, _, _, _, a, b, zi_told h (zk_u rfl (zk_u rfl (zk_u rfl (zk_r (fun _ => rfl) (zk_refl I))))) (zi_tol2 rfl rfl rfl rfl) h.2.2.2.2.2.2.2.2⟩
