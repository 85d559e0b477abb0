/-! THE TWO READERS OF A RULE AGREE -/
theorem zg_stop_le {r r' : Nat} {w : List Int32} (h : zg_stop r w) (hr : r ≤ r') : zg_stop r' w := by
  rcases h with rfl | ⟨x, w1, rfl, hx⟩
  · exact .inl rfl
  · exact .inr ⟨x, w1, rfl, hx.imp id (fun q => by omega)⟩
theorem zg_le {p : List Int32} {L L' : Nat} (hp : ∀ x, x ∈ p → x ≠ 40 ∧ L ≤ zg_rk x) (h : L' ≤ L) : ∀ x, x ∈ p → x ≠ 40 ∧ L' ≤ zg_rk x := fun x hx => ⟨(hp x hx).1, by have := (hp x hx).2; omega⟩
/-- a sign, then what stands behind it -/
theorem zg_two {H e : Nat → Int32} {m a b : Nat} {s0 : zg_S} {cs0 w0 p cs' : List Int32} {d dg' L : Nat} {mk mk' : Nat → Bool} {u c : Int32} (hc : c = 42 ∨ c = 47 ∨ c = 43 ∨ c = 45 ∨ c = 60 ∨ c = 61 ∨ c = 62) (hL : zg_rk c = L) (hb : H b = c)
    (r1 : zg_to H a s0 b (cs', p ++ w0, d, mk', dg', false)) (r2 : ∀ x, x ∈ p → x ≠ 40 ∧ L ≤ zg_rk x) (r3 : zg_ev e (zg_em p cs') = u :: zg_ev e cs0) (r4 : ∀ k, k < d → mk' k = mk k) (r4' : mk' d = mk d) (hs : zg_stop L w0) (hm : L = 1 → mk d = false) :
    ∃ mk2, zg_to H a s0 (b + 1) (zg_em p cs', c :: w0, d, mk2, dg', true) ∧ (∀ k, k < d → mk2 k = mk k) ∧ (2 ≤ L → mk2 d = mk d) ∧ (L = 1 → mk2 d = true) ∧ zg_stop (L + 1) (c :: w0) ∧ ∀ q : Nat ⊕ (Int32 × Nat), zg_R (L + 1) H e m (b + 1) (zg_em p cs', c :: w0, d, mk2, dg', true) (zg_em p cs') (c :: w0) d mk2 q → (∀ x, q = .inl x → zg_B H m a s0 x) ∧ ∀ w b2, q = .inr (w, b2) → ∃ p2 cs2 mk3 dg3, zg_to H a s0 b2 (cs2, p2 ++ w0, d, mk3, dg3, false) ∧ (∀ x, x ∈ p2 → x ≠ 40 ∧ L ≤ zg_rk x) ∧ zg_ev e (zg_em p2 cs2) = zc_j c u w :: zg_ev e cs0 ∧ (∀ k, k < d → mk3 k = mk k) ∧ (2 ≤ L → mk3 d = mk d) ∧ (L = 1 → mk3 d = true) ∧ (zq_dig (H b2) = true → ¬ (dg3 = 1 ∨ dg3 = 2)) ∧ zg_St (L + 1) (H b2) (mk3 d) := by
  have L13 : 1 ≤ L ∧ L ≤ 3 := by rcases hc with rfl | rfl | rfl | rfl | rfl | rfl | rfl <;> rw [← hL] <;> decide
  have c40 : c ≠ 40 := by rcases hc with rfl | rfl | rfl | rfl | rfl | rfl | rfl <;> decide
  have st := zg_op (cs := cs') (dg := dg') (c := c) hL L13.1 L13.2 r2 hs (fun q => r4'.trans (hm q))
  rw [← hb] at st
  have to := zg_to_trans r1 (zg_to_step st)
  rw [hb] at to
  refine ⟨_, to, fun k hk => ?_, fun h2 => ?_, fun h1 => ?_, .inr ⟨c, w0, rfl, .inr (by omega)⟩, fun q hq => ⟨fun x hx => ?_, fun w b2 hx => ?_⟩⟩
  · by_cases q : L = 1
    · rw [if_pos q, if_neg (by omega)]; exact r4 k hk
    · rw [if_neg q]; exact r4 k hk
  · rw [if_neg (by omega)]; exact r4'
  · rw [if_pos h1, if_pos rfl]
  · subst hx
    exact zg_B_pre to hq
  · subst hx
    obtain ⟨p2, cs2, mk3, dg3, t1, t2, t3, t4, t4', t5, t6⟩ := hq
    have t1' := zg_to_trans to t1
    rw [show p2 ++ c :: w0 = (p2 ++ [c]) ++ w0 by rw [List.append_assoc]; rfl] at t1'
    rw [r3] at t3
    refine ⟨p2 ++ [c], cs2, mk3, dg3, t1', zg_mem (zg_le t2 (by omega)) ⟨c40, by omega⟩, zg_ev_j hc p2 cs2 t3, fun k hk => ?_, fun h2 => ?_, fun h1 => ?_, t5, t6⟩
    · rw [t4 k hk]
      by_cases q : L = 1
      · rw [if_pos q, if_neg (by omega)]; exact r4 k hk
      · rw [if_neg q]; exact r4 k hk
    · rw [t4' (by omega), if_neg (by omega)]; exact r4'
    · rw [t4' (by omega), if_pos h1, if_pos rfl]
theorem zq_d48 {c : Int32} (h : zq_dig c = true) : ¬ c = 45 ∧ ¬ c = 40 ∧ ¬ c = 41 := by
  unfold zq_dig at h
  have h := of_decide_eq_true h
  refine ⟨fun w => ?_, fun w => ?_, fun w => ?_⟩ <;> subst w <;> exact absurd h (by decide)
theorem zg_ahd {cs w : List Int32} {d dg : Nat} {mk : Nat → Bool} {c : Int32} (h : zq_dig c = true) : zg_step (cs, w, d, mk, dg, true) c = some ((c - 48) :: cs, w, d, mk, 1, false) := by
  unfold zg_step zg_ah
  rw [if_pos rfl, if_neg (zq_d48 h).1, if_neg (zq_d48 h).2.1, if_pos h]
theorem zg_bhd {cs w : List Int32} {d dg : Nat} {mk : Nat → Bool} {c k : Int32} (h : zq_dig c = true) (hd : dg = 1 ∨ dg = 2) : zg_step (k :: cs, w, d, mk, dg, false) c = some ((k * 10 + (c - 48)) :: cs, w, d, mk, dg + 1, false) := by
  unfold zg_step zg_bh
  rw [if_neg Bool.false_ne_true, if_pos h, if_pos hd]
theorem zq_dn {c : Int32} (h : zq_dig c = true) : ∃ j, j ≤ 9 ∧ c - 48 = nI j := by
  unfold zq_dig at h
  have h := of_decide_eq_true h
  exact zh_rg (c := 48) (k := 9) (by omega) h.1 h.2
theorem zc_1n {e : Nat → Int32} {k : Nat} (hk : k < 1000) (st : List Int32) : zc_1 e (nI k) st = nI k :: st := by
  unfold zc_1
  rw [if_pos (Int32.not_lt.mp (nI_pos (by omega)))]
/-- a number -/
theorem zg_num {m : Nat} {t e : Nat → Int32} {a : Nat} {cs w : List Int32} {d dg : Nat} {mk : Nat → Bool} (h : zq_dig (zq_h m t a) = true) : zg_G 4 (zq_h m t) e a (cs, w, d, mk, dg, true) cs w d mk (zq_num m t a).1 (zq_num m t a).2 := by
  obtain ⟨j0, g0, e0⟩ := zq_dn h
  have s0 := zg_ahd (cs := cs) (w := w) (d := d) (dg := dg) (mk := mk) h
  have st4 : ∀ c b, zg_St 4 c b := fun c b => ⟨fun q => by omega, fun q => by omega, fun q => by omega⟩
  unfold zq_num
  by_cases h1 : zq_dig (zq_h m t (a + 1)) = true
  · obtain ⟨j1, g1, e1⟩ := zq_dn h1
    rw [if_pos h1]
    have s1 := zg_bhd (cs := cs) (w := w) (d := d) (dg := 1) (mk := mk) (k := zq_h m t a - 48) h1 (.inl rfl)
    have v1 : (zq_h m t a - 48) * 10 + (zq_h m t (a + 1) - 48) = nI (j0 * 10 + j1) := by
      rw [e0, e1, show nI j0 * 10 = nI (j0 * 10) from pk_mul j0 10, nI_add]
    have v1' : 10 * (zq_h m t a - 48) + (zq_h m t (a + 1) - 48) = nI (j0 * 10 + j1) := by
      rw [e0, e1, show (10 : Int32) * nI j0 = nI (10 * j0) from pk_mul 10 j0, nI_add, Nat.mul_comm]
    rw [v1] at s1
    by_cases h2 : zq_dig (zq_h m t (a + 2)) = true
    · obtain ⟨j2, g2, e2⟩ := zq_dn h2
      rw [if_pos h2]
      have s2 := zg_bhd (cs := cs) (w := w) (d := d) (dg := 2) (mk := mk) (k := nI (j0 * 10 + j1)) h2 (.inr rfl)
      have v2 : nI (j0 * 10 + j1) * 10 + (zq_h m t (a + 2) - 48) = nI ((j0 * 10 + j1) * 10 + j2) := by
        rw [e2, show nI (j0 * 10 + j1) * 10 = nI ((j0 * 10 + j1) * 10) from pk_mul _ 10, nI_add]
      have v2' : 10 * (10 * (zq_h m t a - 48) + (zq_h m t (a + 1) - 48)) + (zq_h m t (a + 2) - 48) = nI ((j0 * 10 + j1) * 10 + j2) := by
        rw [v1', e2, show (10 : Int32) * nI (j0 * 10 + j1) = nI (10 * (j0 * 10 + j1)) from pk_mul 10 _, nI_add, Nat.mul_comm 10]
      rw [v2] at s2
      rw [v2']
      exact ⟨[], nI ((j0 * 10 + j1) * 10 + j2) :: cs, mk, 3, zg_to_one s0 (zg_to_one s1 (zg_to_step s2)), fun x hx => (by cases hx), zc_1n (by omega) _, fun _ _ => rfl, fun _ => rfl, fun _ => by omega, st4 _ _⟩
    · rw [if_neg h2, v1']
      exact ⟨[], nI (j0 * 10 + j1) :: cs, mk, 2, zg_to_one s0 (zg_to_step s1), fun x hx => (by cases hx), zc_1n (by omega) _, fun _ _ => rfl, fun _ => rfl, fun q => absurd q h2, st4 _ _⟩
  · rw [if_neg h1]
    rw [e0] at s0 ⊢
    exact ⟨[], nI j0 :: cs, mk, 1, zg_to_step s0, fun x hx => (by cases hx), zc_1n (by omega) _, fun _ _ => rfl, fun _ => rfl, fun q => absurd q h1, st4 _ _⟩
theorem zc_1l {e : Nat → Int32} {c : Int32} (h : ¬ zq_let c = 6) (st : List Int32) : zc_1 e (-c) st = e (zq_let c) :: st := by
  have hc : c = 111 ∨ c = 112 ∨ c = 113 ∨ c = 109 ∨ c = 108 ∨ c = 115 := by
    unfold zq_let at h
    by_cases q1 : c = 111
    · exact .inl q1
    by_cases q2 : c = 112
    · exact .inr (.inl q2)
    by_cases q3 : c = 113
    · exact .inr (.inr (.inl q3))
    by_cases q4 : c = 109
    · exact .inr (.inr (.inr (.inl q4)))
    by_cases q5 : c = 108
    · exact .inr (.inr (.inr (.inr (.inl q5))))
    by_cases q6 : c = 115
    · exact .inr (.inr (.inr (.inr (.inr q6))))
    rw [if_neg q1, if_neg q2, if_neg q3, if_neg q4, if_neg q5, if_neg q6] at h
    exact absurd rfl h
  rcases hc with rfl | rfl | rfl | rfl | rfl | rfl <;> rfl
theorem zg_sim {m : Nat} {t : Nat → Int32} (e : Nat → Int32) : ∀ f d a, d ≤ 4 → a ≤ m →
    (∀ g cs0 w0 mk dg, g < 4 → 6 * (m - a) + 5 ≤ f + g → (g < 3 → zg_stop (g + 1) w0) → (g = 0 → mk d = false) → zg_R (g + 1) (zq_h m t) e m a (cs0, w0, d, mk, dg, true) cs0 w0 d mk (zq_g m t e f g d 0 a)) ∧
    (∀ v cs p cs0 w0 mk dg, 6 * (m - a) + 1 ≤ f → zg_stop 2 w0 → (∀ x, x ∈ p → x ≠ 40 ∧ 2 ≤ zg_rk x) → zg_ev e (zg_em p cs) = v :: zg_ev e cs0 → (zq_dig (zq_h m t a) = true → ¬ (dg = 1 ∨ dg = 2)) → zg_St 3 (zq_h m t a) (mk d) → zg_R 2 (zq_h m t) e m a (cs, p ++ w0, d, mk, dg, false) cs0 w0 d mk (zq_g m t e f 4 d v a)) ∧
    (∀ v cs p cs0 w0 mk dg, 6 * (m - a) + 1 ≤ f → zg_stop 3 w0 → (∀ x, x ∈ p → x ≠ 40 ∧ 3 ≤ zg_rk x) → zg_ev e (zg_em p cs) = v :: zg_ev e cs0 → (zq_dig (zq_h m t a) = true → ¬ (dg = 1 ∨ dg = 2)) → zg_R 3 (zq_h m t) e m a (cs, p ++ w0, d, mk, dg, false) cs0 w0 d mk (zq_g m t e f 5 d v a)) := by
  intro f
  induction f with
  | zero =>
    intro d a hd ha
    exact ⟨fun g _ _ _ _ hg h1 => by omega, fun _ _ _ _ _ _ _ h1 => by omega, fun _ _ _ _ _ _ _ h1 => by omega⟩
  | succ f ih =>
    intro d a hd ha
    refine ⟨fun g cs0 w0 mk dg hg hf hs hm => ?_, fun v cs p cs0 w0 mk dg hf hs hp hv hdg hSt => ?_, fun v cs p cs0 w0 mk dg hf hs hp hv hdg => ?_⟩
    · rcases (by omega : g = 0 ∨ g = 1 ∨ g = 2 ∨ g = 3) with rfl | rfl | rfl | rfl
      · -- a comparison
        have s1 := (ih d a hd ha).1 1 cs0 w0 mk dg (by omega) (by omega) (fun _ => zg_stop_le (hs (by omega)) (by omega)) (fun q => by omega)
        rw [zq_g]
        generalize hq : zq_g m t e f 1 d 0 a = q at s1 ⊢
        cases q with
        | inl x => exact s1
        | inr pr =>
          obtain ⟨u, b⟩ := pr
          have pr := zq_prog _ _ _ _ _ _ _ ha hq
          obtain ⟨p, cs', mk', dg', r1, r2, r3, r4, r4', r5, r6⟩ := s1
          have cmp : ∀ c : Int32, c = 60 ∨ c = 61 ∨ c = 62 → zq_h m t b = c → b < m → zg_R 1 (zq_h m t) e m a (cs0, w0, d, mk, dg, true) cs0 w0 d mk (match zq_g m t e f 1 d 0 (b + 1) with
              | .inl x => .inl x
              | .inr (w, b2) => .inr (zc_j c u w, b2)) := fun c hc hb bl => by
            have rk1 : zg_rk c = 1 := by rcases hc with rfl | rfl | rfl <;> decide
            obtain ⟨mk2, o1, o2, o3, o4, o5, o6⟩ := zg_two (m := m) (e := e) (by rcases hc with q | q | q <;> simp [q]) rk1 hb r1 (zg_le r2 (by omega)) r3 r4 (r4' (by omega)) (hs (by omega)) (fun _ => hm rfl)
            have s2 := (ih d (b + 1) hd (by omega)).1 1 (zg_em p cs') (c :: w0) mk2 dg' (by omega) (by omega) (fun _ => o5) (fun q => by omega)
            obtain ⟨k1, k2⟩ := o6 _ s2
            generalize zq_g m t e f 1 d 0 (b + 1) = q2 at k1 k2 ⊢
            cases q2 with
            | inl x => exact k1 x rfl
            | inr pr2 =>
              obtain ⟨w, b2⟩ := pr2
              obtain ⟨p2, cs2, mk3, dg3, t1, t2, t3, t4, t4', t4'', t5, t6⟩ := k2 w b2 rfl
              exact ⟨p2, cs2, mk3, dg3, t1, t2, t3, t4, fun q => by omega, t5, ⟨fun _ => t6.1 (by omega), fun _ => t6.2.1 (by omega), fun _ _ => t4'' rfl⟩⟩
          show zg_R 1 (zq_h m t) e m a (cs0, w0, d, mk, dg, true) cs0 w0 d mk (if zq_h m t b = 60 then _ else if zq_h m t b = 62 then _ else if zq_h m t b = 61 then _ else _)
          by_cases c1 : zq_h m t b = 60
          · rw [if_pos c1]
            exact cmp 60 (.inl rfl) c1 (zq_hlt (k := 60) (by omega) c1)
          by_cases c2 : zq_h m t b = 62
          · rw [if_neg c1, if_pos c2]
            exact cmp 62 (.inr (.inr rfl)) c2 (zq_hlt (k := 62) (by omega) c2)
          by_cases c3 : zq_h m t b = 61
          · rw [if_neg c1, if_neg c2, if_pos c3]
            exact cmp 61 (.inr (.inl rfl)) c3 (zq_hlt (k := 61) (by omega) c3)
          rw [if_neg c1, if_neg c2, if_neg c3]
          exact ⟨p, cs', mk', dg', r1, zg_le r2 (by omega), r3, r4, fun q => by omega, r5, ⟨fun _ => r6.1 (by omega), fun _ => r6.2.1 (by omega), fun _ q => by
            rcases q with q | q | q
            · exact absurd q c1
            · exact absurd q c3
            · exact absurd q c2⟩⟩
      · -- a sum
        have s1 := (ih d a hd ha).1 2 cs0 w0 mk dg (by omega) (by omega) (fun _ => zg_stop_le (hs (by omega)) (by omega)) (fun q => by omega)
        rw [zq_g]
        generalize hq : zq_g m t e f 2 d 0 a = q at s1 ⊢
        cases q with
        | inl x => exact s1
        | inr pr =>
          obtain ⟨u, b⟩ := pr
          have pr := zq_prog _ _ _ _ _ _ _ ha hq
          obtain ⟨p, cs', mk', dg', r1, r2, r3, r4, r4', r5, r6⟩ := s1
          have s2 := (ih d b hd (by omega)).2.1 u cs' p cs0 w0 mk' dg' (by omega) (hs (by omega)) (zg_le r2 (by omega)) r3 r5 r6
          show zg_R 2 (zq_h m t) e m a (cs0, w0, d, mk, dg, true) cs0 w0 d mk (zq_g m t e f 4 d u b)
          generalize zq_g m t e f 4 d u b = q2 at s2 ⊢
          cases q2 with
          | inl x => exact zg_B_pre r1 s2
          | inr pr2 =>
            obtain ⟨w, b2⟩ := pr2
            obtain ⟨p2, cs2, mk3, dg3, t1, t2, t3, t4, t4', t5, t6⟩ := s2
            exact ⟨p2, cs2, mk3, dg3, zg_to_trans r1 t1, t2, t3, fun k hk => (t4 k hk).trans (r4 k hk), fun q => (t4' q).trans (r4' (by omega)), t5, t6⟩
      · -- a product
        have s1 := (ih d a hd ha).1 3 cs0 w0 mk dg (by omega) (by omega) (fun q => by omega) (fun q => by omega)
        rw [zq_g]
        generalize hq : zq_g m t e f 3 d 0 a = q at s1 ⊢
        cases q with
        | inl x => exact s1
        | inr pr =>
          obtain ⟨u, b⟩ := pr
          have pr := zq_prog _ _ _ _ _ _ _ ha hq
          obtain ⟨p, cs', mk', dg', r1, r2, r3, r4, r4', r5, r6⟩ := s1
          have s2 := (ih d b hd (by omega)).2.2 u cs' p cs0 w0 mk' dg' (by omega) (hs (by omega)) (zg_le r2 (by omega)) r3 r5
          show zg_R 3 (zq_h m t) e m a (cs0, w0, d, mk, dg, true) cs0 w0 d mk (zq_g m t e f 5 d u b)
          generalize zq_g m t e f 5 d u b = q2 at s2 ⊢
          cases q2 with
          | inl x => exact zg_B_pre r1 s2
          | inr pr2 =>
            obtain ⟨w, b2⟩ := pr2
            obtain ⟨p2, cs2, mk3, dg3, t1, t2, t3, t4, t4', t5, t6⟩ := s2
            exact ⟨p2, cs2, mk3, dg3, zg_to_trans r1 t1, t2, t3, fun k hk => (t4 k hk).trans (r4 k hk), fun q => (t4' q).trans (r4' (by omega)), t5, t6⟩
      · -- a thing
        rw [zq_g]
        have st4 : ∀ c b, zg_St 4 c b := fun c b => ⟨fun q => by omega, fun q => by omega, fun q => by omega⟩
        show zg_R 4 (zq_h m t) e m a (cs0, w0, d, mk, dg, true) cs0 w0 d mk (if zq_h m t a = 45 then _ else if zq_h m t a = 40 ∧ d < 4 then _ else if zq_dig (zq_h m t a) = true then _ else if zq_let (zq_h m t a) = 6 then _ else _)
        by_cases c1 : zq_h m t a = 45
        · have al := zq_hlt (k := 45) (by omega) c1
          rw [if_pos c1]
          have st : zg_step (cs0, w0, d, mk, dg, true) (zq_h m t a) = some (cs0, 256 :: w0, d, mk, dg, true) := by
            rw [c1]; rfl
          have s1 := (ih d (a + 1) hd (by omega)).1 3 cs0 (256 :: w0) mk dg (by omega) (by omega) (fun q => by omega) (fun q => by omega)
          generalize zq_g m t e f 3 d 0 (a + 1) = q at s1 ⊢
          cases q with
          | inl x => exact zg_B_pre (zg_to_step st) s1
          | inr pr =>
            obtain ⟨u, b⟩ := pr
            obtain ⟨p, cs', mk', dg', r1, r2, r3, r4, r4', r5, r6⟩ := s1
            have r1' := zg_to_one st r1
            rw [show p ++ 256 :: w0 = (p ++ [256]) ++ w0 by rw [List.append_assoc]; rfl] at r1'
            refine ⟨p ++ [256], cs', mk', dg', r1', zg_mem r2 ⟨by decide, by decide⟩, ?_, r4, r4', r5, st4 _ _⟩
            rw [zg_em_app]
            show zc_1 e (-256) (zg_ev e (zg_em p cs')) = _
            rw [r3]
            rfl
        rw [if_neg c1]
        by_cases c2 : zq_h m t a = 40 ∧ d < 4
        · have al := zq_hlt (k := 40) (by omega) c2.1
          rw [if_pos c2]
          have st : zg_step (cs0, w0, d, mk, dg, true) (zq_h m t a) = some (cs0, 40 :: w0, d + 1, (fun k => if k = d + 1 then false else mk k), dg, true) := by
            rw [c2.1]
            unfold zg_step zg_ah
            rw [if_pos rfl, if_neg (by decide), if_pos rfl, if_pos c2.2]
          have s1 := (ih (d + 1) (a + 1) (by omega) (by omega)).1 0 cs0 (40 :: w0) (fun k => if k = d + 1 then false else mk k) dg (by omega) (by omega) (fun _ => .inr ⟨40, w0, rfl, .inl rfl⟩) (fun _ => if_pos rfl)
          generalize hq : zq_g m t e f 0 (d + 1) 0 (a + 1) = q at s1 ⊢
          cases q with
          | inl x => exact zg_B_pre (zg_to_step st) s1
          | inr pr =>
            obtain ⟨u, b⟩ := pr
            have pr := zq_prog _ _ _ _ _ _ _ (show a + 1 ≤ m by omega) hq
            obtain ⟨p, cs', mk', dg', r1, r2, r3, r4, r4', r5, r6⟩ := s1
            have r1' := zg_to_one st r1
            show zg_R 4 (zq_h m t) e m a (cs0, w0, d, mk, dg, true) cs0 w0 d mk (if zq_h m t b = 41 then .inr (u, b + 1) else .inl b)
            by_cases c3 : zq_h m t b = 41
            · rw [if_pos c3]
              have st2 : zg_step (cs', p ++ 40 :: w0, d + 1, mk', dg', false) (zq_h m t b) = some (zg_em p cs', w0, d, mk', 0, false) := by
                rw [c3]
                unfold zg_step zg_bh
                rw [if_neg Bool.false_ne_true]
                dsimp only
                rw [if_neg (by decide), if_pos rfl, if_pos (by omega), zg_rel_app cs' r2 (.inr ⟨40, w0, rfl, .inl rfl⟩)]
                rfl
              refine ⟨[], zg_em p cs', mk', 0, zg_to_trans r1' (zg_to_step st2), fun x hx => (by cases hx), r3, fun k hk => ?_, fun _ => ?_, fun _ => by omega, st4 _ _⟩
              · rw [r4 k (by omega)]; exact if_neg (by omega)
              · rw [r4 d (by omega)]; exact if_neg (by omega)
            · rw [if_neg c3]
              exact ⟨pr.2.1, _, r1', fun _ => zg_none r5 r6 (fun q => absurd q c3), fun _ => .inr (Nat.succ_pos d)⟩
        rw [if_neg c2]
        by_cases c3 : zq_dig (zq_h m t a) = true
        · rw [if_pos c3]
          exact zg_num c3
        rw [if_neg c3]
        by_cases c4 : zq_let (zq_h m t a) = 6
        · rw [if_pos c4]
          refine ⟨ha, _, zg_to_refl _ _ _, fun _ => ?_, fun _ => .inl rfl⟩
          unfold zg_step zg_ah
          rw [if_pos rfl, if_neg c1]
          by_cases c5 : zq_h m t a = 40
          · rw [if_pos c5, if_neg (fun q => c2 ⟨c5, q⟩)]
          · rw [if_neg c5, if_neg c3, if_pos c4]
        · rw [if_neg c4]
          have st : zg_step (cs0, w0, d, mk, dg, true) (zq_h m t a) = some (-(zq_h m t a) :: cs0, w0, d, mk, 0, false) := by
            unfold zg_step zg_ah
            rw [if_pos rfl, if_neg c1, if_neg (fun q => c4 (by rw [q]; decide)), if_neg c3, if_neg c4]
          exact ⟨[], -(zq_h m t a) :: cs0, mk, 0, zg_to_step st, fun x hx => (by cases hx), zc_1l c4 _, fun _ _ => rfl, fun _ => rfl, fun _ => by omega, st4 _ _⟩
    · -- the rest of a sum
      rw [zq_g]
      show zg_R 2 (zq_h m t) e m a (cs, p ++ w0, d, mk, dg, false) cs0 w0 d mk (if zq_h m t a = 43 then _ else if zq_h m t a = 45 then _ else _)
      have go : ∀ c : Int32, c = 43 ∨ c = 45 → zq_h m t a = c → a < m → zg_R 2 (zq_h m t) e m a (cs, p ++ w0, d, mk, dg, false) cs0 w0 d mk (match zq_g m t e f 2 d 0 (a + 1) with
          | .inl x => .inl x
          | .inr (w, b) => zq_g m t e f 4 d (zc_j c v w) b) := fun c hc hb al => by
        have rk2 : zg_rk c = 2 := by rcases hc with rfl | rfl <;> decide
        obtain ⟨mk2, o1, o2, o3, o4, o5, o6⟩ := zg_two (m := m) (e := e) (by rcases hc with q | q <;> simp [q]) rk2 hb (zg_to_refl _ _ _) hp hv (fun _ _ => rfl) rfl hs (fun q => by omega)
        have s2 := (ih d (a + 1) hd (by omega)).1 2 (zg_em p cs) (c :: w0) mk2 dg (by omega) (by omega) (fun _ => o5) (fun q => by omega)
        obtain ⟨k1, k2⟩ := o6 _ s2
        generalize hq : zq_g m t e f 2 d 0 (a + 1) = q2 at k1 k2 ⊢
        cases q2 with
        | inl x => exact k1 x rfl
        | inr pr2 =>
          obtain ⟨w, b2⟩ := pr2
          have pr := zq_prog _ _ _ _ _ _ _ (show a + 1 ≤ m by omega) hq
          obtain ⟨p2, cs2, mk3, dg3, t1, t2, t3, t4, t4', t4'', t5, t6⟩ := k2 w b2 rfl
          have s3 := (ih d b2 hd (by omega)).2.1 (zc_j c v w) cs2 p2 cs0 w0 mk3 dg3 (by omega) hs t2 t3 t5 t6
          show zg_R 2 (zq_h m t) e m a (cs, p ++ w0, d, mk, dg, false) cs0 w0 d mk (zq_g m t e f 4 d (zc_j c v w) b2)
          generalize zq_g m t e f 4 d (zc_j c v w) b2 = q3 at s3 ⊢
          cases q3 with
          | inl x => exact zg_B_pre t1 s3
          | inr pr3 =>
            obtain ⟨w3, b3⟩ := pr3
            obtain ⟨p4, cs4, mk4, dg4, y1, y2, y3, y4, y4', y5, y6⟩ := s3
            exact ⟨p4, cs4, mk4, dg4, zg_to_trans t1 y1, y2, y3, fun k hk => (y4 k hk).trans (t4 k hk), fun q => (y4' q).trans (t4' (by omega)), y5, y6⟩
      by_cases c1 : zq_h m t a = 43
      · rw [if_pos c1]
        exact go 43 (.inl rfl) c1 (zq_hlt (k := 43) (by omega) c1)
      by_cases c2 : zq_h m t a = 45
      · rw [if_neg c1, if_pos c2]
        exact go 45 (.inr rfl) c2 (zq_hlt (k := 45) (by omega) c2)
      rw [if_neg c1, if_neg c2]
      exact ⟨p, cs, mk, dg, zg_to_refl _ _ _, hp, hv, fun _ _ => rfl, fun _ => rfl, hdg, ⟨fun _ => hSt.1 (by omega), fun _ => ⟨c1, c2⟩, fun q => by omega⟩⟩
    · -- the rest of a product
      rw [zq_5]
      have go : ∀ c : Int32, c = 42 ∨ c = 47 → zq_h m t a = c → a < m → zg_R 3 (zq_h m t) e m a (cs, p ++ w0, d, mk, dg, false) cs0 w0 d mk (match zq_g m t e f 3 d 0 (a + 1) with
          | .inl x => .inl x
          | .inr (w, b) => zq_g m t e f 5 d (zc_j c v w) b) := fun c hc hb al => by
        have rk3 : zg_rk c = 3 := by rcases hc with rfl | rfl <;> decide
        obtain ⟨mk2, o1, o2, o3, o4, o5, o6⟩ := zg_two (m := m) (e := e) (by rcases hc with q | q <;> simp [q]) rk3 hb (zg_to_refl _ _ _) hp hv (fun _ _ => rfl) rfl hs (fun q => by omega)
        have s2 := (ih d (a + 1) hd (by omega)).1 3 (zg_em p cs) (c :: w0) mk2 dg (by omega) (by omega) (fun q => by omega) (fun q => by omega)
        obtain ⟨k1, k2⟩ := o6 _ s2
        generalize hq : zq_g m t e f 3 d 0 (a + 1) = q2 at k1 k2 ⊢
        cases q2 with
        | inl x => exact k1 x rfl
        | inr pr2 =>
          obtain ⟨w, b2⟩ := pr2
          have pr := zq_prog _ _ _ _ _ _ _ (show a + 1 ≤ m by omega) hq
          obtain ⟨p2, cs2, mk3, dg3, t1, t2, t3, t4, t4', t4'', t5, t6⟩ := k2 w b2 rfl
          have s3 := (ih d b2 hd (by omega)).2.2 (zc_j c v w) cs2 p2 cs0 w0 mk3 dg3 (by omega) hs t2 t3 t5
          show zg_R 3 (zq_h m t) e m a (cs, p ++ w0, d, mk, dg, false) cs0 w0 d mk (zq_g m t e f 5 d (zc_j c v w) b2)
          generalize zq_g m t e f 5 d (zc_j c v w) b2 = q3 at s3 ⊢
          cases q3 with
          | inl x => exact zg_B_pre t1 s3
          | inr pr3 =>
            obtain ⟨w3, b3⟩ := pr3
            obtain ⟨p4, cs4, mk4, dg4, y1, y2, y3, y4, y4', y5, y6⟩ := s3
            exact ⟨p4, cs4, mk4, dg4, zg_to_trans t1 y1, y2, y3, fun k hk => (y4 k hk).trans (t4 k hk), fun q => (y4' q).trans (t4' (by omega)), y5, y6⟩
      by_cases c1 : zq_h m t a = 42
      · rw [if_pos c1]
        exact go 42 (.inl rfl) c1 (zq_hlt (k := 42) (by omega) c1)
      by_cases c2 : zq_h m t a = 47
      · rw [if_neg c1, if_pos c2]
        exact go 47 (.inr rfl) c2 (zq_hlt (k := 47) (by omega) c2)
      rw [if_neg c1, if_neg c2]
      exact ⟨p, cs, mk, dg, zg_to_refl _ _ _, hp, hv, fun _ _ => rfl, fun _ => rfl, hdg, ⟨fun _ => ⟨c1, c2⟩, fun q => by omega, fun q => by omega⟩⟩
