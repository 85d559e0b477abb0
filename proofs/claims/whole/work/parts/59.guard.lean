/-! GUARD -/
def zh_H (c : Nat → Bool) (b : Nat → Nat) : Nat → Nat
  | 0 => 63
  | k + 1 => if b k < b (zh_H c b k) ∧ c k = true then k else zh_H c b k
def zh_G (c : Nat → Bool) (b : Nat → Nat) : Nat → Nat
  | 0 => 63
  | j + 1 => if c (63 - j) = true ∧ b (63 - j) ≤ b (zh_G c b j) then 63 - j else zh_G c b j
theorem zh_H_ok {c : Nat → Bool} {b : Nat → Nat} (h63 : c 63 = true) (hb : ∀ k, k < 63 → b k < b 63) : ∀ k, k ≤ 64 → (zh_H c b k < k ∨ zh_H c b k = 63) ∧ c (zh_H c b k) = true ∧ ∀ a, a < k → c a = true → b (zh_H c b k) < b a ∨ (b (zh_H c b k) = b a ∧ zh_H c b k ≤ a)
  | 0, _ => ⟨.inr rfl, h63, fun a ha => by omega⟩
  | k + 1, hk => by
    obtain ⟨i1, i2, i3⟩ := zh_H_ok h63 hb k (by omega)
    unfold zh_H
    split
    · next q =>
      refine ⟨.inl (by omega), q.2, fun a ha hc => ?_⟩
      by_cases e : a = k
      · subst e; exact .inr ⟨rfl, Nat.le_refl _⟩
      · rcases i3 a (by omega) hc with w | w
        · exact .inl (by omega)
        · exact .inl (by omega)
    · next q =>
      refine ⟨by omega, i2, fun a ha hc => ?_⟩
      by_cases e : a = k
      · subst e
        rcases Nat.lt_or_ge (b a) (b (zh_H c b a)) with w | w
        · exact absurd ⟨w, hc⟩ q
        · rcases Nat.lt_or_ge (b (zh_H c b a)) (b a) with v | v
          · exact .inl v
          · refine .inr ⟨by omega, ?_⟩
            rcases i1 with u | u
            · omega
            · rw [u]
              rcases Nat.lt_or_ge a 63 with t | t
              · have := hb a t
                rw [u] at v w
                omega
              · omega
      · exact i3 a (by omega) hc
theorem zh_G_ok {c : Nat → Bool} {b : Nat → Nat} (h63 : c 63 = true) : ∀ j, j ≤ 64 → zh_G c b j ≤ 63 ∧ c (zh_G c b j) = true ∧ ∀ a, 64 - j ≤ a → a < 64 → c a = true → b (zh_G c b j) < b a ∨ (b (zh_G c b j) = b a ∧ zh_G c b j ≤ a)
  | 0, _ => ⟨Nat.le_refl _, h63, fun a h1 h2 => by omega⟩
  | j + 1, hj => by
    obtain ⟨i1, i2, i3⟩ := zh_G_ok (b := b) h63 j (by omega)
    unfold zh_G
    split
    · next q =>
      refine ⟨by omega, q.1, fun a h1 h2 hc => ?_⟩
      by_cases e : a = 63 - j
      · subst e; exact .inr ⟨rfl, Nat.le_refl _⟩
      · rcases i3 a (by omega) h2 hc with w | w
        · exact .inl (by omega)
        · rcases Nat.lt_or_ge (b (63 - j)) (b a) with v | v
          · exact .inl v
          · exact .inr ⟨by omega, by omega⟩
    · next q =>
      refine ⟨i1, i2, fun a h1 h2 hc => ?_⟩
      by_cases e : a = 63 - j
      · subst e
        rcases Nat.lt_or_ge (b (zh_G c b j)) (b (63 - j)) with w | w
        · exact .inl w
        · exact absurd ⟨hc, w⟩ q
      · exact i3 a (by omega) h2 hc
theorem zh_GH {c : Nat → Bool} {b : Nat → Nat} (h63 : c 63 = true) (hb : ∀ k, k < 63 → b k < b 63) : zh_G c b 64 = zh_H c b 64 := by
  obtain ⟨g1, g2, g3⟩ := zh_G_ok (b := b) h63 64 (by omega)
  obtain ⟨k1, k2, k3⟩ := zh_H_ok h63 hb 64 (by omega)
  have a := g3 (zh_H c b 64) (by omega) (by omega) k2
  have d := k3 (zh_G c b 64) (by omega) g2
  omega
def zh_b (k : Nat) : Nat := zu_ct (fun i => bt (nI k) i) 12
theorem zh_b_lt (k : Nat) : zh_b k < 2 ^ 31 := Nat.lt_of_le_of_lt (zu_ct_le _ 12) (by decide)
theorem zh_b63 : ∀ k, k < 63 → zh_b k < zh_b 63 := by decide +kernel
def zh_c (n : Nat) (f : Nat → Int32) (w : Int32) (a : Nat) : Bool := decide (zh_T n f w (nI a) = zh_T n f w 63)
theorem zs_cov {n : Nat} {I : Nat → Nat → Int32} (h : zi_sc n I) (w : Int32) (a : Nat) : (zh_T n (I 54) w 63 &&& (zu_set (fun s => decide (¬ I 54 (7 * s + 2) &&& nI a = 0)) n ^^^ (-1)) = 0) = (zh_c n (I 54) w a = true) := by
  have hn := h.1
  unfold zh_c zh_T
  rw [zu_set_diff (by omega), zu_set_zero (by omega), decide_eq_true_eq]
  apply propext
  have up : ∀ s, s < n → ¬ I 54 (7 * s + 2) &&& nI a = 0 → ¬ I 54 (7 * s + 2) &&& 63 = 0 := by
    intro s hs q z
    obtain ⟨-, -, ⟨v, hv, e⟩, -⟩ := h.2.2.2.2.1 s hs
    have e : I 54 (7 * s + 2) = nI v := e
    rw [e] at q z
    have z2 := pk_andN (n := v) (by omega) (m := 63) 6 (by decide)
    rw [show v % 2 ^ 6 = v from Nat.mod_eq_of_lt (by omega)] at z2
    rw [z2] at z
    rw [z] at q
    apply q
    apply b_ext
    intro i _
    rw [b_and, b_0, Bool.false_and]
  constructor
  · intro q
    refine zu_set_cong (fun s hs => ?_)
    have := q s hs
    have u := up s hs
    cases hw : bt w s
    · rfl
    · rw [hw] at this
      simp only [Bool.true_and] at this ⊢
      by_cases A : I 54 (7 * s + 2) &&& nI a = 0
      · rw [A] at this ⊢
        simpa using this.symm
      · simp [A, u A]
  · intro q s hs
    have := zu_set_inj (by omega) q s hs
    cases hw : bt w s
    · rfl
    · rw [hw] at this
      simp only [Bool.true_and] at this ⊢
      rw [← this]
      simp
theorem zs_guard_l {N n : Nat} (hN : 100000 ≤ N) {I : Nat → Nat → Int32} {J : Nat → Nat → Int64} (h : zi_sc n I) (w : Int32) : ∀ k j f, j + k = 64 → k < f → zl_X2_fewestAsked N f 16 0 (zh_T n (I 54) w 63) (nI (zh_G (zh_c n (I 54) w) zh_b j)) (nI (64 - j) + (-1)) 0 I J = some (nI (zh_G (zh_c n (I 54) w) zh_b 64), I, J) := by
  intro k
  have h63 : zh_c n (I 54) w 63 = true := decide_eq_true rfl
  induction k with
  | zero =>
    intro j f hs hf
    obtain ⟨m, rfl⟩ : ∃ m, f = m + 1 := ⟨f - 1, by omega⟩
    obtain rfl : j = 64 := by omega
    rw [zo_X2_fewestAsked_16]
    unfold zb_X2_fewestAsked_16
    rw [if_pos (by decide)]
  | succ k ih =>
    intro j f hs hf
    obtain ⟨m, rfl⟩ : ∃ m, f = m + 1 := ⟨f - 1, by omega⟩
    refine Eq.trans ?_ (ih (j + 1) m (by omega) (by omega))
    rw [zo_X2_fewestAsked_16]
    unfold zb_X2_fewestAsked_16
    have e : nI (64 - j) + (-1) = nI (63 - j) := by rw [show 64 - j = (63 - j) + 1 by omega, pk_m1]
    have e2 : nI (64 - (j + 1)) = nI (63 - j) := by rw [show 64 - (j + 1) = 63 - j by omega]
    obtain ⟨g1, -, -⟩ := zh_G_ok (b := zh_b) h63 j (by omega)
    have b1 : zv_J6_bitCount (nI (63 - j)) = nI (zh_b (63 - j)) := zu_bcN (by omega)
    have b2 : zv_J6_bitCount (nI (zh_G (zh_c n (I 54) w) zh_b j)) = nI (zh_b (zh_G (zh_c n (I 54) w) zh_b j)) := zu_bcN (by omega)
    have l1 := zu_ct_le (fun i => bt (nI (63 - j)) i) 12
    have l2 := zu_ct_le (fun i => bt (nI (zh_G (zh_c n (I 54) w) zh_b j)) i) 12
    rw [e, e2, if_neg (nI_pos (by omega))]
    simp only [zs_with hN h, Option.bind_some, zs_cov h, b1, b2]
    rw [show zh_G (zh_c n (I 54) w) zh_b (j + 1) = if zh_c n (I 54) w (63 - j) = true ∧ zh_b (63 - j) ≤ zh_b (zh_G (zh_c n (I 54) w) zh_b j) then 63 - j else zh_G (zh_c n (I 54) w) zh_b j from rfl]
    have lt : (nI (zh_b (zh_G (zh_c n (I 54) w) zh_b j)) < nI (zh_b (63 - j))) = (zh_b (zh_G (zh_c n (I 54) w) zh_b j) < zh_b (63 - j)) := propext (nI_ltI (zh_b_lt _) (zh_b_lt _))
    simp only [lt]
    cases c : zh_c n (I 54) w (63 - j)
    · simp
    · by_cases q : zh_b (63 - j) ≤ zh_b (zh_G (zh_c n (I 54) w) zh_b j)
      · simp [q, Nat.not_lt.mpr q]
      · simp [q, Nat.not_le.mp q]
theorem zm_guard_l {N n : Nat} (hN : 100000 ≤ N) (hn : n ≤ 12) {I : Nat → Nat → Int32} {J : Nat → Nat → Int64} (h1 : I 52 1 = nI n) (w : Int32) : ∀ k j f, j + k = 64 → k < f → zl_X12_guard N f 25 w (zh_T n (I 54) w 63) (nI (zh_H (zh_c n (I 54) w) zh_b j)) (nI j) I J = some (zv_J6_bitCount (nI (zh_H (zh_c n (I 54) w) zh_b 64)), zz_u I 52 6 1, zz_u J 56 0 (nI (zh_H (zh_c n (I 54) w) zh_b 64)).toInt64) := by
  intro k
  have h63 : zh_c n (I 54) w 63 = true := decide_eq_true rfl
  induction k with
  | zero =>
    intro j f hs hf
    obtain ⟨m, rfl⟩ : ∃ m, f = m + 1 := ⟨f - 1, by omega⟩
    obtain rfl : j = 64 := by omega
    rw [zo_X12_guard_25]
    unfold zb_X12_guard_25
    rw [if_pos (by decide)]
    simp only [zu_m1, zu_m2, zu_m3, zu_y1, zu_y2, zu_y3, zz_us, zu_ga, zu_gb, zu_gc, not_false_eq_true, if_true, ite_true, zu_t1, zu_t2, zu_t3, zu_x1, zu_x2, zu_x3]
  | succ k ih =>
    intro j f hs hf
    obtain ⟨m, rfl⟩ : ∃ m, f = m + 1 := ⟨f - 1, by omega⟩
    refine Eq.trans ?_ (ih (j + 1) m (by omega) (by omega))
    rw [zo_X12_guard_25]
    unfold zb_X12_guard_25
    obtain ⟨g1, -, -⟩ := zh_H_ok h63 zh_b63 j (by omega)
    have b1 : zv_J6_bitCount (nI j) = nI (zh_b j) := zu_bcN (by omega)
    have b2 : zv_J6_bitCount (nI (zh_H (zh_c n (I 54) w) zh_b j)) = nI (zh_b (zh_H (zh_c n (I 54) w) zh_b j)) := zu_bcN (by omega)
    have l1 := zu_ct_le (fun i => bt (nI j) i) 12
    have l2 := zu_ct_le (fun i => bt (nI (zh_H (zh_c n (I 54) w) zh_b j)) i) 12
    rw [if_neg (show ¬ (64 : Int32) ≤ nI j from nI_ge (b := 64) (by omega) (by omega))]
    have le : (nI (zh_b (zh_H (zh_c n (I 54) w) zh_b j)) ≤ nI (zh_b j)) = (zh_b (zh_H (zh_c n (I 54) w) zh_b j) ≤ zh_b j) := propext (nI_leI (zh_b_lt _) (zh_b_lt _))
    have cc : (zh_T n (I 54) w (nI j) = zh_T n (I 54) w 63) = (zh_c n (I 54) w j = true) := by unfold zh_c; rw [decide_eq_true_eq]
    simp only [zm_with hN hn h1, Option.bind_some, b1, b2, le, cc, nI_1]
    rw [show zh_H (zh_c n (I 54) w) zh_b (j + 1) = if zh_b j < zh_b (zh_H (zh_c n (I 54) w) zh_b j) ∧ zh_c n (I 54) w j = true then j else zh_H (zh_c n (I 54) w) zh_b j from rfl]
    by_cases q : zh_b (zh_H (zh_c n (I 54) w) zh_b j) ≤ zh_b j
    · simp [q, Nat.not_lt.mpr q]
    · cases c : zh_c n (I 54) w j
      · simp [q]
      · simp [q, Nat.not_le.mp q]
theorem zy_guard {N n : Nat} (hN : 100000 ≤ N) {I : Nat → Nat → Int32} {J : Nat → Nat → Int64} {F : zz_F} (h : zi n I J F) : ∃ v I1 J1 I2 J2, zf_X11_guard N I J = some (v, I1, J1) ∧ zf_X12_guard N I1 J1 = some (v, I2, J2) ∧ zi n I2 J2 F := by
  have hW : I 8 2 = zh_W n (I 53) 0 := h.2.1.2.2.1
  have hn := h.1.1
  generalize hB : zh_H (zh_c n (I 54) (zh_W n (I 53) 0)) zh_b 64 = B
  have hB2 : zh_G (zh_c n (I 54) (zh_W n (I 53) 0)) zh_b 64 = B := by rw [zh_GH (decide_eq_true rfl) zh_b63]; exact hB
  have e : zf_X11_guard N I J = some (zv_J6_bitCount (nI B), zz_u I 2 3 1, zz_u J 4 0 (nI B).toInt64) := by
    obtain ⟨M, rfl⟩ := zu_one N hN
    have ef : zf_X2_fewestAsked (M + 1) (I 8 2) I J = some (nI B, I, J) := by
      rw [zo_X2_fewestAsked]
      unfold zb_X2_fewestAsked_0
      refine zu_bd (zs_with hN h.1 _) ?_
      rw [hW, zs_ofT h.1, ← hB2]
      exact zs_guard_l hN h.1 _ 64 0 M (by omega) (by omega)
    rw [zo_X11_guard]
    unfold zb_X11_guard_0
    refine zu_bd ef ?_
    simp only [zu_t1, zu_x1]
  have e2 : ∀ (I' : Nat → Nat → Int32) (J : Nat → Nat → Int64), I' 52 1 = nI n → I' 53 = I 53 → I' 54 = I 54 → zf_X12_guard N I' J = some (zv_J6_bitCount (nI B), zz_u (zz_u I' 52 7 0) 52 6 1, zz_u J 56 0 (nI B).toInt64) := by
    intro I' J h1 e53 e54
    obtain ⟨M, rfl⟩ := zu_one N hN
    rw [zo_X12_guard]
    unfold zb_X12_guard_0
    refine zu_bd (zm_where hN hn (by exact h1) _) (zu_bd (zm_with hN hn (by exact h1) _ _) ?_)
    rw [← hB, ← e53, ← e54]
    exact zm_guard_l (I := zz_u I' 52 7 0) hN hn h1 _ 64 0 M (by omega) (by omega)
  exact ⟨_, _, _, _, _, e, e2 (zz_u I 2 3 1) _ h.1.2.1 rfl rfl, zi_q1 h _⟩
