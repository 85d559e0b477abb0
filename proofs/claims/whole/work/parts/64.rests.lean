/-! RESTS -/
/-- a claim x against y of v: none is better -/
def zh_be (v x y : Nat) : Nat → Bool
  | 0 => true
  | k + 1 => zh_be v x y k && decide (zv_X12_gets (nI k) (nI y) (nI v) ≤ zv_X12_gets (nI x) (nI y) (nI v))
theorem zh_be_f {v x y : Nat} : ∀ {k j : Nat}, k ≤ j → zh_be v x y k = false → zh_be v x y j = false
  | k, 0, h, e => by
    have : k = 0 := by omega
    subst this; exact e
  | k, j + 1, h, e => by
    by_cases q : k = j + 1
    · subst q; exact e
    · unfold zh_be
      rw [zh_be_f (show k ≤ j by omega) e, Bool.false_and]
theorem zm_best_l {N : Nat} {I : Nat → Nat → Int32} {J : Nat → Nat → Int64} (v x y : Nat) (hv : v ≤ 20) : ∀ k s f, s + k = v + 1 → k < f → zh_be v x y s = true → zl_X12_isBest N f 2 (nI x) (nI y) (nI v) (nI s) I J = some (if zh_be v x y (v + 1) = true then 1 else 0, I, J) := by
  intro k
  induction k with
  | zero =>
    intro s f hs hf hb
    obtain ⟨m, rfl⟩ : ∃ m, f = m + 1 := ⟨f - 1, by omega⟩
    obtain rfl : s = v + 1 := by omega
    rw [zo_X12_isBest_2]
    unfold zb_X12_isBest_2
    rw [if_pos (nI_lt (by omega) (by omega)), hb]
    rfl
  | succ k ih =>
    intro s f hs hf hb
    obtain ⟨m, rfl⟩ : ∃ m, f = m + 1 := ⟨f - 1, by omega⟩
    rw [zo_X12_isBest_2]
    unfold zb_X12_isBest_2
    rw [if_neg (nI_nlt (show s ≤ v by omega) (by omega))]
    have e : zh_be v x y (s + 1) = (zh_be v x y s && decide (zv_X12_gets (nI s) (nI y) (nI v) ≤ zv_X12_gets (nI x) (nI y) (nI v))) := rfl
    by_cases c : zv_X12_gets (nI s) (nI y) (nI v) ≤ zv_X12_gets (nI x) (nI y) (nI v)
    · rw [if_pos c, nI_1]
      exact ih (s + 1) m (by omega) (by omega) (by rw [e, hb]; simp [c])
    · rw [if_neg c, zh_be_f (k := s + 1) (by omega) (by rw [e]; simp [c])]
      rfl
theorem zm_best {N : Nat} (hN : 100000 ≤ N) {I : Nat → Nat → Int32} {J : Nat → Nat → Int64} {v x y : Nat} (hv : v ≤ 20) : zf_X12_isBest N (nI x) (nI y) (nI v) I J = some (if zh_be v x y (v + 1) = true then 1 else 0, I, J) := by
  obtain ⟨M, rfl⟩ := zu_one N hN
  rw [zo_X12_isBest]
  exact zm_best_l v x y hv (v + 1) 0 M (by omega) (by omega) rfl
theorem zs_rest_l {N : Nat} {I : Nat → Nat → Int32} {J : Nat → Nat → Int64} (v x y : Nat) (hv : v ≤ 20) : ∀ k s f, s + k = v + 1 → k < f → zh_be v x y s = true → zh_be v y x s = true → zl_X2_atRest N f 19 (nI v) (nI x) (nI y) (zv_X12_gets (nI x) (nI y) (nI v)) (zv_X12_gets (nI y) (nI x) (nI v)) (nI s) I J = some (if zh_be v x y (v + 1) = true ∧ zh_be v y x (v + 1) = true then 1 else 0, I, J) := by
  intro k
  induction k with
  | zero =>
    intro s f hs hf hb hc
    obtain ⟨m, rfl⟩ : ∃ m, f = m + 1 := ⟨f - 1, by omega⟩
    obtain rfl : s = v + 1 := by omega
    rw [zo_X2_atRest_19]
    unfold zb_X2_atRest_19
    rw [if_pos (nI_lt (by omega) (by omega)), hb, hc]
    rfl
  | succ k ih =>
    intro s f hs hf hb hc
    obtain ⟨m, rfl⟩ : ∃ m, f = m + 1 := ⟨f - 1, by omega⟩
    rw [zo_X2_atRest_19]
    unfold zb_X2_atRest_19
    rw [if_neg (nI_nlt (show s ≤ v by omega) (by omega))]
    have e1 : zh_be v x y (s + 1) = (zh_be v x y s && decide (zv_X12_gets (nI s) (nI y) (nI v) ≤ zv_X12_gets (nI x) (nI y) (nI v))) := rfl
    have e2 : zh_be v y x (s + 1) = (zh_be v y x s && decide (zv_X12_gets (nI s) (nI x) (nI v) ≤ zv_X12_gets (nI y) (nI x) (nI v))) := rfl
    have s1 : zv_X2_share (nI v) (nI s) (nI y) = zv_X12_gets (nI s) (nI y) (nI v) := rfl
    have s2 : zv_X2_share (nI v) (nI s) (nI x) = zv_X12_gets (nI s) (nI x) (nI v) := rfl
    rw [s1, s2]
    by_cases c : zv_X12_gets (nI s) (nI y) (nI v) ≤ zv_X12_gets (nI x) (nI y) (nI v)
    · rw [if_neg (Int32.not_lt.mpr c)]
      by_cases d : zv_X12_gets (nI s) (nI x) (nI v) ≤ zv_X12_gets (nI y) (nI x) (nI v)
      · rw [if_pos d, nI_1]
        exact ih (s + 1) m (by omega) (by omega) (by rw [e1, hb]; simp [c]) (by rw [e2, hc]; simp [d])
      · rw [if_neg d, zh_be_f (v := v) (x := y) (y := x) (k := s + 1) (by omega) (by rw [e2]; simp [d])]
        simp
    · rw [if_pos (Int32.not_le.mp c), zh_be_f (v := v) (x := x) (y := y) (k := s + 1) (by omega) (by rw [e1]; simp [c])]
      simp
theorem zs_rest {N : Nat} (hN : 100000 ≤ N) {I : Nat → Nat → Int32} {J : Nat → Nat → Int64} {v x y : Nat} (hv : v ≤ 20) : zf_X2_atRest N (nI v) (nI x) (nI y) I J = some (if zh_be v x y (v + 1) = true ∧ zh_be v y x (v + 1) = true then 1 else 0, I, J) := by
  obtain ⟨M, rfl⟩ := zu_one N hN
  rw [zo_X2_atRest]
  exact zs_rest_l v x y hv (v + 1) 0 M (by omega) (by omega) rfl rfl
abbrev zh_St : Type := Nat × Option (Nat × Nat)
def zh_st (v x y : Nat) (S : zh_St) : zh_St := if zh_be v x y (v + 1) = true ∧ zh_be v y x (v + 1) = true then (S.1 + 1, if S.1 = 0 then some (x, y) else S.2) else S
def zh_in (v x : Nat) (S : zh_St) : Nat → zh_St
  | 0 => S
  | y + 1 => zh_st v x y (zh_in v x S y)
def zh_ou (v : Nat) : Nat → zh_St
  | 0 => (0, none)
  | x + 1 => zh_in v x (zh_ou v x) (v + 1)
theorem zh_ou_ok : ∀ v, v ≤ 20 → 0 < (zh_ou v (v + 1)).1 ∧ (zh_ou v (v + 1)).2.isSome = true := by decide +kernel
def zh_ci (I : Nat → Nat → Int32) (S : zh_St) : Nat → Nat → Int32 := match S.2 with
  | none => I
  | some _ => zz_u I 2 3 2
def zh_cj (J : Nat → Nat → Int64) (S : zh_St) : Nat → Nat → Int64 := match S.2 with
  | none => J
  | some (a, b) => zz_u (zz_u J 4 0 (nI a).toInt64) 4 1 (nI b).toInt64
def zh_mi (I : Nat → Nat → Int32) (S : zh_St) : Nat → Nat → Int32 := match S.2 with
  | none => zz_u I 52 6 0
  | some _ => zz_u I 52 6 2
def zh_mj (J : Nat → Nat → Int64) (S : zh_St) : Nat → Nat → Int64 := match S.2 with
  | none => J
  | some (a, b) => zz_u (zz_u J 56 0 (nI a).toInt64) 56 1 (nI b).toInt64
def zh_okS (S : zh_St) : Prop := (S.1 = 0 → S.2 = none) ∧ S.1 < 1000
theorem zs_rests_l {N : Nat} (hN : 100000 ≤ N) {I : Nat → Nat → Int32} {J : Nat → Nat → Int64} (v : Nat) (hv : v ≤ 20) (x : Nat) (hx : x ≤ v) (S : zh_St) (R : Option (Int32 × (Nat → Nat → Int32) × (Nat → Nat → Int64))) : ∀ k y f, y + k = v + 1 → 2 * k < f → (∀ y', y' ≤ v + 1 → ((zh_in v x S y').1 = 0 → (zh_in v x S y').2 = none)) → (∀ y', (zh_in v x S y').1 ≤ S.1 + y') → S.1 < 1000 → (∀ m, f ≤ m + 2 * k + 1 → zl_X11_rests N m 16 (nI v) (nI (zh_in v x S (v + 1)).1) (nI (x + 1)) 0 (zh_ci I (zh_in v x S (v + 1))) (zh_cj J (zh_in v x S (v + 1))) = R) → zl_X11_rests N f 24 (nI v) (nI (zh_in v x S y).1) (nI x) (nI y) (zh_ci I (zh_in v x S y)) (zh_cj J (zh_in v x S y)) = R := by
  intro k
  induction k with
  | zero =>
    intro y f hy hf hz hl hS hR
    obtain ⟨m, rfl⟩ : ∃ m, f = m + 1 := ⟨f - 1, by omega⟩
    obtain rfl : y = v + 1 := by omega
    rw [zo_X11_rests_24]
    unfold zb_X11_rests_24
    rw [if_pos (nI_lt (by omega) (by omega)), nI_1]
    exact hR m (by omega)
  | succ k ih =>
    intro y f hy hf hz hl hS hR
    obtain ⟨m, rfl⟩ : ∃ m, f = m + 1 + 1 := ⟨f - 2, by omega⟩
    have nx := ih (y + 1) m (by omega) (by omega) hz hl hS (fun m' hm' => hR m' (by omega))
    have z := hz y (by omega)
    have l := hl y
    rw [show zh_in v x S (y + 1) = zh_st v x y (zh_in v x S y) from rfl] at nx
    generalize zh_in v x S y = T at *
    rw [zo_X11_rests_24]
    unfold zb_X11_rests_24
    rw [if_neg (nI_nlt (show y ≤ v by omega) (by omega)), zs_rest hN hv, Option.bind_some]
    simp only [zo_X11_rests_61, zb_X11_rests_61, nI_1]
    unfold zh_st at nx
    by_cases c : zh_be v x y (v + 1) = true ∧ zh_be v y x (v + 1) = true
    · rw [if_pos c] at nx ⊢
      rw [if_neg (by decide)]
      by_cases t : T.1 = 0
      · rw [if_pos t] at nx
        rw [if_neg (fun w => w (by rw [t]; rfl))]
        have tn := z t
        have i1 : zh_ci I T = I := by unfold zh_ci; rw [tn]
        have j1 : zh_cj J T = J := by unfold zh_cj; rw [tn]
        rw [i1, j1, zu_t2, zu_x2]
        exact nx
      · rw [if_neg t] at nx
        rw [if_pos (show ¬ nI (T.1 + 1) = 1 from fun w => by
          rw [show (1 : Int32) = nI 1 from rfl, nI_eq (by omega) (by omega)] at w
          omega)]
        exact nx
    · rw [if_neg c] at nx ⊢
      rw [if_pos rfl]
      exact nx
