/-! CUTS: SETS AS NUMBERS; ONE CUT TAKEN -/
theorem zc_tb {k : Nat} (hk : k < 4096) (i : Nat) : bt (nI k) i = k.testBit i := by
  have e : bt (nI k) i = (decide (i < 32) && k.testBit i) := by
    show (BitVec.ofNat 32 k).getLsbD i = _
    exact BitVec.getLsbD_ofNat 32 k i
  rw [e]
  by_cases h : i < 32
  · rw [decide_eq_true h, Bool.true_and]
  · rw [decide_eq_false h, Bool.false_and]
    symm
    apply Nat.testBit_lt_two_pow
    exact Nat.lt_of_lt_of_le (show k < 2 ^ 12 by omega) (Nat.pow_le_pow_right (by omega) (by omega))
theorem zc_12 {k : Nat} (hk : k < 4096) {i : Nat} (hi : 12 ≤ i) : k.testBit i = false := Nat.testBit_lt_two_pow (Nat.lt_of_lt_of_le (show k < 2 ^ 12 by omega) (Nat.pow_le_pow_right (by omega) (by omega)))
/-- cheer and count of a set -/
def zc_ch (n : Nat) (f : Nat → Int32) (k : Nat) : Nat := zc_su (fun i => if k.testBit i = true then (f (7 * i + 6)).toNatClampNeg else 0) n
def zc_ct (k : Nat) : Nat := zc_su (fun i => if k.testBit i = true then 1 else 0) 12
theorem zc_ctE {k : Nat} (hk : k < 4096) : zv_J6_bitCount (nI k) = nI (zc_ct k) := by
  rw [zu_bcN hk]
  congr 1
  have : ∀ m, zu_ct (fun i => bt (nI k) i) m = zc_su (fun i => if k.testBit i = true then 1 else 0) m := by
    intro m
    induction m with
    | zero => rfl
    | succ m ih =>
      show zu_ct _ m + (if bt (nI k) m = true then 1 else 0) = zc_su _ m + (if k.testBit m = true then 1 else 0)
      rw [ih, zc_tb hk]
  exact this 12
theorem zc_ct12 (k : Nat) : zc_ct k ≤ 12 := by
  have : ∀ m, zc_su (fun i => if k.testBit i = true then 1 else 0) m ≤ m := by
    intro m
    induction m with
    | zero => exact Nat.le_refl _
    | succ m ih =>
      show zc_su _ m + (if k.testBit m = true then 1 else 0) ≤ m + 1
      split <;> omega
  exact this 12
theorem zc_chE {n : Nat} {f : Nat → Int32} (hf : ∀ s, s < n → zi_fd (fun w => f (7 * s + w))) {k : Nat} (hk : k < 4096) : zh_M n f (nI k) 6 = nI (zc_ch n f k) ∧ zc_ch n f k ≤ 9 * n := by
  have : ∀ m, m ≤ n → zz_sum (fun s => if bt (nI k) s = true then f (7 * s + 6) else 0) m = nI (zc_su (fun i => if k.testBit i = true then (f (7 * i + 6)).toNatClampNeg else 0) m) ∧ zc_su (fun i => if k.testBit i = true then (f (7 * i + 6)).toNatClampNeg else 0) m ≤ 9 * m := by
    intro m
    induction m with
    | zero => intro _; exact ⟨rfl, Nat.le_refl _⟩
    | succ m ih =>
      intro hm
      obtain ⟨a, b⟩ := ih (by omega)
      obtain ⟨_, _, _, _, _, _, v, hv, e⟩ := hf m (by omega)
      have e : f (7 * m + 6) = nI v := e
      show zz_sum _ m + (if bt (nI k) m = true then f (7 * m + 6) else 0) = nI (zc_su _ m + (if k.testBit m = true then (f (7 * m + 6)).toNatClampNeg else 0)) ∧ zc_su _ m + (if k.testBit m = true then (f (7 * m + 6)).toNatClampNeg else 0) ≤ _
      rw [a, zc_tb hk, e, nI_clamp (by omega)]
      by_cases c : k.testBit m = true
      · rw [if_pos c, if_pos c]; exact ⟨nI_add _ _, by omega⟩
      · rw [if_neg c, if_neg c]; exact ⟨nI_add _ 0, by omega⟩
  exact this n (Nat.le_refl n)
/-- what is in the subtree of a set -/
theorem zc_inM {c : Nat} : ∀ s q set T, set = 2 ^ s * q → zc_in c s set T → (∀ i, s ≤ i → T.testBit i = set.testBit i) ∧ (zc_sb set c → zc_sb T c) := by
  intro s
  induction s with
  | zero =>
    intro q set T _ h
    have h : T = set := h
    subst h
    exact ⟨fun _ _ => rfl, fun h => h⟩
  | succ s ih =>
    intro q set T e h
    rcases h with h | ⟨t, h⟩
    · obtain ⟨a, b⟩ := ih (2 * q) set T (by rw [e, Nat.pow_succ, Nat.mul_assoc]) h
      exact ⟨fun i hi => a i (by omega), b⟩
    · obtain ⟨a, b⟩ := ih (2 * q + 1) (set + 2 ^ s) T (by rw [e, Nat.pow_succ, Nat.mul_add, Nat.mul_one, Nat.mul_assoc]) h
      subst e
      refine ⟨fun i hi => by rw [a i (by omega), zc_add, decide_eq_false (by omega), Bool.or_false], fun hs => b (fun i hi => ?_)⟩
      rw [zc_add] at hi
      cases hq : (2 ^ (s + 1) * q).testBit i with
      | true => exact hs i hq
      | false =>
        rw [hq] at hi
        have : s = i := by simpa using hi
        rw [← this]; exact t
theorem zc_lowbit {s q i : Nat} (hi : i < s) : (2 ^ s * q).testBit i = false := by
  rw [Nat.testBit_two_pow_mul]
  simp
  omega
/-- so cheer and count only grow -/
theorem zc_grow {c s q set T : Nat} (e : set = 2 ^ s * q) (h : zc_in c s set T) : ∀ i, set.testBit i = true → T.testBit i = true := fun i hi => by
  rcases Nat.lt_or_ge i s with w | w
  · rw [e, zc_lowbit w] at hi; cases hi
  · rw [(zc_inM s q set T e h).1 i w]; exact hi
theorem zc_chM {n : Nat} {f : Nat → Int32} {a b : Nat} (h : ∀ i, a.testBit i = true → b.testBit i = true) : zc_ch n f a ≤ zc_ch n f b ∧ zc_ct a ≤ zc_ct b := by
  refine ⟨zc_su_le n (fun i _ => ?_), zc_su_le 12 (fun i _ => ?_)⟩
  · by_cases c : a.testBit i = true
    · rw [if_pos c, if_pos (h i c)]; exact Nat.le_refl _
    · rw [if_neg c]; exact Nat.zero_le _
  · by_cases c : a.testBit i = true
    · rw [if_pos c, if_pos (h i c)]; exact Nat.le_refl _
    · rw [if_neg c]; exact Nat.zero_le _
/-- the minutes of what is left when k is cut of c -/
def zc_dm (n : Nat) (f : Nat → Int32) (W : Nat → Nat → Nat) (c k : Nat) : Nat := zw_D min (zw_p n f (nI c &&& (nI k ^^^ -1)) 0) (zw_p n f (nI c &&& (nI k ^^^ -1)) 1) (zw_a n f (nI c &&& (nI k ^^^ -1)) 0) (zw_a n f (nI c &&& (nI k ^^^ -1)) 1) W 0 0 12
/-- the class holds a cut -/
def zc_S (n : Nat) (f : Nat → Int32) (W : Nat → Nat → Nat) (c : Nat) (I X : Nat → Nat → Int32) (b : Nat) : Prop := (∀ y, y ≠ 41 → y ≠ 43 → y ≠ 44 → X y = I y) ∧ (∀ i, i ≠ 6 → i ≠ 7 → i ≠ 10 → i ≠ 11 → i ≠ 12 → i ≠ 13 → X 41 i = I 41 i) ∧ X 41 10 = nI b ∧ X 41 11 = nI (zc_dm n f W c b) ∧ X 41 12 = nI (zc_ch n f b) ∧ X 41 13 = nI (zc_ct b)
theorem zs_tk {N n : Nat} (hN : 100000 ≤ N) {I X : Nat → Nat → Int32} {J : Nat → Nat → Int64} {f : Nat → Int32} {W : Nat → Nat → Nat} {c lim : Nat} (hsc : zi_sc n I) (h54 : I 54 = f) (hW : ∀ x y, (x = 12 ∨ x < n) → y < n → I 42 (x * 12 + y) = nI (W x y) ∧ W x y ≤ 108) (h14 : I 41 14 = nI lim) (hlim : lim ≤ 199) {b : Nat} (hS : zc_S n f W c I X b) {s : Nat} (hs : s < 4096) : ∃ X', zf_X4_takeCut N (nI c) (nI s) (nI (zc_ch n f s)) X J = some (0, X', J) ∧ zc_S n f W c I X' (if zc_dm n f W c s ≤ lim then s else b) := by
  obtain ⟨s1, s2, s3, s4, s5, s6⟩ := hS
  have scX : zi_sc n X := zc_sc hsc (by rw [s1 5 (by omega) (by omega) (by omega)]) (s1 6 (by omega) (by omega) (by omega)) (s1 7 (by omega) (by omega) (by omega)) (by rw [s1 52 (by omega) (by omega) (by omega)]) (s1 54 (by omega) (by omega) (by omega))
  obtain ⟨X1, a1, a2, a3, a4⟩ := zs_lay hN (J := J) scX (nI c &&& (nI s ^^^ -1)) (W := W) (by rw [s1 42 (by omega) (by omega) (by omega)]; exact hW)
  rw [s1 54 (by omega) (by omega) (by omega), h54] at a4
  obtain ⟨X2, b1, b2, b3⟩ := zw_fill hN (w := 0) (by omega) (J := J) a4
  have d := zw_D0le a4
  have b3 : zf_X4_fillBack N (nI 0) X1 J = some (nI (zc_dm n f W c s), X2, J) := b3
  have d : zc_dm n f W c s ≤ 1296 := d
  have F41 : ∀ i, i ≠ 6 → i ≠ 7 → X2 41 i = X 41 i := fun i h6 h7 => by rw [b1 41 (by omega), a3 i h6 h7]
  have Fx : ∀ y, y ≠ 41 → y ≠ 43 → y ≠ 44 → X2 y = I y := fun y e1 e2 e3 => by rw [b1 y e3, a2 y e1 e2, s1 y e1 e2 e3]
  have l14 : X2 41 14 = nI lim := by rw [F41 14 (by omega) (by omega), s2 14 (by omega) (by omega) (by omega) (by omega) (by omega) (by omega)]; exact h14
  by_cases q : zc_dm n f W c s ≤ lim
  · refine ⟨zz_u (zz_u (zz_u (zz_u X2 41 10 (nI s)) 41 11 (nI (zc_dm n f W c s))) 41 12 (nI (zc_ch n f s))) 41 13 (nI (zc_ct s)), ?_, ?_⟩
    · obtain ⟨M, rfl⟩ := zu_one N hN
      rw [zo_X4_takeCut]
      refine zu_bd a1 (zu_bd b3 (zu_gn ?_ ?_))
      · dsimp only
        rw [l14]; exact nI_nlt q (by omega)
      · dsimp only
        rw [zc_ctE hs]
    · rw [if_pos q]
      refine ⟨fun y e1 e2 e3 => by rw [zu_ux e1, zu_ux e1, zu_ux e1, zu_ux e1, Fx y e1 e2 e3], fun i e6 e7 e10 e11 e12 e13 => by rw [zz_un (fun w => e13 w.2), zz_un (fun w => e12 w.2), zz_un (fun w => e11 w.2), zz_un (fun w => e10 w.2), F41 i e6 e7, s2 i e6 e7 e10 e11 e12 e13], ?_, ?_, ?_, zz_us _ _ _ _⟩
      · rw [zz_un (by omega), zz_un (by omega), zz_un (by omega), zz_us]
      · rw [zz_un (by omega), zz_un (by omega), zz_us]
      · rw [zz_un (by omega), zz_us]
  · refine ⟨X2, ?_, ?_⟩
    · obtain ⟨M, rfl⟩ := zu_one N hN
      rw [zo_X4_takeCut]
      refine zu_bd a1 (zu_bd b3 (zu_gd ?_ rfl))
      dsimp only
      rw [l14]; exact nI_lt (by omega) (by omega)
    · rw [if_neg q]
      exact ⟨Fx, fun i e6 e7 e10 e11 e12 e13 => by rw [F41 i e6 e7, s2 i e6 e7 e10 e11 e12 e13], by rw [F41 10 (by omega) (by omega)]; exact s3, by rw [F41 11 (by omega) (by omega)]; exact s4, by rw [F41 12 (by omega) (by omega)]; exact s5, by rw [F41 13 (by omega) (by omega)]; exact s6⟩
