/-! THE MOST OVER ALL ORDERS: the class gathers, and spreads -/
theorem zc_or {S k : Nat} (hS : S < 4096) (hk : k < 12) : nI S ||| ((1 : Int32) <<< (nI k &&& 31)) = nI (S ||| 2 ^ k) ∧ S ||| 2 ^ k < 4096 := by
  have l : S ||| 2 ^ k < 2 ^ 12 := Nat.or_lt_two_pow (by omega) (Nat.pow_lt_pow_right (by omega) hk)
  have l : S ||| 2 ^ k < 4096 := l
  refine ⟨b_ext (fun i hi => ?_), l⟩
  rw [b_or, zc_tb hS, b_bit k (by omega) hi, zc_tb l, Nat.testBit_or, Nat.testBit_two_pow]
  by_cases e : i = k
  · subst e; simp
  · have e2 : ¬ k = i := fun q => e q.symm
    simp [e, e2]
theorem zc_b1 {c s : Nat} (hc : c < 4096) (hs : s < 32) : ((nI c >>> (nI s &&& 31)) &&& 1 = 1) ↔ c.testBit s = true := by rw [zu_b1 hs, zc_tb hc]
theorem zc_2p : ∀ m, m < 13 → (1 : Int32) <<< (nI m &&& 31) = nI (2 ^ m) ∧ 2 ^ m ≤ 4096 := by decide +kernel
theorem zc_XK {K : Nat → Nat} {a : Nat} (h : 84 ≤ a) : zz_XK K a = K a := by
  unfold zz_XK; rw [zz_blt0 (show ¬ a < 84 by omega)]; rfl
theorem zc_XL {k : Nat} {K : Nat → Nat} {a : Nat} (h : 84 ≤ a) : zz_XL k K a = K a := by
  unfold zz_XL; rw [zz_blt0 (show ¬ a < 84 by omega)]; rfl
/-- what is known behind a set of scenes; what an order by numbers brings -/
def zc_K (f : Nat → Int32) (k0 : Int32) (t : Nat) : Nat → Int32
  | 0 => k0
  | s + 1 => if t.testBit s = true then zh_kb (f (7 * s + 4)) (zc_K f k0 t s) else zc_K f k0 t s
def zc_G (f : Nat → Int32) (k0 : Int32) (t : Nat) : Nat → Int32
  | 0 => 0
  | s + 1 => if t.testBit s = true then zc_G f k0 t s + zh_br (f (7 * s + 5)) (f (7 * s + 6)) (zc_K f k0 t s) else zc_G f k0 t s
theorem zc_K_s (f : Nat → Int32) (k0 : Int32) (t s : Nat) : zc_K f k0 t (s + 1) = if t.testBit s = true then zh_kb (f (7 * s + 4)) (zc_K f k0 t s) else zc_K f k0 t s := rfl
theorem zc_G_s (f : Nat → Int32) (k0 : Int32) (t s : Nat) : zc_G f k0 t (s + 1) = if t.testBit s = true then zc_G f k0 t s + zh_br (f (7 * s + 5)) (f (7 * s + 6)) (zc_K f k0 t s) else zc_G f k0 t s := rfl
theorem zs_bio_l {N n : Nat} (hN : 100000 ≤ N) {I : Nat → Nat → Int32} {J : Nat → Nat → Int64} (h : zi_sc n I) {c : Nat} (hc : c < 4096) (k0 : Int32) : ∀ r s u, s + r = n → r < u → zl_X10_broughtInOrder N u 32 0 (nI c) (zc_K (I 54) k0 c s) (zc_G (I 54) k0 c s) (nI s) I J = some (zc_G (I 54) k0 c n, I, J) := by
  have hn := h.1
  intro r
  induction r with
  | zero =>
    intro s u hs hu
    obtain ⟨m, rfl⟩ : ∃ m, u = m + 1 := ⟨u - 1, by omega⟩
    obtain rfl : s = n := by omega
    rw [zo_X10_broughtInOrder_32]
    unfold zb_X10_broughtInOrder_32
    rw [h.2.2.1, if_pos (nI_le (Nat.le_refl s) (by omega))]
  | succ r ih =>
    intro s u hs hu
    obtain ⟨m, rfl⟩ : ∃ m, u = m + 1 := ⟨u - 1, by omega⟩
    have i1 := ih (s + 1) m (by omega) (by omega)
    rw [zo_X10_broughtInOrder_32]
    unfold zb_X10_broughtInOrder_32
    rw [h.2.2.1, if_neg (nI_ge (show s < n by omega) (by omega)), zs_fact h (show s < n by omega), zs_cheer h (show s < n by omega), nI_1]
    have qb := zc_b1 (s := s) hc (by omega)
    rw [zc_K_s, zc_G_s] at i1
    by_cases b : c.testBit s = true
    · rw [if_pos b, if_pos b] at i1
      rw [if_neg (fun w => w (qb.mpr b))]
      exact i1
    · rw [if_neg b, if_neg b] at i1
      rw [if_pos (fun w => b (qb.mp w))]
      exact i1
theorem zs_gat_l {N n c : Nat} {I : Nat → Nat → Int32} {J : Nat → Nat → Int64} (hn : n ≤ 12) (hc : c < 4096) (h5 : I 5 2 = nI n) : ∀ r s u (X : Nat → Nat → Int32), s + r = n → r < u → (∀ y, y ≠ 47 → X y = I y) → (∀ i, i < s → c.testBit i = true → X 47 (zc_cn c i) = nI i) → ∃ X', zl_X10_gather N u 22 0 (nI c) (nI (zc_cn c s)) (nI s) X J = some (nI (zc_cn c n), X', J) ∧ (∀ y, y ≠ 47 → X' y = I y) ∧ ∀ i, i < n → c.testBit i = true → X' 47 (zc_cn c i) = nI i := by
  intro r
  induction r with
  | zero =>
    intro s u X hs hu hX hm
    obtain ⟨m, rfl⟩ : ∃ m, u = m + 1 := ⟨u - 1, by omega⟩
    obtain rfl : s = n := by omega
    refine ⟨X, ?_, hX, hm⟩
    rw [zo_X10_gather_22]
    unfold zb_X10_gather_22
    rw [hX 5 (by omega), h5, if_pos (nI_le (Nat.le_refl s) (by omega))]
  | succ r ih =>
    intro s u X hs hu hX hm
    obtain ⟨m, rfl⟩ : ∃ m, u = m + 1 := ⟨u - 1, by omega⟩
    have cb := zc_cn_b c s
    rw [zo_X10_gather_22]
    unfold zb_X10_gather_22
    rw [hX 5 (by omega), h5, if_neg (nI_ge (show s < n by omega) (by omega)), nI_1, nI_1, nI_clamp (by omega)]
    have qb := zc_b1 (s := s) hc (by omega)
    by_cases b : c.testBit s = true
    · have e : zc_cn c (s + 1) = zc_cn c s + 1 := by show zc_cn c s + (if c.testBit s = true then 1 else 0) = _; rw [if_pos b]
      rw [if_neg (fun w => w (qb.mpr b)), if_neg (nI_ge (show zc_cn c s < 12 by omega) (by omega)), if_pos (show ¬ (nI (zc_cn c s) < 0 ∨ 12 ≤ zc_cn c s) from fun w => w.elim (nI_pos (by omega)) (fun w => by omega)), ← e]
      refine ih (s + 1) m _ (by omega) (by omega) (fun y hy => by rw [zu_ux hy]; exact hX y hy) (fun i hi hb => ?_)
      by_cases q : i = s
      · subst q; exact zz_us _ _ _ _
      · rw [zz_un (fun w => q (zc_cn_inj hb b w.2))]
        exact hm i (by omega) hb
    · have e : zc_cn c (s + 1) = zc_cn c s := by show zc_cn c s + (if c.testBit s = true then 1 else 0) = _; rw [if_neg b]; rfl
      rw [if_pos (fun w => b (qb.mp w)), ← e]
      refine ih (s + 1) m _ (by omega) (by omega) hX (fun i hi hb => ?_)
      by_cases q : i = s
      · subst q; exact (b hb).elim
      · exact hm i (by omega) hb
/-- facts told by a set of numbers -/
def zc_to (I : Nat → Nat → Int32) (T : Nat) : Nat → Int32
  | 0 => 0
  | k + 1 => if T.testBit k = true then zc_to I T k ||| zz_fact I (I 47 k) else zc_to I T k
theorem zc_to_s (I : Nat → Nat → Int32) (T k : Nat) : zc_to I T (k + 1) = if T.testBit k = true then zc_to I T k ||| zz_fact I (I 47 k) else zc_to I T k := rfl
theorem zs_told_l {N T m : Nat} {I : Nat → Nat → Int32} {J : Nat → Nat → Int64} (hm : m ≤ 12) (hT : T < 4096) : ∀ r k u, k + r = m → r < u → zl_X10_toldBy N u 5 (nI T) (nI m) (zc_to I T k) (nI k) I J = some (zc_to I T m, I, J) := by
  intro r
  induction r with
  | zero =>
    intro k u hk hu
    obtain ⟨v, rfl⟩ : ∃ v, u = v + 1 := ⟨u - 1, by omega⟩
    obtain rfl : k = m := by omega
    rw [zo_X10_toldBy_5]
    unfold zb_X10_toldBy_5
    rw [if_pos (nI_le (Nat.le_refl k) (by omega))]
  | succ r ih =>
    intro k u hk hu
    obtain ⟨v, rfl⟩ : ∃ v, u = v + 1 := ⟨u - 1, by omega⟩
    have i1 := ih (k + 1) v (by omega) (by omega)
    rw [zc_to_s] at i1
    rw [zo_X10_toldBy_5]
    unfold zb_X10_toldBy_5
    rw [if_neg (nI_ge (show k < m by omega) (by omega)), if_neg (nI_ge (show k < 12 by omega) (by omega)), nI_1, nI_clamp (by omega)]
    have qb := zc_b1 (s := k) hT (by omega)
    by_cases b : T.testBit k = true
    · rw [if_pos b] at i1
      rw [if_neg (fun w => w (qb.mpr b)), if_pos (show ¬ (nI k < 0 ∨ 12 ≤ k) from fun w => w.elim (nI_pos (by omega)) (fun w => by omega))]
      exact i1
    · rw [if_neg b] at i1
      rw [if_pos (fun w => b (qb.mp w))]
      exact i1
theorem zc_toK {n c T : Nat} {I : Nat → Nat → Int32} (h : zi_sc n I) (hm : ∀ i, i < n → c.testBit i = true → I 47 (zc_cn c i) = nI i) (k0 : Int32) : ∀ s, s ≤ n → k0 ||| zc_to I T (zc_cn c s) = zc_K (I 54) k0 (zc_ph c T n) s
  | 0, _ => by
    show k0 ||| 0 = k0
    exact zu_or0 k0
  | s + 1, hs => by
    have ih := zc_toK h hm k0 (T := T) s (by omega)
    rw [zc_K_s, (zc_phb c T n).2, decide_eq_true (show s < n by omega), Bool.true_and]
    by_cases b : c.testBit s = true
    · have e : zc_cn c (s + 1) = zc_cn c s + 1 := by show zc_cn c s + (if c.testBit s = true then 1 else 0) = _; rw [if_pos b]
      rw [e, zc_to_s, b, Bool.true_and]
      by_cases d : T.testBit (zc_cn c s) = true
      · rw [if_pos d, if_pos d, hm s (by omega) b, ← Int32.or_assoc, ih]
        exact zs_fact h (by omega) _
      · rw [if_neg d, if_neg d]; exact ih
    · have e : zc_cn c (s + 1) = zc_cn c s := by show zc_cn c s + (if c.testBit s = true then 1 else 0) = _; rw [if_neg b]; rfl
      have b0 : c.testBit s = false := by cases q : c.testBit s with
        | false => rfl
        | true => exact (b q).elim
      rw [e, b0, Bool.false_and, if_neg (fun w => by cases w)]
      exact ih
theorem zs_spr_l {N n m S : Nat} {I : Nat → Nat → Int32} {J : Nat → Nat → Int64} {F : zz_F} {kn : Int32} {g : Nat → Nat → Int32} {mi : Nat → Nat} (h : zi_sc n I) (hm : m ≤ 12) (hS : S < 2 ^ m) (hK : zz_XK F.2.2.1 (zz_mo F) = 14) (hL : 2 ^ m ≤ zz_XL F.2.2.2.2.1 F.2.2.2.1 (zz_mo F)) (hL2 : zz_XL F.2.2.2.2.1 F.2.2.2.1 (zz_mo F) ≤ 4096) (hb : zz_mo F = 48 ∨ 84 ≤ zz_mo F) (hmi : ∀ k, k < m → I 47 k = nI (mi k) ∧ mi k < n) (hg : ∀ k, k < m → g k S = zh_br (I 54 (7 * mi k + 5)) (I 54 (7 * mi k + 6)) kn) : ∀ r k u (X : Nat → Nat → Int32), k + r = m → r < u → (∀ y, y ≠ zz_mo F → X y = I y) → zc_B m (X (zz_mo F)) g S k → ∃ X', zl_X10_spread N u 3 (nI S) (nI m) kn (nI k) X J F = some (0, X', J, F) ∧ (∀ y, y ≠ zz_mo F → X' y = I y) ∧ zc_B m (X' (zz_mo F)) g S m := by
  generalize hb0 : zz_mo F = b at *
  generalize hL0 : zz_XL F.2.2.2.2.1 F.2.2.2.1 b = L at *
  intro r
  induction r with
  | zero =>
    intro k u X hk hu hX hB
    obtain ⟨v, rfl⟩ : ∃ v, u = v + 1 := ⟨u - 1, by omega⟩
    obtain rfl : k = m := by omega
    refine ⟨X, ?_, hX, hB⟩
    rw [zo_X10_spread_3]
    unfold zb_X10_spread_3
    rw [if_pos (nI_le (Nat.le_refl k) (by omega))]
  | succ r ih =>
    intro k u X hk hu hX hB
    obtain ⟨v, rfl⟩ : ∃ v, u = v + 1 := ⟨u - 1, by omega⟩
    have pm : 2 ^ m ≤ 4096 := Nat.le_trans hL hL2
    obtain ⟨o1, o2⟩ := zc_or (S := S) (k := k) (by omega) (by omega)
    have ol : S ||| 2 ^ k < 2 ^ m := Nat.or_lt_two_pow hS (Nat.pow_lt_pow_right (by omega) (by omega))
    rw [zo_X10_spread_3]
    unfold zb_X10_spread_3
    rw [hb0, hL0]
    rw [if_neg (nI_ge (show k < m by omega) (by omega)), if_neg (nI_ge (show k < 12 by omega) (by omega)), o1, nI_1]
    by_cases q : S.testBit k = true
    · have e : S ||| 2 ^ k = S := Nat.eq_of_testBit_eq (fun j => by
        rw [Nat.testBit_or, Nat.testBit_two_pow]
        by_cases e : k = j
        · subst e; simp [q]
        · simp [e])
      rw [e, if_pos rfl]
      exact ih (k + 1) v X (by omega) (by omega) hX (zc_Bs hB q)
    · have q0 : S.testBit k = false := by cases z : S.testBit k with
        | false => rfl
        | true => exact (q z).elim
      obtain ⟨a1, a2, a3⟩ := zc_ad2 q0
      rw [if_neg (fun w => by rw [nI_eq (by omega) (by omega)] at w; omega), if_pos hK, if_neg (nI_ge (show S ||| 2 ^ k < L by omega) (by omega)), if_neg (nI_ge (show S < L by omega) (by omega)), if_pos (nI_in (show S ||| 2 ^ k < L by omega) (by omega)), if_pos (nI_in (show S < L by omega) (by omega)), if_pos (nI_in (show k < 12 by omega) (by omega)), nI_clamp (by omega), nI_clamp (by omega), nI_clamp (by omega)]
      have sc : zi_sc n X := zc_sc h (by rw [hX 5 (by omega)]) (hX 6 (by omega)) (hX 7 (by omega)) (by rw [hX 52 (by omega)]) (hX 54 (by omega))
      have ek : zz_cheer X (X 47 k) kn = g k S := by
        rw [hX 47 (by omega), (hmi k (by omega)).1, zs_cheer sc (hmi k (by omega)).2, hX 54 (by omega), hg k (by omega)]
      rw [ek]
      refine ih (k + 1) v _ (by omega) (by omega) (fun y hy => by rw [zu_ux hy]; exact hX y hy) (zc_Bu hB q0 (by omega) (zz_us _ _ _ _) (fun T hT => zz_un (fun w => hT w.2)))
