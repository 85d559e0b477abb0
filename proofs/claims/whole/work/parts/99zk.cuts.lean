/-! CUTS: A BEST SUBSET, PURE -/
/-- s is better than b, and short enough -/
def zc_bt (ch ct dm : Nat → Nat) (lim b s : Nat) : Prop := (ch s < ch b ∨ (ch s = ch b ∧ ct s < ct b)) ∧ dm s ≤ lim
noncomputable def zc_u (ch ct dm : Nat → Nat) (lim b s : Nat) : Nat := @ite _ (zc_bt ch ct dm lim b s) (Classical.propDecidable _) s b
/-- as the class goes: scenes from s - 1 down, kept first -/
noncomputable def zc_f (c : Nat) (ch ct dm : Nat → Nat) (lim : Nat) : Nat → Nat → Nat → Nat
  | 0, set, b => zc_u ch ct dm lim b set
  | s + 1, set, b => if c.testBit s = true then zc_f c ch ct dm lim s (set + 2 ^ s) (zc_f c ch ct dm lim s set b) else zc_f c ch ct dm lim s set b
def zc_in (c : Nat) : Nat → Nat → Nat → Prop
  | 0, set, T => T = set
  | s + 1, set, T => zc_in c s set T ∨ (c.testBit s = true ∧ zc_in c s (set + 2 ^ s) T)
/-- as the reference goes: one number after another -/
def zc_sb (k c : Nat) : Prop := ∀ i, k.testBit i = true → c.testBit i = true
noncomputable def zc_r (c : Nat) (ch ct dm : Nat → Nat) (lim : Nat) : Nat → Nat → Nat → Nat
  | _, 0, b => b
  | a, m + 1, b => zc_r c ch ct dm lim (a + 1) m (@ite _ (zc_sb a c) (Classical.propDecidable _) (zc_u ch ct dm lim b a) b)
section
variable {c : Nat} {ch ct dm : Nat → Nat} {lim : Nat}
theorem zc_f_s (s set b : Nat) : zc_f c ch ct dm lim (s + 1) set b = if c.testBit s = true then zc_f c ch ct dm lim s (set + 2 ^ s) (zc_f c ch ct dm lim s set b) else zc_f c ch ct dm lim s set b := rfl
theorem zc_f_no : ∀ s set b, (∀ T, zc_in c s set T → ¬ zc_bt ch ct dm lim b T) → zc_f c ch ct dm lim s set b = b := by
  intro s
  induction s with
  | zero => intro set b h; exact if_neg (h set rfl)
  | succ s ih =>
    intro set b h
    have e := ih set b (fun T hT => h T (.inl hT))
    rw [zc_f_s, e]
    by_cases q : c.testBit s = true
    · rw [if_pos q]; exact ih (set + 2 ^ s) b (fun T hT => h T (.inr ⟨q, hT⟩))
    · rw [if_neg q]
theorem zc_r_add : ∀ m1 m2 a b, zc_r c ch ct dm lim a (m1 + m2) b = zc_r c ch ct dm lim (a + m1) m2 (zc_r c ch ct dm lim a m1 b) := by
  intro m1
  induction m1 with
  | zero => intro m2 a b; rw [Nat.zero_add, Nat.add_zero]; rfl
  | succ m1 ih =>
    intro m2 a b
    rw [show m1 + 1 + m2 = (m1 + m2) + 1 by omega]
    show zc_r c ch ct dm lim (a + 1) (m1 + m2) _ = zc_r c ch ct dm lim (a + (m1 + 1)) m2 (zc_r c ch ct dm lim (a + 1) m1 _)
    rw [ih, show a + 1 + m1 = a + (m1 + 1) by omega]
theorem zc_r_no : ∀ m a b, (∀ k, a ≤ k → k < a + m → ¬ zc_sb k c) → zc_r c ch ct dm lim a m b = b := by
  intro m
  induction m with
  | zero => intro a b _; rfl
  | succ m ih =>
    intro a b h
    show zc_r c ch ct dm lim (a + 1) m (@ite _ (zc_sb a c) (Classical.propDecidable _) _ _) = b
    rw [if_neg (h a (by omega) (by omega))]
    exact ih (a + 1) b (fun k h1 h2 => h k (by omega) (by omega))
theorem zc_bit {q s r : Nat} (hr : r < 2 ^ s) : (2 ^ (s + 1) * q + 2 ^ s + r).testBit s = true := by
  rw [Nat.testBit_eq_decide_div_mod_eq, show 2 ^ (s + 1) * q + 2 ^ s + r = 2 ^ s * (2 * q + 1) + r by rw [Nat.pow_succ, Nat.mul_add, Nat.mul_one, Nat.mul_assoc], Nat.mul_add_div (Nat.two_pow_pos s), Nat.div_eq_of_lt hr]
  simp
theorem zc_add {q s : Nat} (i : Nat) : (2 ^ (s + 1) * q + 2 ^ s).testBit i = ((2 ^ (s + 1) * q).testBit i || decide (s = i)) := by
  rw [Nat.two_pow_add_eq_or_of_lt (show 2 ^ s < 2 ^ (s + 1) from Nat.pow_lt_pow_right (by omega) (by omega)), Nat.testBit_or, Nat.testBit_two_pow]
theorem zc_rf : ∀ s q b, zc_sb (2 ^ s * q) c → zc_r c ch ct dm lim (2 ^ s * q) (2 ^ s) b = zc_f c ch ct dm lim s (2 ^ s * q) b := by
  intro s
  induction s with
  | zero =>
    intro q b h
    show (@ite _ (zc_sb (2 ^ 0 * q) c) (Classical.propDecidable _) (zc_u ch ct dm lim b (2 ^ 0 * q)) b) = zc_u ch ct dm lim b (2 ^ 0 * q)
    rw [if_pos h]
  | succ s ih =>
    intro q b h
    have e : 2 ^ (s + 1) * q = 2 ^ s * (2 * q) := by rw [Nat.pow_succ, Nat.mul_assoc]
    have e2 : 2 ^ (s + 1) * q + 2 ^ s = 2 ^ s * (2 * q + 1) := by rw [e, Nat.mul_add, Nat.mul_one]
    have h2 : zc_sb (2 ^ s * (2 * q)) c := e ▸ h
    have l := ih (2 * q) b h2
    have w : zc_r c ch ct dm lim (2 ^ (s + 1) * q) (2 ^ (s + 1)) b = zc_r c ch ct dm lim (2 ^ (s + 1) * q + 2 ^ s) (2 ^ s) (zc_r c ch ct dm lim (2 ^ (s + 1) * q) (2 ^ s) b) := by
      rw [← zc_r_add]
      congr 1
      rw [Nat.pow_succ]; omega
    rw [w, zc_f_s]
    rw [← e] at l
    rw [l]
    by_cases t : c.testBit s = true
    · rw [if_pos t, e2]
      exact ih (2 * q + 1) _ (by
        rw [← e2]
        intro i hi
        rw [zc_add] at hi
        cases hq : (2 ^ (s + 1) * q).testBit i with
        | true => exact h i hq
        | false =>
          rw [hq] at hi
          have : s = i := by simpa using hi
          rw [← this]; exact t)
    · rw [if_neg t]
      refine zc_r_no _ _ _ (fun k h1 h2 hs => t (hs s ?_))
      have : k = 2 ^ (s + 1) * q + 2 ^ s + (k - (2 ^ (s + 1) * q + 2 ^ s)) := by omega
      rw [this]
      exact zc_bit (by omega)
theorem zc_le {k c : Nat} (h : zc_sb k c) : k ≤ c := by
  have : k &&& c = k := Nat.eq_of_testBit_eq (fun i => by
    rw [Nat.testBit_and]
    cases hk : k.testBit i with
    | false => rfl
    | true => rw [h i hk]; rfl)
  rw [← this]
  exact Nat.and_le_right
/-- all numbers below the whole: what the class finds -/
theorem zc_all (hc : c < 4096) (hch : ∀ k, zc_sb k c → ch k ≤ ch c ∧ ct k ≤ ct c) {b : Nat} (hb : zc_sb b c) : zc_r c ch ct dm lim 0 c b = zc_f c ch ct dm lim 12 0 b := by
  have e := zc_rf (c := c) (ch := ch) (ct := ct) (dm := dm) (lim := lim) 12 0 b (fun i hi => by rw [Nat.mul_zero, Nat.zero_testBit] at hi; cases hi)
  rw [Nat.mul_zero] at e
  rw [← e, show (2 : Nat) ^ 12 = c + (1 + (4095 - c)) by omega, zc_r_add, zc_r_add]
  rw [zc_r_no (4095 - c) _ _ (fun k h1 h2 hs => by have := zc_le hs; omega), Nat.zero_add]
  have keep : ∀ m a b, zc_sb b c → zc_sb (zc_r c ch ct dm lim a m b) c := by
    intro m
    induction m with
    | zero => intro a b h; exact h
    | succ m ih =>
      intro a b h
      refine ih (a + 1) _ ?_
      by_cases q : zc_sb a c
      · rw [if_pos q]
        unfold zc_u
        by_cases z : zc_bt ch ct dm lim b a
        · rw [if_pos z]; exact q
        · rw [if_neg z]; exact h
      · rw [if_neg q]; exact h
  have k := hch _ (keep c 0 b hb)
  generalize zc_r c ch ct dm lim 0 c b = b' at *
  show b' = zc_r c ch ct dm lim (c + 1) 0 (@ite _ (zc_sb c c) (Classical.propDecidable _) (zc_u ch ct dm lim b' c) b')
  rw [if_pos (show zc_sb c c from fun i h => h)]
  show b' = zc_u ch ct dm lim b' c
  unfold zc_u
  rw [if_neg (fun w => by
    rcases w.1 with z | z
    · omega
    · omega)]
end
