/-! SCRIPT, and the JDK's small ones -/
theorem zz_vin {x : Int32} {n : Nat} (h0 : ¬ x < 0) (h1 : ¬ Int32.ofNat n ≤ x) (hn : n < 2 ^ 31) : vp_in x n := by
  obtain ⟨j, hj, rfl⟩ := nI_of h0
  rcases Nat.lt_or_ge j n with q | q
  · exact vp_in_nI q hn
  · exact absurd (nI_le q hj) h1
theorem zz_vk {k n : Nat} (h : Nat.blt k n = true) (hn : Nat.blt n 2147483648 = true) : vp_in (nI k) n := vp_in_nI (Nat.le_of_ble_eq_true h) (Nat.le_of_ble_eq_true hn)
/-- what stands at a place of a row of n, 0 outside -/
def zz_at (n : Nat) (f : Nat → Int32) (x : Int32) : Int32 := if x < 0 then 0 else if nI n ≤ x then 0 else f x.toNatClampNeg
def zz_sum (f : Nat → Int32) : Nat → Int32
  | 0 => 0
  | n + 1 => zz_sum f n + f n
def zz_or (f : Nat → Int32) : Nat → Int32
  | 0 => 0
  | n + 1 => zz_or f n ||| f n
def zz_and (a : Int32) (f : Nat → Int32) : Nat → Int32
  | 0 => a
  | n + 1 => zz_and a f n &&& f n
/-- bit i, as both classes ask for it -/
def zz_bit (set : Int32) (i : Nat) : Bool := decide ((set >>> (nI i &&& 31)) &&& 1 = 1)
theorem zz_bit_t {set : Int32} {i : Nat} (h : (set >>> (nI i &&& 31)) &&& 1 = 1) : zz_bit set i = true := decide_eq_true h
theorem zz_bit_f {set : Int32} {i : Nat} (h : ¬ (set >>> (nI i &&& 31)) &&& 1 = 1) : zz_bit set i = false := decide_eq_false h
theorem zz_nn {p : Prop} (h : ¬ ¬ p) : p := Classical.not_not.mp h
theorem zz_ilt {n i : Nat} {x : Int32} (hx : x = nI n) (hn : n < 2 ^ 31) (h : i < n) : ¬ x ≤ nI i := by rw [hx]; exact nI_ge h hn
theorem zz_ile {n : Nat} {x : Int32} (hx : x = nI n) (hn : n < 2 ^ 31) : x ≤ nI n := by rw [hx]; exact nI_le (Nat.le_refl n) hn
/-- field w of scene s: what Script.of answers -/
def zz_f (I : Nat → Nat → Int32) (s w : Int32) : Int32 := zz_at 84 (I 6) (s * 7 + w)
theorem zr_of (F : zz_F) (I : Nat → Nat → Int32) (J : Nat → Nat → Int64) (d : Nat) (s w : Int32) : zz_run (d) 114 0 [some (.ref 5), some (.int (s)), some (.int (w)), none] [] (zz_S F I J) (some (.int (zz_f I s w))) (zz_S F (I) (J)) := by
  unfold zz_f zz_at
  refine zz_step rfl ?_
  repeat' first | refine And.intro rfl ?_ | refine And.intro (Or.inl rfl) ?_ | refine And.intro (Or.inr rfl) ?_ | refine And.intro (Nat.le_of_ble_eq_true rfl) ?_ | refine And.intro (And.intro rfl rfl) ?_ | exact rfl
  refine And.intro (fun (h : s * 7 + w < 0) => ?_) (fun (h : ¬ (s * 7 + w < 0)) => ?_)
  · rw [if_pos h]
    refine zz_step rfl ?_
    repeat' first | refine And.intro rfl ?_ | refine And.intro (Or.inl rfl) ?_ | refine And.intro (Or.inr rfl) ?_ | refine And.intro (Nat.le_of_ble_eq_true rfl) ?_ | refine And.intro (And.intro rfl rfl) ?_ | exact rfl | refine zz_step rfl ?_
  · rw [if_neg h]
    repeat' first | refine And.intro rfl ?_ | refine And.intro (Or.inl rfl) ?_ | refine And.intro (Or.inr rfl) ?_ | refine And.intro (Nat.le_of_ble_eq_true rfl) ?_ | refine And.intro (And.intro rfl rfl) ?_ | exact rfl
    refine And.intro (fun (h2 : nI 84 ≤ s * 7 + w) => ?_) (fun (h2 : ¬ (nI 84 ≤ s * 7 + w)) => ?_)
    · rw [if_pos h2]
      refine zz_step rfl ?_
      repeat' first | refine And.intro rfl ?_ | refine And.intro (Or.inl rfl) ?_ | refine And.intro (Or.inr rfl) ?_ | refine And.intro (Nat.le_of_ble_eq_true rfl) ?_ | refine And.intro (And.intro rfl rfl) ?_ | exact rfl | refine zz_step rfl ?_
    · rw [if_neg h2]
      repeat' first | refine And.intro rfl ?_ | refine And.intro (Or.inl rfl) ?_ | refine And.intro (Or.inr rfl) ?_ | refine And.intro (Nat.le_of_ble_eq_true rfl) ?_ | refine And.intro (And.intro rfl rfl) ?_ | exact rfl
      refine And.intro (zz_vin h h2 (Nat.le_of_ble_eq_true rfl)) ?_
      repeat' first | refine And.intro rfl ?_ | refine And.intro (Or.inl rfl) ?_ | refine And.intro (Or.inr rfl) ?_ | refine And.intro (Nat.le_of_ble_eq_true rfl) ?_ | refine And.intro (And.intro rfl rfl) ?_ | exact rfl | refine zz_step rfl ?_
theorem zr_has (F : zz_F) (I : Nat → Nat → Int32) (J : Nat → Nat → Int64) (d : Nat) (s : Int32) : zz_run (d) 113 0 [some (.ref 5), some (.int (s))] [] (zz_S F I J) (some (.int (if s < 0 then 0 else if I 5 2 ≤ s then 0 else 1))) (zz_S F (I) (J)) := by
  refine zz_step rfl ?_
  repeat' first | refine And.intro rfl ?_ | refine And.intro (Or.inl rfl) ?_ | refine And.intro (Or.inr rfl) ?_ | refine And.intro (Nat.le_of_ble_eq_true rfl) ?_ | refine And.intro (And.intro rfl rfl) ?_ | exact rfl
  refine And.intro (fun (h : s < 0) => ?_) (fun (h : ¬ (s < 0)) => ?_)
  · rw [if_pos h]
    refine zz_step rfl ?_
    repeat' first | refine And.intro rfl ?_ | refine And.intro (Or.inl rfl) ?_ | refine And.intro (Or.inr rfl) ?_ | refine And.intro (Nat.le_of_ble_eq_true rfl) ?_ | refine And.intro (And.intro rfl rfl) ?_ | exact rfl | refine zz_step rfl ?_
  · rw [if_neg h]
    repeat' first | refine And.intro rfl ?_ | refine And.intro (Or.inl rfl) ?_ | refine And.intro (Or.inr rfl) ?_ | refine And.intro (Nat.le_of_ble_eq_true rfl) ?_ | refine And.intro (And.intro rfl rfl) ?_ | exact rfl
    refine And.intro (fun (h2 : I 5 2 ≤ s) => ?_) (fun (h2 : ¬ (I 5 2 ≤ s)) => ?_)
    · rw [if_pos h2]
      refine zz_step rfl ?_
      repeat' first | refine And.intro rfl ?_ | refine And.intro (Or.inl rfl) ?_ | refine And.intro (Or.inr rfl) ?_ | refine And.intro (Nat.le_of_ble_eq_true rfl) ?_ | refine And.intro (And.intro rfl rfl) ?_ | exact rfl | refine zz_step rfl ?_
    · rw [if_neg h2]
      repeat' first | refine And.intro rfl ?_ | refine And.intro (Or.inl rfl) ?_ | refine And.intro (Or.inr rfl) ?_ | refine And.intro (Nat.le_of_ble_eq_true rfl) ?_ | refine And.intro (And.intro rfl rfl) ?_ | exact rfl | refine zz_step rfl ?_
/-- the memory behind Script.put -/
def zz_putm (I : Nat → Nat → Int32) (s w v : Int32) : Nat → Nat → Int32 := if s * 7 + w < 0 then I else if nI 84 ≤ s * 7 + w then I else zz_u I 6 (s * 7 + w).toNatClampNeg v
theorem zr_put (F : zz_F) (I : Nat → Nat → Int32) (J : Nat → Nat → Int64) (d : Nat) (s w v : Int32) : zz_run (d) 115 0 [some (.ref 5), some (.int (s)), some (.int (w)), some (.int (v)), none] [] (zz_S F I J) none (zz_S F (zz_putm I s w v) (J)) := by
  unfold zz_putm
  refine zz_step rfl ?_
  repeat' first | refine And.intro rfl ?_ | refine And.intro (Or.inl rfl) ?_ | refine And.intro (Or.inr rfl) ?_ | refine And.intro (Nat.le_of_ble_eq_true rfl) ?_ | refine And.intro (And.intro rfl rfl) ?_ | exact rfl
  refine And.intro (fun (h : s * 7 + w < 0) => ?_) (fun (h : ¬ (s * 7 + w < 0)) => ?_)
  · rw [if_pos h]
    refine zz_step rfl ?_
    repeat' first | refine And.intro rfl ?_ | refine And.intro (Or.inl rfl) ?_ | refine And.intro (Or.inr rfl) ?_ | refine And.intro (Nat.le_of_ble_eq_true rfl) ?_ | refine And.intro (And.intro rfl rfl) ?_ | exact rfl | refine zz_step rfl ?_
  · rw [if_neg h]
    repeat' first | refine And.intro rfl ?_ | refine And.intro (Or.inl rfl) ?_ | refine And.intro (Or.inr rfl) ?_ | refine And.intro (Nat.le_of_ble_eq_true rfl) ?_ | refine And.intro (And.intro rfl rfl) ?_ | exact rfl
    refine And.intro (fun (h2 : nI 84 ≤ s * 7 + w) => ?_) (fun (h2 : ¬ (nI 84 ≤ s * 7 + w)) => ?_)
    · rw [if_pos h2]
      refine zz_step rfl ?_
      repeat' first | refine And.intro rfl ?_ | refine And.intro (Or.inl rfl) ?_ | refine And.intro (Or.inr rfl) ?_ | refine And.intro (Nat.le_of_ble_eq_true rfl) ?_ | refine And.intro (And.intro rfl rfl) ?_ | exact rfl | refine zz_step rfl ?_
    · rw [if_neg h2]
      repeat' first | refine And.intro rfl ?_ | refine And.intro (Or.inl rfl) ?_ | refine And.intro (Or.inr rfl) ?_ | refine And.intro (Nat.le_of_ble_eq_true rfl) ?_ | refine And.intro (And.intro rfl rfl) ?_ | exact rfl
      refine And.intro (zz_vin h h2 (Nat.le_of_ble_eq_true rfl)) ?_
      repeat' first | refine And.intro rfl ?_ | refine And.intro (Or.inl rfl) ?_ | refine And.intro (Or.inr rfl) ?_ | refine And.intro (Nat.le_of_ble_eq_true rfl) ?_ | refine And.intro (And.intro rfl rfl) ?_ | exact rfl | refine zz_step rfl ?_
theorem zr_scenesOf (F : zz_F) (I : Nat → Nat → Int32) (J : Nat → Nat → Int64) (d : Nat) (p : Int32) : zz_run (d) 117 0 [some (.ref 5), some (.int (p))] [] (zz_S F I J) (some (.int (if p = 0 then I 7 0 else if p = 1 then I 7 1 else 0))) (zz_S F (I) (J)) := by
  refine zz_step rfl ?_
  repeat' first | refine And.intro rfl ?_ | refine And.intro (Or.inl rfl) ?_ | refine And.intro (Or.inr rfl) ?_ | refine And.intro (Nat.le_of_ble_eq_true rfl) ?_ | refine And.intro (And.intro rfl rfl) ?_ | exact rfl
  refine And.intro (fun (h : p = 0) => ?_) (fun (h : ¬ (p = 0)) => ?_)
  · subst h
    refine zz_step rfl ?_
    repeat' first | refine And.intro rfl ?_ | refine And.intro (Or.inl rfl) ?_ | refine And.intro (Or.inr rfl) ?_ | refine And.intro (Nat.le_of_ble_eq_true rfl) ?_ | refine And.intro (And.intro rfl rfl) ?_ | exact rfl
    refine And.intro (zz_vk (k := 0) rfl rfl) ?_
    repeat' first | refine And.intro rfl ?_ | refine And.intro (Or.inl rfl) ?_ | refine And.intro (Or.inr rfl) ?_ | refine And.intro (Nat.le_of_ble_eq_true rfl) ?_ | refine And.intro (And.intro rfl rfl) ?_ | exact rfl | refine zz_step rfl ?_
  · rw [if_neg h]
    repeat' first | refine And.intro rfl ?_ | refine And.intro (Or.inl rfl) ?_ | refine And.intro (Or.inr rfl) ?_ | refine And.intro (Nat.le_of_ble_eq_true rfl) ?_ | refine And.intro (And.intro rfl rfl) ?_ | exact rfl
    refine And.intro (fun (h2 : ¬ (p = 1)) => ?_) (fun (h2 : ¬ (¬ (p = 1))) => ?_)
    · rw [if_neg h2]
      refine zz_step rfl ?_
      repeat' first | refine And.intro rfl ?_ | refine And.intro (Or.inl rfl) ?_ | refine And.intro (Or.inr rfl) ?_ | refine And.intro (Nat.le_of_ble_eq_true rfl) ?_ | refine And.intro (And.intro rfl rfl) ?_ | exact rfl | refine zz_step rfl ?_
    · have h3 := zz_nn h2
      subst h3
      refine zz_step rfl ?_
      repeat' first | refine And.intro rfl ?_ | refine And.intro (Or.inl rfl) ?_ | refine And.intro (Or.inr rfl) ?_ | refine And.intro (Nat.le_of_ble_eq_true rfl) ?_ | refine And.intro (And.intro rfl rfl) ?_ | exact rfl
      refine And.intro (zz_vk (k := 1) rfl rfl) ?_
      repeat' first | refine And.intro rfl ?_ | refine And.intro (Or.inl rfl) ?_ | refine And.intro (Or.inr rfl) ?_ | refine And.intro (Nat.le_of_ble_eq_true rfl) ?_ | refine And.intro (And.intro rfl rfl) ?_ | exact rfl | refine zz_step rfl ?_
/-- counting up to n, an int for each -/
theorem zr_sumOf (F : zz_F) (I : Nat → Nat → Int32) (J : Nat → Nat → Int64) (d : Nat) (set w : Int32) (n : Nat) (hn : I 5 2 = nI n) (hn2 : n < 2 ^ 31) : zz_run (d+1) 118 0 [some (.ref 5), some (.int (set)), some (.int (w)), none, none] [] (zz_S F I J) (some (.int (zz_sum (fun i => if zz_bit set i then zz_f I (nI i) w else 0) n))) (zz_S F (I) (J)) := by
  have loop : ∀ k i, i + k = n → zz_run (d+1) 118 5 [some (.ref 5), some (.int (set)), some (.int (w)), some (.int (zz_sum (fun i => if zz_bit set i then zz_f I (nI i) w else 0) i)), some (.int (nI i))] [] (zz_S F I J) (some (.int (zz_sum (fun i => if zz_bit set i then zz_f I (nI i) w else 0) n))) (zz_S F (I) (J)) := by
    intro k
    induction k with
    | zero =>
      intro i hi
      have e : i = n := by omega
      subst e
      refine zz_step rfl ?_
      repeat' first | refine And.intro rfl ?_ | refine And.intro (Or.inl rfl) ?_ | refine And.intro (Or.inr rfl) ?_ | refine And.intro (Nat.le_of_ble_eq_true rfl) ?_ | refine And.intro (And.intro rfl rfl) ?_ | exact rfl
      refine And.intro (fun (h : I 5 2 ≤ nI i) => ?_) (fun (h : ¬ (I 5 2 ≤ nI i)) => ?_)
      · refine zz_step rfl ?_
        repeat' first | refine And.intro rfl ?_ | refine And.intro (Or.inl rfl) ?_ | refine And.intro (Or.inr rfl) ?_ | refine And.intro (Nat.le_of_ble_eq_true rfl) ?_ | refine And.intro (And.intro rfl rfl) ?_ | exact rfl | refine zz_step rfl ?_
      · exact absurd (zz_ile hn hn2) h
    | succ k ih =>
      intro i hi
      have j34 : ∀ a, a = zz_sum (fun i => if zz_bit set i then zz_f I (nI i) w else 0) (i + 1) → zz_run (d+1) 118 34 [some (.ref 5), some (.int (set)), some (.int (w)), some (.int (a)), some (.int (nI i))] [] (zz_S F I J) (some (.int (zz_sum (fun i => if zz_bit set i then zz_f I (nI i) w else 0) n))) (zz_S F (I) (J)) := by
        intro a ha
        have ih1 := ih (i + 1) (by omega)
        rw [nI_succ, ← ha] at ih1
        refine zz_step rfl ?_
        repeat' first | refine And.intro rfl ?_ | refine And.intro (Or.inl rfl) ?_ | refine And.intro (Or.inr rfl) ?_ | refine And.intro (Nat.le_of_ble_eq_true rfl) ?_ | refine And.intro (And.intro rfl rfl) ?_ | exact rfl
        exact ih1
      refine zz_step rfl ?_
      repeat' first | refine And.intro rfl ?_ | refine And.intro (Or.inl rfl) ?_ | refine And.intro (Or.inr rfl) ?_ | refine And.intro (Nat.le_of_ble_eq_true rfl) ?_ | refine And.intro (And.intro rfl rfl) ?_ | exact rfl
      refine And.intro (fun (h : I 5 2 ≤ nI i) => ?_) (fun (h : ¬ (I 5 2 ≤ nI i)) => ?_)
      · exact absurd h (zz_ilt hn hn2 (by omega))
      · repeat' first | refine And.intro rfl ?_ | refine And.intro (Or.inl rfl) ?_ | refine And.intro (Or.inr rfl) ?_ | refine And.intro (Nat.le_of_ble_eq_true rfl) ?_ | refine And.intro (And.intro rfl rfl) ?_ | exact rfl
        refine And.intro (fun (h2 : ¬ ((set >>> (nI i &&& 31)) &&& 1 = 1)) => ?_) (fun (h2 : ¬ (¬ ((set >>> (nI i &&& 31)) &&& 1 = 1))) => ?_)
        · exact j34 _ (by simp [zz_sum, zz_bit_f h2])
        · repeat' first | refine And.intro rfl ?_ | refine And.intro (Or.inl rfl) ?_ | refine And.intro (Or.inr rfl) ?_ | refine And.intro (Nat.le_of_ble_eq_true rfl) ?_ | refine And.intro (And.intro rfl rfl) ?_ | exact rfl
          refine Exists.intro _ (Exists.intro _ (And.intro (zr_of F I J d (nI i) w) ?_))
          repeat' first | refine And.intro rfl ?_ | refine And.intro (Or.inl rfl) ?_ | refine And.intro (Or.inr rfl) ?_ | refine And.intro (Nat.le_of_ble_eq_true rfl) ?_ | refine And.intro (And.intro rfl rfl) ?_ | exact rfl
          exact j34 _ (by simp [zz_sum, zz_bit_t (zz_nn h2)])
  refine zz_step rfl ?_
  repeat' first | refine And.intro rfl ?_ | refine And.intro (Or.inl rfl) ?_ | refine And.intro (Or.inr rfl) ?_ | refine And.intro (Nat.le_of_ble_eq_true rfl) ?_ | refine And.intro (And.intro rfl rfl) ?_ | exact rfl
  exact loop n 0 (by omega)
theorem zr_unionOf (F : zz_F) (I : Nat → Nat → Int32) (J : Nat → Nat → Int64) (d : Nat) (set w : Int32) (n : Nat) (hn : I 5 2 = nI n) (hn2 : n < 2 ^ 31) : zz_run (d+1) 119 0 [some (.ref 5), some (.int (set)), some (.int (w)), none, none] [] (zz_S F I J) (some (.int (zz_or (fun i => if zz_bit set i then zz_f I (nI i) w else 0) n))) (zz_S F (I) (J)) := by
  have loop : ∀ k i, i + k = n → zz_run (d+1) 119 5 [some (.ref 5), some (.int (set)), some (.int (w)), some (.int (zz_or (fun i => if zz_bit set i then zz_f I (nI i) w else 0) i)), some (.int (nI i))] [] (zz_S F I J) (some (.int (zz_or (fun i => if zz_bit set i then zz_f I (nI i) w else 0) n))) (zz_S F (I) (J)) := by
    intro k
    induction k with
    | zero =>
      intro i hi
      have e : i = n := by omega
      subst e
      refine zz_step rfl ?_
      repeat' first | refine And.intro rfl ?_ | refine And.intro (Or.inl rfl) ?_ | refine And.intro (Or.inr rfl) ?_ | refine And.intro (Nat.le_of_ble_eq_true rfl) ?_ | refine And.intro (And.intro rfl rfl) ?_ | exact rfl
      refine And.intro (fun (h : I 5 2 ≤ nI i) => ?_) (fun (h : ¬ (I 5 2 ≤ nI i)) => ?_)
      · refine zz_step rfl ?_
        repeat' first | refine And.intro rfl ?_ | refine And.intro (Or.inl rfl) ?_ | refine And.intro (Or.inr rfl) ?_ | refine And.intro (Nat.le_of_ble_eq_true rfl) ?_ | refine And.intro (And.intro rfl rfl) ?_ | exact rfl | refine zz_step rfl ?_
      · exact absurd (zz_ile hn hn2) h
    | succ k ih =>
      intro i hi
      have j34 : ∀ a, a = zz_or (fun i => if zz_bit set i then zz_f I (nI i) w else 0) (i + 1) → zz_run (d+1) 119 34 [some (.ref 5), some (.int (set)), some (.int (w)), some (.int (a)), some (.int (nI i))] [] (zz_S F I J) (some (.int (zz_or (fun i => if zz_bit set i then zz_f I (nI i) w else 0) n))) (zz_S F (I) (J)) := by
        intro a ha
        have ih1 := ih (i + 1) (by omega)
        rw [nI_succ, ← ha] at ih1
        refine zz_step rfl ?_
        repeat' first | refine And.intro rfl ?_ | refine And.intro (Or.inl rfl) ?_ | refine And.intro (Or.inr rfl) ?_ | refine And.intro (Nat.le_of_ble_eq_true rfl) ?_ | refine And.intro (And.intro rfl rfl) ?_ | exact rfl
        exact ih1
      refine zz_step rfl ?_
      repeat' first | refine And.intro rfl ?_ | refine And.intro (Or.inl rfl) ?_ | refine And.intro (Or.inr rfl) ?_ | refine And.intro (Nat.le_of_ble_eq_true rfl) ?_ | refine And.intro (And.intro rfl rfl) ?_ | exact rfl
      refine And.intro (fun (h : I 5 2 ≤ nI i) => ?_) (fun (h : ¬ (I 5 2 ≤ nI i)) => ?_)
      · exact absurd h (zz_ilt hn hn2 (by omega))
      · repeat' first | refine And.intro rfl ?_ | refine And.intro (Or.inl rfl) ?_ | refine And.intro (Or.inr rfl) ?_ | refine And.intro (Nat.le_of_ble_eq_true rfl) ?_ | refine And.intro (And.intro rfl rfl) ?_ | exact rfl
        refine And.intro (fun (h2 : ¬ ((set >>> (nI i &&& 31)) &&& 1 = 1)) => ?_) (fun (h2 : ¬ (¬ ((set >>> (nI i &&& 31)) &&& 1 = 1))) => ?_)
        · exact j34 _ (by simp [zz_or, zz_bit_f h2])
        · repeat' first | refine And.intro rfl ?_ | refine And.intro (Or.inl rfl) ?_ | refine And.intro (Or.inr rfl) ?_ | refine And.intro (Nat.le_of_ble_eq_true rfl) ?_ | refine And.intro (And.intro rfl rfl) ?_ | exact rfl
          refine Exists.intro _ (Exists.intro _ (And.intro (zr_of F I J d (nI i) w) ?_))
          repeat' first | refine And.intro rfl ?_ | refine And.intro (Or.inl rfl) ?_ | refine And.intro (Or.inr rfl) ?_ | refine And.intro (Nat.le_of_ble_eq_true rfl) ?_ | refine And.intro (And.intro rfl rfl) ?_ | exact rfl
          exact j34 _ (by simp [zz_or, zz_bit_t (zz_nn h2)])
  refine zz_step rfl ?_
  repeat' first | refine And.intro rfl ?_ | refine And.intro (Or.inl rfl) ?_ | refine And.intro (Or.inr rfl) ?_ | refine And.intro (Nat.le_of_ble_eq_true rfl) ?_ | refine And.intro (And.intro rfl rfl) ?_ | exact rfl
  exact loop n 0 (by omega)
/-- does a scene follow, with what is known -/
def zz_follows (I : Nat → Nat → Int32) (s known : Int32) : Int32 := if zz_f I s 5 < 0 then 1 else if (known >>> (zz_f I s 5 &&& 31)) &&& 1 = 1 then 1 else 0
theorem zr_follows (F : zz_F) (I : Nat → Nat → Int32) (J : Nat → Nat → Int64) (d : Nat) (s known : Int32) : zz_run (d+1) 120 0 [some (.ref 5), some (.int (s)), some (.int (known)), none] [] (zz_S F I J) (some (.int (zz_follows I s known))) (zz_S F (I) (J)) := by
  unfold zz_follows
  refine zz_step rfl ?_
  repeat' first | refine And.intro rfl ?_ | refine And.intro (Or.inl rfl) ?_ | refine And.intro (Or.inr rfl) ?_ | refine And.intro (Nat.le_of_ble_eq_true rfl) ?_ | refine And.intro (And.intro rfl rfl) ?_ | exact rfl
  refine Exists.intro _ (Exists.intro _ (And.intro (zr_of F I J d s 5) ?_))
  repeat' first | refine And.intro rfl ?_ | refine And.intro (Or.inl rfl) ?_ | refine And.intro (Or.inr rfl) ?_ | refine And.intro (Nat.le_of_ble_eq_true rfl) ?_ | refine And.intro (And.intro rfl rfl) ?_ | exact rfl
  refine And.intro (fun (h : zz_f I s 5 < 0) => ?_) (fun (h : ¬ (zz_f I s 5 < 0)) => ?_)
  · rw [if_pos h]
    refine zz_step rfl ?_
    repeat' first | refine And.intro rfl ?_ | refine And.intro (Or.inl rfl) ?_ | refine And.intro (Or.inr rfl) ?_ | refine And.intro (Nat.le_of_ble_eq_true rfl) ?_ | refine And.intro (And.intro rfl rfl) ?_ | exact rfl | refine zz_step rfl ?_
  · rw [if_neg h]
    repeat' first | refine And.intro rfl ?_ | refine And.intro (Or.inl rfl) ?_ | refine And.intro (Or.inr rfl) ?_ | refine And.intro (Nat.le_of_ble_eq_true rfl) ?_ | refine And.intro (And.intro rfl rfl) ?_ | exact rfl
    refine And.intro (fun (h2 : ¬ ((known >>> (zz_f I s 5 &&& 31)) &&& 1 = 1)) => ?_) (fun (h2 : ¬ (¬ ((known >>> (zz_f I s 5 &&& 31)) &&& 1 = 1))) => ?_)
    · rw [if_neg h2]
      refine zz_step rfl ?_
      repeat' first | refine And.intro rfl ?_ | refine And.intro (Or.inl rfl) ?_ | refine And.intro (Or.inr rfl) ?_ | refine And.intro (Nat.le_of_ble_eq_true rfl) ?_ | refine And.intro (And.intro rfl rfl) ?_ | exact rfl | refine zz_step rfl ?_
    · rw [if_pos (zz_nn h2)]
      repeat' first | refine And.intro rfl ?_ | refine And.intro (Or.inl rfl) ?_ | refine And.intro (Or.inr rfl) ?_ | refine And.intro (Nat.le_of_ble_eq_true rfl) ?_ | refine And.intro (And.intro rfl rfl) ?_ | exact rfl | refine zz_step rfl ?_
def zz_cheer (I : Nat → Nat → Int32) (s known : Int32) : Int32 := if zz_follows I s known = 0 then zz_f I s 6 / 2 else zz_f I s 6
theorem zr_cheerWith (F : zz_F) (I : Nat → Nat → Int32) (J : Nat → Nat → Int64) (d : Nat) (s known : Int32) : zz_run (d+2) 121 0 [some (.ref 5), some (.int (s)), some (.int (known)), none] [] (zz_S F I J) (some (.int (zz_cheer I s known))) (zz_S F (I) (J)) := by
  unfold zz_cheer
  refine zz_step rfl ?_
  repeat' first | refine And.intro rfl ?_ | refine And.intro (Or.inl rfl) ?_ | refine And.intro (Or.inr rfl) ?_ | refine And.intro (Nat.le_of_ble_eq_true rfl) ?_ | refine And.intro (And.intro rfl rfl) ?_ | exact rfl
  refine Exists.intro _ (Exists.intro _ (And.intro (zr_of F I J (d+1) s 6) ?_))
  repeat' first | refine And.intro rfl ?_ | refine And.intro (Or.inl rfl) ?_ | refine And.intro (Or.inr rfl) ?_ | refine And.intro (Nat.le_of_ble_eq_true rfl) ?_ | refine And.intro (And.intro rfl rfl) ?_ | exact rfl
  refine Exists.intro _ (Exists.intro _ (And.intro (zr_follows F I J d s known) ?_))
  repeat' first | refine And.intro rfl ?_ | refine And.intro (Or.inl rfl) ?_ | refine And.intro (Or.inr rfl) ?_ | refine And.intro (Nat.le_of_ble_eq_true rfl) ?_ | refine And.intro (And.intro rfl rfl) ?_ | exact rfl
  refine And.intro (fun (h : zz_follows I s known = 0) => ?_) (fun (h : ¬ (zz_follows I s known = 0)) => ?_)
  · rw [if_pos h]
    refine zz_step rfl ?_
    repeat' first | refine And.intro rfl ?_ | refine And.intro (Or.inl rfl) ?_ | refine And.intro (Or.inr rfl) ?_ | refine And.intro (Nat.le_of_ble_eq_true rfl) ?_ | refine And.intro (And.intro rfl rfl) ?_ | exact rfl
    refine And.intro ((by decide : ¬ (2 : Int32) = 0)) ?_
    repeat' first | refine And.intro rfl ?_ | refine And.intro (Or.inl rfl) ?_ | refine And.intro (Or.inr rfl) ?_ | refine And.intro (Nat.le_of_ble_eq_true rfl) ?_ | refine And.intro (And.intro rfl rfl) ?_ | exact rfl | refine zz_step rfl ?_
  · rw [if_neg h]
    repeat' first | refine And.intro rfl ?_ | refine And.intro (Or.inl rfl) ?_ | refine And.intro (Or.inr rfl) ?_ | refine And.intro (Nat.le_of_ble_eq_true rfl) ?_ | refine And.intro (And.intro rfl rfl) ?_ | exact rfl | refine zz_step rfl ?_
def zz_fact (I : Nat → Nat → Int32) (s : Int32) : Int32 := if 0 ≤ zz_f I s 4 then (1 : Int32) <<< (zz_f I s 4 &&& 31) else 0
theorem zr_factOf (F : zz_F) (I : Nat → Nat → Int32) (J : Nat → Nat → Int64) (d : Nat) (s : Int32) : zz_run (d+1) 122 0 [some (.ref 5), some (.int (s)), none] [] (zz_S F I J) (some (.int (zz_fact I s))) (zz_S F (I) (J)) := by
  unfold zz_fact
  refine zz_step rfl ?_
  repeat' first | refine And.intro rfl ?_ | refine And.intro (Or.inl rfl) ?_ | refine And.intro (Or.inr rfl) ?_ | refine And.intro (Nat.le_of_ble_eq_true rfl) ?_ | refine And.intro (And.intro rfl rfl) ?_ | exact rfl
  refine Exists.intro _ (Exists.intro _ (And.intro (zr_of F I J d s 4) ?_))
  repeat' first | refine And.intro rfl ?_ | refine And.intro (Or.inl rfl) ?_ | refine And.intro (Or.inr rfl) ?_ | refine And.intro (Nat.le_of_ble_eq_true rfl) ?_ | refine And.intro (And.intro rfl rfl) ?_ | exact rfl
  refine And.intro (fun (h : 0 ≤ zz_f I s 4) => ?_) (fun (h : ¬ (0 ≤ zz_f I s 4)) => ?_)
  · rw [if_pos h]
    refine zz_step rfl ?_
    repeat' first | refine And.intro rfl ?_ | refine And.intro (Or.inl rfl) ?_ | refine And.intro (Or.inr rfl) ?_ | refine And.intro (Nat.le_of_ble_eq_true rfl) ?_ | refine And.intro (And.intro rfl rfl) ?_ | exact rfl | refine zz_step rfl ?_
  · rw [if_neg h]
    repeat' first | refine And.intro rfl ?_ | refine And.intro (Or.inl rfl) ?_ | refine And.intro (Or.inr rfl) ?_ | refine And.intro (Nat.le_of_ble_eq_true rfl) ?_ | refine And.intro (And.intro rfl rfl) ?_ | exact rfl | refine zz_step rfl ?_
def zz_max (a b : Int32) : Int32 := if a < b then b else a
def zz_min (a b : Int32) : Int32 := if b < a then b else a
theorem zr_max (F : zz_F) (I : Nat → Nat → Int32) (J : Nat → Nat → Int64) (d : Nat) (a b : Int32) : zz_run (d) 309 0 [some (.int (a)), some (.int (b))] [] (zz_S F I J) (some (.int (zz_max a b))) (zz_S F (I) (J)) := by
  unfold zz_max
  refine zz_step rfl ?_
  repeat' first | refine And.intro rfl ?_ | refine And.intro (Or.inl rfl) ?_ | refine And.intro (Or.inr rfl) ?_ | refine And.intro (Nat.le_of_ble_eq_true rfl) ?_ | refine And.intro (And.intro rfl rfl) ?_ | exact rfl
  refine And.intro (fun (h : a < b) => ?_) (fun (h : ¬ (a < b)) => ?_)
  · rw [if_pos h]
    refine zz_step rfl ?_
    repeat' first | refine And.intro rfl ?_ | refine And.intro (Or.inl rfl) ?_ | refine And.intro (Or.inr rfl) ?_ | refine And.intro (Nat.le_of_ble_eq_true rfl) ?_ | refine And.intro (And.intro rfl rfl) ?_ | exact rfl | refine zz_step rfl ?_
  · rw [if_neg h]
    repeat' first | refine And.intro rfl ?_ | refine And.intro (Or.inl rfl) ?_ | refine And.intro (Or.inr rfl) ?_ | refine And.intro (Nat.le_of_ble_eq_true rfl) ?_ | refine And.intro (And.intro rfl rfl) ?_ | exact rfl | refine zz_step rfl ?_
theorem zr_min (F : zz_F) (I : Nat → Nat → Int32) (J : Nat → Nat → Int64) (d : Nat) (a b : Int32) : zz_run (d) 310 0 [some (.int (a)), some (.int (b))] [] (zz_S F I J) (some (.int (zz_min a b))) (zz_S F (I) (J)) := by
  unfold zz_min
  refine zz_step rfl ?_
  repeat' first | refine And.intro rfl ?_ | refine And.intro (Or.inl rfl) ?_ | refine And.intro (Or.inr rfl) ?_ | refine And.intro (Nat.le_of_ble_eq_true rfl) ?_ | refine And.intro (And.intro rfl rfl) ?_ | exact rfl
  refine And.intro (fun (h : b < a) => ?_) (fun (h : ¬ (b < a)) => ?_)
  · rw [if_pos h]
    refine zz_step rfl ?_
    repeat' first | refine And.intro rfl ?_ | refine And.intro (Or.inl rfl) ?_ | refine And.intro (Or.inr rfl) ?_ | refine And.intro (Nat.le_of_ble_eq_true rfl) ?_ | refine And.intro (And.intro rfl rfl) ?_ | exact rfl | refine zz_step rfl ?_
  · rw [if_neg h]
    repeat' first | refine And.intro rfl ?_ | refine And.intro (Or.inl rfl) ?_ | refine And.intro (Or.inr rfl) ?_ | refine And.intro (Nat.le_of_ble_eq_true rfl) ?_ | refine And.intro (And.intro rfl rfl) ?_ | exact rfl | refine zz_step rfl ?_
theorem zz_nb {v : Int32} (h : v = 0 ∨ v = 1) : narrow .boolean (.int v) = .int v := by
  rcases h with rfl | rfl <;> rfl
theorem zz_ge0 {x : Int32} (h : 0 ≤ x) : ¬ x < 0 := Int32.not_lt.mpr h
theorem zz_lt_nle {x y : Int32} (h : x < y) : ¬ y ≤ x := Int32.not_le.mpr h
theorem zz_gt_nle {n : Nat} {x y : Int32} (h : ¬ y < x) (hy : y + 1 = Int32.ofNat n := by rfl) (hn : y < y + 1 := by decide) : ¬ Int32.ofNat n ≤ x := by
  rw [← hy]
  intro q
  exact h (Int32.lt_of_lt_of_le hn q)
theorem zz_veq {x : Int32} {k n : Nat} (h : x = nI k) (h1 : Nat.blt k n = true) (hn : Nat.blt n 2147483648 = true) : vp_in x n := by
  rw [h]; exact zz_vk h1 hn
