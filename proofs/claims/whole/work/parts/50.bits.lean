/-! BITS AND SETS; the first rows began as kit/laws/BITS.to-paste -/
def bt (x : Int32) (i : Nat) : Bool := x.toBitVec.getLsbD i
theorem b_ext {x y : Int32} (h : ∀ i, i < 32 → bt x i = bt y i) : x = y := Int32.toBitVec_inj.mp (BitVec.eq_of_getLsbD_eq (fun i hi => h i hi))
theorem b_or (x y : Int32) (i : Nat) : bt (x ||| y) i = (bt x i || bt y i) := by unfold bt; rw [Int32.toBitVec_or, BitVec.getLsbD_or]
theorem b_and (x y : Int32) (i : Nat) : bt (x &&& y) i = (bt x i && bt y i) := by unfold bt; rw [Int32.toBitVec_and, BitVec.getLsbD_and]
theorem b_xor (x y : Int32) (i : Nat) : bt (x ^^^ y) i = (bt x i ^^ bt y i) := by unfold bt; rw [Int32.toBitVec_xor, BitVec.getLsbD_xor]
theorem b_big {x : Int32} {i : Nat} (h : 32 ≤ i) : bt x i = false := BitVec.getLsbD_of_ge _ _ h
theorem b_m1 : ∀ i, i < 32 → bt (-1) i = true := by decide +kernel
theorem b_0 (i : Nat) : bt 0 i = false := BitVec.getLsbD_zero
theorem b_one (i : Nat) : bt 1 i = decide (i = 0) := by
  rcases Nat.lt_or_ge i 32 with h | h
  · exact (by decide +kernel : ∀ i, i < 32 → bt 1 i = decide (i = 0)) i h
  · rw [b_big h, decide_eq_false (by omega)]
theorem s_l : ∀ n, n < 32 → ((nI n &&& 31).toBitVec.smod 32).toNat = n := by decide +kernel
theorem b_shl (n : Nat) (hn : n < 32) (x : Int32) {i : Nat} (hi : i < 32) : bt (x <<< (nI n &&& 31)) i = (decide (n ≤ i) && bt x (i - n)) := by
  unfold bt
  rw [Int32.toBitVec_shiftLeft]
  show (x.toBitVec <<< ((nI n &&& 31).toBitVec.smod 32).toNat).getLsbD i = _
  rw [s_l n hn, BitVec.getLsbD_shiftLeft]
  rcases Nat.lt_or_ge i n with h | h
  · simp [h, Nat.not_le.mpr h]
  · simp [hi, h, Nat.not_lt.mpr h]
theorem b_sshr (n : Nat) (hn : n < 32) (x : Int32) {i : Nat} (hi : i < 32) : bt (x >>> (nI n &&& 31)) i = if n + i < 32 then bt x (n + i) else bt x 31 := by
  unfold bt
  rw [Int32.toBitVec_shiftRight]
  show (x.toBitVec.sshiftRight ((nI n &&& 31).toBitVec.smod 32).toNat).getLsbD i = _
  rw [s_l n hn, BitVec.getLsbD_sshiftRight, BitVec.msb_eq_getLsbD_last]
  simp [hi]
theorem b_bit (n : Nat) (hn : n < 32) {i : Nat} (hi : i < 32) : bt ((1 : Int32) <<< (nI n &&& 31)) i = decide (i = n) := by
  rw [b_shl n hn 1 hi, b_one]
  by_cases h : i = n
  · subst h; simp
  · rcases Nat.lt_or_ge i n with q | q
    · simp [Nat.not_le.mpr q, h]
    · simp only [h, decide_false, Bool.and_eq_false_imp]
      intro _
      exact decide_eq_false (by omega)
theorem b_sel (x : Int32) (s : Nat) (hs : s < 32) (i : Nat) (hi : i < 32) : bt ((x >>> (nI s &&& 31)) &&& 1) i = (decide (i = 0) && bt x s) := by
  rw [b_and, b_one, b_sshr s hs x hi]
  by_cases h : i = 0
  · subst h; simp [hs]
  · simp [h]
theorem zu_selE (x : Int32) (s : Nat) (hs : s < 32) : (x >>> (nI s &&& 31)) &&& 1 = if bt x s = true then 1 else 0 := by
  apply b_ext
  intro i hi
  rw [b_sel x s hs i hi]
  cases hb : bt x s
  · simp [b_0]
  · simp [b_one]
/-- bit s as both classes ask for it -/
theorem zu_b1 {x : Int32} {s : Nat} (hs : s < 32) : ((x >>> (nI s &&& 31)) &&& 1 = 1) = (bt x s = true) := by
  rw [zu_selE x s hs]
  cases bt x s <;> simp
theorem zu_b0 {x : Int32} {s : Nat} (hs : s < 32) : ((x >>> (nI s &&& 31)) &&& 1 = 0) = (bt x s = false) := by
  rw [zu_selE x s hs]
  cases bt x s <;> simp
theorem zu_bz {x : Int32} {s : Nat} (hs : s < 32) : (x &&& ((1 : Int32) <<< (nI s &&& 31)) = 0) = (bt x s = false) := by
  apply propext
  constructor
  · intro h
    have := congrArg (fun y => bt y s) h
    simp only [b_and, b_0, b_bit s hs hs] at this
    simpa using this
  · intro h
    apply b_ext
    intro i hi
    rw [b_and, b_bit s hs hi, b_0]
    by_cases e : i = s
    · subst e; rw [h]; rfl
    · simp [e]
theorem zu_has {x : Int32} {s : Nat} (hs : s < 32) : (zv_X12_has x (nI s)) = if bt x s = true then 1 else 0 := by
  unfold zv_X12_has
  simp only [zu_b1 hs]
  cases bt x s <;> simp
theorem zu_or0 (x : Int32) : x ||| 0 = x := b_ext (fun i _ => by rw [b_or, b_0, Bool.or_false])
theorem zu_ad0 (x : Int32) : x + 0 = x := Int32.add_zero x
/-- the set of those s below n with p s -/
def zu_set (p : Nat → Bool) : Nat → Int32
  | 0 => 0
  | n + 1 => if p n = true then zu_set p n ||| ((1 : Int32) <<< (nI n &&& 31)) else zu_set p n
theorem zu_set_bt (p : Nat → Bool) : ∀ n, n ≤ 32 → ∀ i, i < 32 → bt (zu_set p n) i = (decide (i < n) && p i)
  | 0, _, i, _ => by simp [zu_set, b_0]
  | n + 1, hn, i, hi => by
    have ih := zu_set_bt p n (by omega) i hi
    unfold zu_set
    split
    · next h =>
      rw [b_or, ih, b_bit n (by omega) hi]
      by_cases e : i = n
      · subst e; simp [h]
      · have : decide (i < n + 1) = decide (i < n) := by
          apply decide_eq_decide.mpr; omega
        simp [e, this]
    · next h =>
      rw [ih]
      by_cases e : i = n
      · subst e; simp [Bool.not_eq_true _ ▸ h]
      · have : decide (i < n + 1) = decide (i < n) := by
          apply decide_eq_decide.mpr; omega
        rw [this]
theorem zu_set_at {p : Nat → Bool} {n i : Nat} (hn : n ≤ 32) (hi : i < n) : bt (zu_set p n) i = p i := by
  rw [zu_set_bt p n hn i (by omega)]; simp [hi]
theorem zu_set_out {p : Nat → Bool} {n i : Nat} (hn : n ≤ 32) (hi : n ≤ i) : bt (zu_set p n) i = false := by
  rcases Nat.lt_or_ge i 32 with h | h
  · rw [zu_set_bt p n hn i h]; simp [Nat.not_lt.mpr hi]
  · exact b_big h
theorem zu_set_cong {p q : Nat → Bool} : ∀ {n : Nat}, (∀ i, i < n → p i = q i) → zu_set p n = zu_set q n
  | 0, _ => rfl
  | n + 1, h => by
    unfold zu_set
    rw [zu_set_cong (fun i hi => h i (by omega)), h n (by omega)]
theorem zu_set_ext {p : Nat → Bool} {n : Nat} {x : Int32} (hn : n ≤ 32) (h1 : ∀ i, i < n → bt x i = p i) (h2 : ∀ i, n ≤ i → i < 32 → bt x i = false) : x = zu_set p n := by
  apply b_ext
  intro i hi
  rcases Nat.lt_or_ge i n with h | h
  · rw [zu_set_at hn h, h1 i h]
  · rw [zu_set_out hn h, h2 i h hi]
theorem zu_set_inj {p q : Nat → Bool} {n : Nat} (hn : n ≤ 32) (h : zu_set p n = zu_set q n) : ∀ i, i < n → p i = q i := fun i hi => by
  rw [← zu_set_at (p := p) hn hi, h, zu_set_at hn hi]
theorem zu_set_and {p q : Nat → Bool} {n : Nat} (hn : n ≤ 32) : zu_set p n &&& zu_set q n = zu_set (fun i => p i && q i) n :=
  zu_set_ext hn (fun i hi => by rw [b_and, zu_set_at hn hi, zu_set_at hn hi]) (fun i hi _ => by rw [b_and, zu_set_out hn hi]; rfl)
theorem zu_set_or {p q : Nat → Bool} {n : Nat} (hn : n ≤ 32) : zu_set p n ||| zu_set q n = zu_set (fun i => p i || q i) n :=
  zu_set_ext hn (fun i hi => by rw [b_or, zu_set_at hn hi, zu_set_at hn hi]) (fun i hi _ => by rw [b_or, zu_set_out hn hi, zu_set_out hn hi]; rfl)
theorem b_not {x : Int32} {i : Nat} (hi : i < 32) : bt (x ^^^ (-1)) i = !bt x i := by rw [b_xor, b_m1 i hi]; simp
theorem zu_set_diff {p q : Nat → Bool} {n : Nat} (hn : n ≤ 32) : zu_set p n &&& (zu_set q n ^^^ (-1)) = zu_set (fun i => p i && !q i) n :=
  zu_set_ext hn (fun i hi => by rw [b_and, b_not (by omega), zu_set_at hn hi, zu_set_at hn hi]) (fun i hi _ => by rw [b_and, zu_set_out hn hi]; rfl)
theorem zu_set_del {p : Nat → Bool} {n s : Nat} (hn : n ≤ 32) (hs : s < 32) : zu_set p n &&& (((1 : Int32) <<< (nI s &&& 31)) ^^^ (-1)) = zu_set (fun i => p i && !decide (i = s)) n :=
  zu_set_ext hn (fun i hi => by rw [b_and, b_not (by omega), zu_set_at hn hi, b_bit s hs (by omega)]) (fun i hi _ => by rw [b_and, zu_set_out hn hi]; rfl)
theorem zu_set_add {p : Nat → Bool} {n s : Nat} (hn : n ≤ 32) (hs : s < n) : zu_set p n ||| ((1 : Int32) <<< (nI s &&& 31)) = zu_set (fun i => p i || decide (i = s)) n :=
  zu_set_ext hn (fun i hi => by rw [b_or, zu_set_at hn hi, b_bit s (by omega) (by omega)]) (fun i hi h2 => by rw [b_or, zu_set_out hn hi, b_bit s (by omega) h2]; simp; omega)
theorem zu_set_zero {p : Nat → Bool} {n : Nat} (hn : n ≤ 32) : (zu_set p n = 0) ↔ ∀ i, i < n → p i = false := by
  constructor
  · intro h i hi
    rw [← zu_set_at (p := p) hn hi, h, b_0]
  · intro h
    apply b_ext
    intro i hi
    rw [b_0]
    rcases Nat.lt_or_ge i n with q | q
    · rw [zu_set_at hn q, h i q]
    · rw [zu_set_out hn q]
theorem zu_set_more {p : Nat → Bool} {n m : Nat} (h : n ≤ m) (hp : ∀ i, n ≤ i → i < m → p i = false) : zu_set p m = zu_set p n := by
  induction m with
  | zero => have : n = 0 := by omega
            subst this; rfl
  | succ m ih =>
    rcases Nat.lt_or_ge n (m + 1) with q | q
    · unfold zu_set
      rw [if_neg (by rw [hp m (by omega) (by omega)]; exact Bool.false_ne_true)]
      have e := ih (by omega) (fun i a b => hp i a (by omega))
      rw [e]
      cases n <;> rfl
    · have : n = m + 1 := by omega
      subst this; rfl
/-! numbers -/
theorem zu_nle {a b : Nat} (h : b < a) : (a ≤ b) = False := eq_false (by omega)
theorem zu_70 {s : Nat} : ((7 : Int32) * nI s + 0) = nI (7 * s + 0) := (congrArg (· + nI 0) (pk_mul 7 s)).trans (nI_add _ _)
theorem zu_71 {s : Nat} : ((7 : Int32) * nI s + 1) = nI (7 * s + 1) := (congrArg (· + nI 1) (pk_mul 7 s)).trans (nI_add _ _)
theorem zu_72 {s : Nat} : ((7 : Int32) * nI s + 2) = nI (7 * s + 2) := (congrArg (· + nI 2) (pk_mul 7 s)).trans (nI_add _ _)
theorem zu_73 {s : Nat} : ((7 : Int32) * nI s + 3) = nI (7 * s + 3) := (congrArg (· + nI 3) (pk_mul 7 s)).trans (nI_add _ _)
theorem zu_74 {s : Nat} : ((7 : Int32) * nI s + 4) = nI (7 * s + 4) := (congrArg (· + nI 4) (pk_mul 7 s)).trans (nI_add _ _)
theorem zu_75 {s : Nat} : ((7 : Int32) * nI s + 5) = nI (7 * s + 5) := (congrArg (· + nI 5) (pk_mul 7 s)).trans (nI_add _ _)
theorem zu_76 {s : Nat} : ((7 : Int32) * nI s + 6) = nI (7 * s + 6) := (congrArg (· + nI 6) (pk_mul 7 s)).trans (nI_add _ _)
theorem zu_gi {K s : Nat} (h : s < K) (hK : K < 2 ^ 31) : (nI s < 0 ∨ K ≤ (nI s).toNatClampNeg) = False := eq_false (nI_in h hK)
theorem zu_lt0 {s : Nat} (h : s < 2 ^ 31) : (nI s < 0) = False := eq_false (nI_pos h)
theorem zu_f0 {I : Nat → Nat → Int32} {s : Nat} (hs : s < 12) : zv_X12_field I (nI s) 0 = I 54 (7 * s + 0) := by
  unfold zv_X12_field
  rw [show ((7 : Int32) * nI s + 0) = nI (7 * s + 0) from (congrArg (· + nI 0) (pk_mul 7 s)).trans (nI_add _ _), nI_clamp (by omega)]
theorem zu_g0 {s : Nat} (hs : s < 12) : (((7 : Int32) * nI s + 0) < 0 ∨ 84 ≤ ((7 : Int32) * nI s + 0).toNatClampNeg) = False := by
  rw [show ((7 : Int32) * nI s + 0) = nI (7 * s + 0) from (congrArg (· + nI 0) (pk_mul 7 s)).trans (nI_add _ _)]
  exact zu_gi (by omega) (by omega)
theorem zu_cf0 {I : Nat → Nat → Int32} {s : Nat} (hs : s < 12) : zz_f I (nI s) 0 = I 6 (7 * s + 0) := by
  unfold zz_f zz_at
  rw [show (nI s * (7 : Int32) + 0) = nI (s * 7 + 0) from (congrArg (· + nI 0) (pk_mul s 7)).trans (nI_add _ _), if_neg (nI_pos (by omega)), if_neg (nI_ge (by omega) (by omega)), nI_clamp (by omega), Nat.mul_comm s 7]
theorem zu_f1 {I : Nat → Nat → Int32} {s : Nat} (hs : s < 12) : zv_X12_field I (nI s) 1 = I 54 (7 * s + 1) := by
  unfold zv_X12_field
  rw [show ((7 : Int32) * nI s + 1) = nI (7 * s + 1) from (congrArg (· + nI 1) (pk_mul 7 s)).trans (nI_add _ _), nI_clamp (by omega)]
theorem zu_g1 {s : Nat} (hs : s < 12) : (((7 : Int32) * nI s + 1) < 0 ∨ 84 ≤ ((7 : Int32) * nI s + 1).toNatClampNeg) = False := by
  rw [show ((7 : Int32) * nI s + 1) = nI (7 * s + 1) from (congrArg (· + nI 1) (pk_mul 7 s)).trans (nI_add _ _)]
  exact zu_gi (by omega) (by omega)
theorem zu_cf1 {I : Nat → Nat → Int32} {s : Nat} (hs : s < 12) : zz_f I (nI s) 1 = I 6 (7 * s + 1) := by
  unfold zz_f zz_at
  rw [show (nI s * (7 : Int32) + 1) = nI (s * 7 + 1) from (congrArg (· + nI 1) (pk_mul s 7)).trans (nI_add _ _), if_neg (nI_pos (by omega)), if_neg (nI_ge (by omega) (by omega)), nI_clamp (by omega), Nat.mul_comm s 7]
theorem zu_f2 {I : Nat → Nat → Int32} {s : Nat} (hs : s < 12) : zv_X12_field I (nI s) 2 = I 54 (7 * s + 2) := by
  unfold zv_X12_field
  rw [show ((7 : Int32) * nI s + 2) = nI (7 * s + 2) from (congrArg (· + nI 2) (pk_mul 7 s)).trans (nI_add _ _), nI_clamp (by omega)]
theorem zu_g2 {s : Nat} (hs : s < 12) : (((7 : Int32) * nI s + 2) < 0 ∨ 84 ≤ ((7 : Int32) * nI s + 2).toNatClampNeg) = False := by
  rw [show ((7 : Int32) * nI s + 2) = nI (7 * s + 2) from (congrArg (· + nI 2) (pk_mul 7 s)).trans (nI_add _ _)]
  exact zu_gi (by omega) (by omega)
theorem zu_cf2 {I : Nat → Nat → Int32} {s : Nat} (hs : s < 12) : zz_f I (nI s) 2 = I 6 (7 * s + 2) := by
  unfold zz_f zz_at
  rw [show (nI s * (7 : Int32) + 2) = nI (s * 7 + 2) from (congrArg (· + nI 2) (pk_mul s 7)).trans (nI_add _ _), if_neg (nI_pos (by omega)), if_neg (nI_ge (by omega) (by omega)), nI_clamp (by omega), Nat.mul_comm s 7]
theorem zu_f3 {I : Nat → Nat → Int32} {s : Nat} (hs : s < 12) : zv_X12_field I (nI s) 3 = I 54 (7 * s + 3) := by
  unfold zv_X12_field
  rw [show ((7 : Int32) * nI s + 3) = nI (7 * s + 3) from (congrArg (· + nI 3) (pk_mul 7 s)).trans (nI_add _ _), nI_clamp (by omega)]
theorem zu_g3 {s : Nat} (hs : s < 12) : (((7 : Int32) * nI s + 3) < 0 ∨ 84 ≤ ((7 : Int32) * nI s + 3).toNatClampNeg) = False := by
  rw [show ((7 : Int32) * nI s + 3) = nI (7 * s + 3) from (congrArg (· + nI 3) (pk_mul 7 s)).trans (nI_add _ _)]
  exact zu_gi (by omega) (by omega)
theorem zu_cf3 {I : Nat → Nat → Int32} {s : Nat} (hs : s < 12) : zz_f I (nI s) 3 = I 6 (7 * s + 3) := by
  unfold zz_f zz_at
  rw [show (nI s * (7 : Int32) + 3) = nI (s * 7 + 3) from (congrArg (· + nI 3) (pk_mul s 7)).trans (nI_add _ _), if_neg (nI_pos (by omega)), if_neg (nI_ge (by omega) (by omega)), nI_clamp (by omega), Nat.mul_comm s 7]
theorem zu_f4 {I : Nat → Nat → Int32} {s : Nat} (hs : s < 12) : zv_X12_field I (nI s) 4 = I 54 (7 * s + 4) := by
  unfold zv_X12_field
  rw [show ((7 : Int32) * nI s + 4) = nI (7 * s + 4) from (congrArg (· + nI 4) (pk_mul 7 s)).trans (nI_add _ _), nI_clamp (by omega)]
theorem zu_g4 {s : Nat} (hs : s < 12) : (((7 : Int32) * nI s + 4) < 0 ∨ 84 ≤ ((7 : Int32) * nI s + 4).toNatClampNeg) = False := by
  rw [show ((7 : Int32) * nI s + 4) = nI (7 * s + 4) from (congrArg (· + nI 4) (pk_mul 7 s)).trans (nI_add _ _)]
  exact zu_gi (by omega) (by omega)
theorem zu_cf4 {I : Nat → Nat → Int32} {s : Nat} (hs : s < 12) : zz_f I (nI s) 4 = I 6 (7 * s + 4) := by
  unfold zz_f zz_at
  rw [show (nI s * (7 : Int32) + 4) = nI (s * 7 + 4) from (congrArg (· + nI 4) (pk_mul s 7)).trans (nI_add _ _), if_neg (nI_pos (by omega)), if_neg (nI_ge (by omega) (by omega)), nI_clamp (by omega), Nat.mul_comm s 7]
theorem zu_f5 {I : Nat → Nat → Int32} {s : Nat} (hs : s < 12) : zv_X12_field I (nI s) 5 = I 54 (7 * s + 5) := by
  unfold zv_X12_field
  rw [show ((7 : Int32) * nI s + 5) = nI (7 * s + 5) from (congrArg (· + nI 5) (pk_mul 7 s)).trans (nI_add _ _), nI_clamp (by omega)]
theorem zu_g5 {s : Nat} (hs : s < 12) : (((7 : Int32) * nI s + 5) < 0 ∨ 84 ≤ ((7 : Int32) * nI s + 5).toNatClampNeg) = False := by
  rw [show ((7 : Int32) * nI s + 5) = nI (7 * s + 5) from (congrArg (· + nI 5) (pk_mul 7 s)).trans (nI_add _ _)]
  exact zu_gi (by omega) (by omega)
theorem zu_cf5 {I : Nat → Nat → Int32} {s : Nat} (hs : s < 12) : zz_f I (nI s) 5 = I 6 (7 * s + 5) := by
  unfold zz_f zz_at
  rw [show (nI s * (7 : Int32) + 5) = nI (s * 7 + 5) from (congrArg (· + nI 5) (pk_mul s 7)).trans (nI_add _ _), if_neg (nI_pos (by omega)), if_neg (nI_ge (by omega) (by omega)), nI_clamp (by omega), Nat.mul_comm s 7]
theorem zu_f6 {I : Nat → Nat → Int32} {s : Nat} (hs : s < 12) : zv_X12_field I (nI s) 6 = I 54 (7 * s + 6) := by
  unfold zv_X12_field
  rw [show ((7 : Int32) * nI s + 6) = nI (7 * s + 6) from (congrArg (· + nI 6) (pk_mul 7 s)).trans (nI_add _ _), nI_clamp (by omega)]
theorem zu_g6 {s : Nat} (hs : s < 12) : (((7 : Int32) * nI s + 6) < 0 ∨ 84 ≤ ((7 : Int32) * nI s + 6).toNatClampNeg) = False := by
  rw [show ((7 : Int32) * nI s + 6) = nI (7 * s + 6) from (congrArg (· + nI 6) (pk_mul 7 s)).trans (nI_add _ _)]
  exact zu_gi (by omega) (by omega)
theorem zu_cf6 {I : Nat → Nat → Int32} {s : Nat} (hs : s < 12) : zz_f I (nI s) 6 = I 6 (7 * s + 6) := by
  unfold zz_f zz_at
  rw [show (nI s * (7 : Int32) + 6) = nI (s * 7 + 6) from (congrArg (· + nI 6) (pk_mul s 7)).trans (nI_add _ _), if_neg (nI_pos (by omega)), if_neg (nI_ge (by omega) (by omega)), nI_clamp (by omega), Nat.mul_comm s 7]
theorem zu_play {I : Nat → Nat → Int32} {s : Nat} (hs : s < 12) : zv_X12_playOf I (nI s) = I 54 (7 * s) := by
  unfold zv_X12_playOf
  rw [zu_f0 hs]
  rfl
theorem zu_fw {I : Nat → Nat → Int32} {s w : Nat} (hs : s < 12) (hw : w < 7) : zv_X12_field I (nI s) (nI w) = I 54 (7 * s + w) := by
  unfold zv_X12_field
  rw [show ((7 : Int32) * nI s + nI w) = nI (7 * s + w) from (congrArg (· + nI w) (pk_mul 7 s)).trans (nI_add _ _), nI_clamp (by omega)]
theorem zu_cfw {I : Nat → Nat → Int32} {s w : Nat} (hs : s < 12) (hw : w < 7) : zz_f I (nI s) (nI w) = I 6 (7 * s + w) := by
  unfold zz_f zz_at
  rw [show (nI s * (7 : Int32) + nI w) = nI (s * 7 + w) from (congrArg (· + nI w) (pk_mul s 7)).trans (nI_add _ _), if_neg (nI_pos (by omega)), if_neg (nI_ge (by omega) (by omega)), nI_clamp (by omega), Nat.mul_comm s 7]
