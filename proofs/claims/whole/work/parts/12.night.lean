/-! NIGHT, PAST -/
/-- one night laid over another -/
def zz_cpn (I : Nat → Nat → Int32) (a b : Nat) : Nat → Nat → Int32 := fun x i => if x = a ∧ i < 9 then I b i else I x i
theorem zr_copyFrom (F : zz_F) (I : Nat → Nat → Int32) (J : Nat → Nat → Int64) (d : Nat) (a b : Nat) (ha : zz_XK F.2.2.1 a = 5) (hb : zz_XK F.2.2.1 b = 5) : zz_run (d) 78 0 [some (.ref (a)), some (.ref (b))] [] (zz_S F I J) none (zz_S F (zz_cpn I a b) (J)) := by
  refine zz_step rfl ?_
  repeat' first | refine And.intro rfl ?_ | refine And.intro ha ?_ | refine And.intro hb ?_ | refine And.intro (And.intro rfl rfl) ?_
  refine congrArg (fun m => zz_S F m J) ?_
  funext x i
  simp only [zz_cpn, zz_u, zz_I, zz_pI, zz_S]
  by_cases hx : x = a
  · subst hx
    match i with
    | 0 => by_cases hba : b = x <;> simp [hba]
    | 1 => by_cases hba : b = x <;> simp [hba]
    | 2 => by_cases hba : b = x <;> simp [hba]
    | 3 => by_cases hba : b = x <;> simp [hba]
    | 4 => by_cases hba : b = x <;> simp [hba]
    | 5 => by_cases hba : b = x <;> simp [hba]
    | 6 => by_cases hba : b = x <;> simp [hba]
    | 7 => by_cases hba : b = x <;> simp [hba]
    | 8 => by_cases hba : b = x <;> simp [hba]
    | i + 9 =>
      have h9 : ¬ i + 9 < 9 := by omega
      simp [h9]
  · simp [hx]
def zz_kn (I : Nat → Nat → Int32) (p : Int32) : Int32 := if ¬ p = 0 then I 8 6 else I 8 5
theorem zr_knownIn (F : zz_F) (I : Nat → Nat → Int32) (J : Nat → Nat → Int64) (d : Nat) (p : Int32) : zz_run (d) 79 0 [some (.ref 8), some (.int (p))] [] (zz_S F I J) (some (.int (zz_kn I p))) (zz_S F (I) (J)) := by
  unfold zz_kn
  refine zz_step rfl ?_
  repeat' first | refine And.intro rfl ?_ | refine And.intro (Or.inl rfl) ?_ | refine And.intro (Or.inr rfl) ?_ | refine And.intro (Nat.le_of_ble_eq_true rfl) ?_ | refine And.intro (And.intro rfl rfl) ?_ | exact rfl
  refine And.intro (fun (h : ¬ p = 0) => ?_) (fun (h : ¬ (¬ p = 0)) => ?_)
  · rw [if_pos h]
    refine zz_step rfl ?_
    repeat' first | refine And.intro rfl ?_ | refine And.intro (Or.inl rfl) ?_ | refine And.intro (Or.inr rfl) ?_ | refine And.intro (Nat.le_of_ble_eq_true rfl) ?_ | refine And.intro (And.intro rfl rfl) ?_ | exact rfl | refine zz_step rfl ?_
  · rw [if_neg h]
    repeat' first | refine And.intro rfl ?_ | refine And.intro (Or.inl rfl) ?_ | refine And.intro (Or.inr rfl) ?_ | refine And.intro (Nat.le_of_ble_eq_true rfl) ?_ | refine And.intro (And.intro rfl rfl) ?_ | exact rfl | refine zz_step rfl ?_
theorem zr_cheersIn (F : zz_F) (I : Nat → Nat → Int32) (J : Nat → Nat → Int64) (d : Nat) (p : Int32) : zz_run (d) 80 0 [some (.ref 8), some (.int (p))] [] (zz_S F I J) (some (.int (if ¬ p = 0 then I 8 8 else I 8 7))) (zz_S F (I) (J)) := by
  refine zz_step rfl ?_
  repeat' first | refine And.intro rfl ?_ | refine And.intro (Or.inl rfl) ?_ | refine And.intro (Or.inr rfl) ?_ | refine And.intro (Nat.le_of_ble_eq_true rfl) ?_ | refine And.intro (And.intro rfl rfl) ?_ | exact rfl
  refine And.intro (fun (h : ¬ p = 0) => ?_) (fun (h : ¬ (¬ p = 0)) => ?_)
  · rw [if_pos h]
    refine zz_step rfl ?_
    repeat' first | refine And.intro rfl ?_ | refine And.intro (Or.inl rfl) ?_ | refine And.intro (Or.inr rfl) ?_ | refine And.intro (Nat.le_of_ble_eq_true rfl) ?_ | refine And.intro (And.intro rfl rfl) ?_ | exact rfl | refine zz_step rfl ?_
  · rw [if_neg h]
    repeat' first | refine And.intro rfl ?_ | refine And.intro (Or.inl rfl) ?_ | refine And.intro (Or.inr rfl) ?_ | refine And.intro (Nat.le_of_ble_eq_true rfl) ?_ | refine And.intro (And.intro rfl rfl) ?_ | exact rfl | refine zz_step rfl ?_
theorem zr_stateOf (F : zz_F) (I : Nat → Nat → Int32) (J : Nat → Nat → Int64) (d : Nat) (s : Int32) : zz_run (d) 81 0 [some (.ref 8), some (.int (s)), none] [] (zz_S F I J) (some (.int (if I 8 3 &&& (1 <<< (s &&& 31)) = 0 then (if I 8 4 &&& (1 <<< (s &&& 31)) = 0 then 0 else 2) else 1))) (zz_S F (I) (J)) := by
  refine zz_step rfl ?_
  repeat' first | refine And.intro rfl ?_ | refine And.intro (Or.inl rfl) ?_ | refine And.intro (Or.inr rfl) ?_ | refine And.intro (Nat.le_of_ble_eq_true rfl) ?_ | refine And.intro (And.intro rfl rfl) ?_ | exact rfl
  refine And.intro (fun (h : I 8 3 &&& (1 <<< (s &&& 31)) = 0) => ?_) (fun (h : ¬ (I 8 3 &&& (1 <<< (s &&& 31)) = 0)) => ?_)
  · rw [if_pos h]
    refine zz_step rfl ?_
    repeat' first | refine And.intro rfl ?_ | refine And.intro (Or.inl rfl) ?_ | refine And.intro (Or.inr rfl) ?_ | refine And.intro (Nat.le_of_ble_eq_true rfl) ?_ | refine And.intro (And.intro rfl rfl) ?_ | exact rfl
    refine And.intro (fun (h2 : I 8 4 &&& (1 <<< (s &&& 31)) = 0) => ?_) (fun (h2 : ¬ (I 8 4 &&& (1 <<< (s &&& 31)) = 0)) => ?_)
    · rw [if_pos h2]
      refine zz_step rfl ?_
      repeat' first | refine And.intro rfl ?_ | refine And.intro (Or.inl rfl) ?_ | refine And.intro (Or.inr rfl) ?_ | refine And.intro (Nat.le_of_ble_eq_true rfl) ?_ | refine And.intro (And.intro rfl rfl) ?_ | exact rfl | refine zz_step rfl ?_
    · rw [if_neg h2]
      repeat' first | refine And.intro rfl ?_ | refine And.intro (Or.inl rfl) ?_ | refine And.intro (Or.inr rfl) ?_ | refine And.intro (Nat.le_of_ble_eq_true rfl) ?_ | refine And.intro (And.intro rfl rfl) ?_ | exact rfl | refine zz_step rfl ?_
  · rw [if_neg h]
    repeat' first | refine And.intro rfl ?_ | refine And.intro (Or.inl rfl) ?_ | refine And.intro (Or.inr rfl) ?_ | refine And.intro (Nat.le_of_ble_eq_true rfl) ?_ | refine And.intro (And.intro rfl rfl) ?_ | exact rfl | refine zz_step rfl ?_
def zz_dropm (I : Nat → Nat → Int32) (s : Int32) : Nat → Nat → Int32 := zz_u (zz_u I 8 2 (I 8 2 &&& ((1 <<< (s &&& 31)) ^^^ (-1)))) 8 4 (I 8 4 ||| (1 <<< (s &&& 31)))
theorem zr_drop (F : zz_F) (I : Nat → Nat → Int32) (J : Nat → Nat → Int64) (d : Nat) (s : Int32) : zz_run (d) 82 0 [some (.ref 8), some (.int (s)), none] [] (zz_S F I J) none (zz_S F (zz_dropm I s) (J)) := by
  refine zz_step rfl ?_
  repeat' first | refine And.intro rfl ?_ | refine And.intro (Or.inl rfl) ?_ | refine And.intro (Or.inr rfl) ?_ | refine And.intro (Nat.le_of_ble_eq_true rfl) ?_ | refine And.intro (And.intro rfl rfl) ?_ | exact rfl | refine zz_step rfl ?_
def zz_backm (I : Nat → Nat → Int32) (s : Int32) : Nat → Nat → Int32 := zz_u (zz_u I 8 4 (I 8 4 &&& ((1 <<< (s &&& 31)) ^^^ (-1)))) 8 2 (I 8 2 ||| (1 <<< (s &&& 31)))
theorem zr_takeBack (F : zz_F) (I : Nat → Nat → Int32) (J : Nat → Nat → Int64) (d : Nat) (s : Int32) : zz_run (d) 83 0 [some (.ref 8), some (.int (s)), none] [] (zz_S F I J) none (zz_S F (zz_backm I s) (J)) := by
  refine zz_step rfl ?_
  repeat' first | refine And.intro rfl ?_ | refine And.intro (Or.inl rfl) ?_ | refine And.intro (Or.inr rfl) ?_ | refine And.intro (Nat.le_of_ble_eq_true rfl) ?_ | refine And.intro (And.intro rfl rfl) ?_ | exact rfl | refine zz_step rfl ?_
/-- a scene is played, behind a change of so many minutes -/
def zz_perfm (I : Nat → Nat → Int32) (s ch : Int32) : Nat → Nat → Int32 :=
  let I1 := zz_u (zz_u (zz_u (zz_u I 8 0 (I 8 0 + (ch + zz_f I s 1))) 8 1 s) 8 2 (I 8 2 &&& ((1 <<< (s &&& 31)) ^^^ (-1)))) 8 3 (I 8 3 ||| (1 <<< (s &&& 31)))
  if ¬ zz_f I s 0 = 0 then zz_u (zz_u I1 8 8 (I 8 8 + zz_cheer I s (zz_kn I (zz_f I s 0)))) 8 6 (I 8 6 ||| zz_fact I s)
  else zz_u (zz_u I1 8 7 (I 8 7 + zz_cheer I s (zz_kn I (zz_f I s 0)))) 8 5 (I 8 5 ||| zz_fact I s)
def zz_perfv (I : Nat → Nat → Int32) (s ch : Int32) : Int32 := zz_cheer I s (zz_kn I (zz_f I s 0))
theorem zr_perform (F : zz_F) (I : Nat → Nat → Int32) (J : Nat → Nat → Int64) (d : Nat) (s ch : Int32) : zz_run (d+3) 84 0 [some (.ref 8), some (.ref 5), some (.int (s)), some (.int (ch)), none, none, none] [] (zz_S F I J) (some (.int (zz_perfv I s ch))) (zz_S F (zz_perfm I s ch) (J)) := by
  unfold zz_perfm zz_perfv
  refine zz_step rfl ?_
  repeat' first | refine And.intro rfl ?_ | refine And.intro (Or.inl rfl) ?_ | refine And.intro (Or.inr rfl) ?_ | refine And.intro (Nat.le_of_ble_eq_true rfl) ?_ | refine And.intro (And.intro rfl rfl) ?_ | exact rfl
  refine Exists.intro _ (Exists.intro _ (And.intro (zr_of F I J (d+2) s 0) ?_))
  repeat' first | refine And.intro rfl ?_ | refine And.intro (Or.inl rfl) ?_ | refine And.intro (Or.inr rfl) ?_ | refine And.intro (Nat.le_of_ble_eq_true rfl) ?_ | refine And.intro (And.intro rfl rfl) ?_ | exact rfl
  refine Exists.intro _ (Exists.intro _ (And.intro (zr_knownIn F I J (d+2) (zz_f I s 0)) ?_))
  repeat' first | refine And.intro rfl ?_ | refine And.intro (Or.inl rfl) ?_ | refine And.intro (Or.inr rfl) ?_ | refine And.intro (Nat.le_of_ble_eq_true rfl) ?_ | refine And.intro (And.intro rfl rfl) ?_ | exact rfl
  refine Exists.intro _ (Exists.intro _ (And.intro (zr_cheerWith F I J d s (zz_kn I (zz_f I s 0))) ?_))
  repeat' first | refine And.intro rfl ?_ | refine And.intro (Or.inl rfl) ?_ | refine And.intro (Or.inr rfl) ?_ | refine And.intro (Nat.le_of_ble_eq_true rfl) ?_ | refine And.intro (And.intro rfl rfl) ?_ | exact rfl
  refine Exists.intro _ (Exists.intro _ (And.intro (zr_of F I J (d+2) s 1) ?_))
  repeat' first | refine And.intro rfl ?_ | refine And.intro (Or.inl rfl) ?_ | refine And.intro (Or.inr rfl) ?_ | refine And.intro (Nat.le_of_ble_eq_true rfl) ?_ | refine And.intro (And.intro rfl rfl) ?_ | exact rfl
  refine And.intro (fun (h : ¬ zz_f I s 0 = 0) => ?_) (fun (h : ¬ (¬ zz_f I s 0 = 0)) => ?_)
  · rw [if_pos h]
    refine zz_step rfl ?_
    repeat' first | refine And.intro rfl ?_ | refine And.intro (Or.inl rfl) ?_ | refine And.intro (Or.inr rfl) ?_ | refine And.intro (Nat.le_of_ble_eq_true rfl) ?_ | refine And.intro (And.intro rfl rfl) ?_ | exact rfl
    refine Exists.intro _ (Exists.intro _ (And.intro (zr_factOf F _ J (d+1) s) ?_))
    repeat' first | refine And.intro rfl ?_ | refine And.intro (Or.inl rfl) ?_ | refine And.intro (Or.inr rfl) ?_ | refine And.intro (Nat.le_of_ble_eq_true rfl) ?_ | refine And.intro (And.intro rfl rfl) ?_ | exact rfl
    refine zz_step rfl ?_
    repeat' first | refine And.intro rfl ?_ | refine And.intro (Or.inl rfl) ?_ | refine And.intro (Or.inr rfl) ?_ | refine And.intro (Nat.le_of_ble_eq_true rfl) ?_ | refine And.intro (And.intro rfl rfl) ?_ | exact rfl | refine zz_step rfl ?_
  · rw [if_neg h]
    repeat' first | refine And.intro rfl ?_ | refine And.intro (Or.inl rfl) ?_ | refine And.intro (Or.inr rfl) ?_ | refine And.intro (Nat.le_of_ble_eq_true rfl) ?_ | refine And.intro (And.intro rfl rfl) ?_ | exact rfl
    refine Exists.intro _ (Exists.intro _ (And.intro (zr_factOf F _ J (d+1) s) ?_))
    repeat' first | refine And.intro rfl ?_ | refine And.intro (Or.inl rfl) ?_ | refine And.intro (Or.inr rfl) ?_ | refine And.intro (Nat.le_of_ble_eq_true rfl) ?_ | refine And.intro (And.intro rfl rfl) ?_ | exact rfl
    repeat' first | refine And.intro rfl ?_ | refine And.intro (Or.inl rfl) ?_ | refine And.intro (Or.inr rfl) ?_ | refine And.intro (Nat.le_of_ble_eq_true rfl) ?_ | refine And.intro (And.intro rfl rfl) ?_ | exact rfl | refine zz_step rfl ?_
