/-! for the loops -/
def zz_msk (m : List Bool) (lv : zz_Lv) : zz_Lv := List.zipWith (fun b o => if b = true then o else none) m lv
/-- locals that are no longer needed are forgotten -/
theorem zz_wk {d j pc : Nat} {lv lv' : zz_Lv} {st : List Value} {S : zz_P} {o : Option Value} {S' : zz_P} (m : List Bool) (h : zz_msk m lv = lv') (hr : zz_run d j pc lv' st S o S') : zz_run d j pc lv st S o S' := by
  subst h
  refine zz_weak (fun n v hv => ?_) hr
  unfold zz_msk at hv
  rw [List.getElem?_zipWith] at hv
  cases hm : m[n]? with
  | none => rw [hm] at hv; cases hv
  | some b =>
    cases hl : lv[n]? with
    | none => rw [hm, hl] at hv; cases hv
    | some o =>
      rw [hm, hl] at hv
      cases b with
      | false => simp at hv
      | true => simpa using hv
theorem zz_sw {d j t t' : Nat} {lv : zz_Lv} {st : List Value} {S : zz_P} {o : Option Value} {S' : zz_P} (h : t = t') (hr : zz_run d j t' lv st S o S') : zz_run d j t lv st S o S' := h ▸ hr
theorem zz_toI {x v : Int32} {k : Int} (h : x.toInt = k) (hv : v.toInt = k) : x = v := Int32.toInt_inj.mp (h.trans hv.symm)
theorem zz_g {P : Prop} [Decidable P] {α : Type} {x : Option α} {r : α} (h : (if P then x else none) = some r) : P := by
  by_cases p : P
  · exact p
  · rw [if_neg p] at h; cases h
theorem zz_gt {P : Prop} [Decidable P] {α : Type} {x : Option α} {r : α} (h : (if P then x else none) = some r) : x = some r := by
  by_cases p : P
  · rw [if_pos p] at h; exact h
  · rw [if_neg p] at h; cases h
theorem zz_no {α : Type} {r : α} {P : Prop} (h : (none : Option α) = some r) : P := by cases h
