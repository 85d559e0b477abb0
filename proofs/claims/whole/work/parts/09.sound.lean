section SNX
variable {p : Program} {l : Launch} {e : Env} {s : State} {m : MethodId} {args : Array Value} {below : List Frame} {meth : Method} {c : Code} {E : zz_E} {d j : Nat} {o : Option Value} {S0 S' : zz_P}
theorem zz_fvI {S : zz_P} {a k b : Nat} {x : Int32} (h : zz_ref k b = false) (i : Nat) : zz_fv (zz_pI S a b x) a k i = if i = b then .int x else zz_fv S a k i := by
  have e : zz_I (zz_pI S a b x) a i = if i = b then x else zz_I S a i := by
    show zz_u S.2.2.2.2.1 a b x a i = _
    simp [zz_u, zz_I]
  have e2 : zz_R (zz_pI S a b x) a i = zz_R S a i := rfl
  unfold zz_fv
  rw [e, e2]
  by_cases hi : i = b
  · subst hi; simp [h]
  · simp [hi]
theorem zz_fvR {S : zz_P} {a k b : Nat} {x : Nat} (h : zz_ref k b = true) (i : Nat) : zz_fv (zz_pR S a b (some x)) a k i = if i = b then .ref x else zz_fv S a k i := by
  have e : zz_R (zz_pR S a b (some x)) a i = if i = b then some x else zz_R S a i := by
    show zz_u S.2.2.2.2.2.1 a b (some x) a i = _
    simp [zz_u, zz_R]
  have e2 : zz_I (zz_pR S a b (some x)) a i = zz_I S a i := rfl
  unfold zz_fv
  rw [e, e2]
  by_cases hi : i = b
  · subst hi; simp [h, zz_rv]
  · simp [hi]
theorem zz_elI {S : zz_P} {a k b : Nat} {x : Int32} (h1 : k ≠ 15) (h2 : k ≠ 17) (i : Nat) : zz_el (zz_pI S a b x) a k i = if i = b then .int x else zz_el S a k i := by
  have e : zz_I (zz_pI S a b x) a i = if i = b then x else zz_I S a i := by
    show zz_u S.2.2.2.2.1 a b x a i = _
    simp [zz_u, zz_I]
  unfold zz_el
  rw [e]
  by_cases hi : i = b
  · subst hi; simp [h1, h2]
  · simp [hi, h1, h2]
theorem zz_elJ {S : zz_P} {a b : Nat} {x : Int64} (i : Nat) : zz_el (zz_pJ S a b x) a 15 i = if i = b then .long x else zz_el S a 15 i := by
  have e : zz_J (zz_pJ S a b x) a i = if i = b then x else zz_J S a i := by
    show zz_u S.2.2.2.2.2.2 a b x a i = _
    simp [zz_u, zz_J]
  unfold zz_el
  rw [e]
  by_cases hi : i = b
  · subst hi; simp
  · simp [hi]
theorem zz_elR {S : zz_P} {a b : Nat} {x : Nat} (i : Nat) : zz_el (zz_pR S a b (some x)) a 17 i = if i = b then .ref x else zz_el S a 17 i := by
  have e : zz_R (zz_pR S a b (some x)) a i = if i = b then some x else zz_R S a i := by
    show zz_u S.2.2.2.2.2.1 a b (some x) a i = _
    simp [zz_u, zz_R]
  unfold zz_el
  rw [e]
  by_cases hi : i = b
  · subst hi; simp [zz_rv]
  · simp [hi]
theorem zz_nI' (S : zz_P) (a b : Nat) (x : Int32) (b' i : Nat) (h : b' ≠ a) : zz_I (zz_pI S a b x) b' i = zz_I S b' i := by
  show zz_u S.2.2.2.2.1 a b x b' i = _
  simp [zz_u, h, zz_I]
theorem zz_nR' (S : zz_P) (a b : Nat) (x : Option Nat) (b' i : Nat) (h : b' ≠ a) : zz_R (zz_pR S a b x) b' i = zz_R S b' i := by
  show zz_u S.2.2.2.2.2.1 a b x b' i = _
  simp [zz_u, h, zz_R]
theorem zz_nJ' (S : zz_P) (a b : Nat) (x : Int64) (b' i : Nat) (h : b' ≠ a) : zz_J (zz_pJ S a b x) b' i = zz_J S b' i := by
  show zz_u S.2.2.2.2.2.2 a b x b' i = _
  simp [zz_u, h, zz_J]
theorem zz_ref_ty {k b : Nat} (hk : k < 12) (hb : b < zz_N k) (h : zz_ref k b = true) (x : Nat) : narrow (zz_y k b) (.ref x) = .ref x ∧ fits (zz_y k b) (.ref x) = true := by
  rw [zz_ref_eq k hk b hb] at h
  cases hy : zz_y k b <;> rw [hy] at h <;> first | exact ⟨rfl, rfl⟩ | cases h
theorem zz_okF_k {hs : List Nat} {own : String} {x a b cc : Nat} (h : zz_okF hs own x a b cc = true) : a < 12 ∧ b < zz_N a := by
  unfold zz_okF at h
  split at h
  · next q hq =>
    rw [Bool.and_eq_true] at h
    exact ⟨(List.getElem?_eq_some_iff.mp hq).1, by rw [← zz_clN a q hq]; exact of_decide_eq_true h.1⟩
  · cases h
theorem zz_dflt : ∀ k, k < 12 → ∀ i, i < zz_N k → (zz_y k i).isReference = true ∧ defaultValue (zz_y k i) = .null ∨ (zz_y k i).isReference = false ∧ defaultValue (zz_y k i) = .int 0 := by decide +kernel
/-- what a new object's fields hold -/
theorem zz_new_ob {k : Nat} (hk : k < 12) (S : zz_P) (n i : Nat) (hi : i < zz_N k) : defaultValue (zz_y k i) = zz_cv E (zz_fv (zz_new S k n) (zz_n S + 2) k i) := by
  unfold zz_fv
  rw [zz_newI, zz_newR, zz_ref_eq k hk i hi]
  rcases zz_dflt k hk i hi with ⟨a1, a2⟩ | ⟨a1, a2⟩
  · rw [a1, a2]; rfl
  · rw [a1, a2]; rfl
/-- arrays' classes: what the tables say of one and of the other are the same class -/
theorem zz_cyI (hst : zz_stc E s) {i : Nat} {k : Nat} {ty : FieldType} (hi : (zz_tys E.2.1)[i]? = some (E.2.1 k, ty)) {cA : ClassId} (h : s.vm.findClass ("[" ++ ty.toString) = some cA) : cA = E.2.1 k := by
  have h2 := (hst.1.2 i _ hi).2
  have h3 : s.vm.findClass ("[" ++ ty.toString) = some (E.2.1 k) := by
    unfold va_RA at h2
    cases ty <;> first | exact h2 | (obtain ⟨_, _, _, _, _, h4⟩ := h2; exact h4)
  exact Option.some.inj (h.symm.trans h3)
/-- Math's own two, in words: what their runs say -/
def zz_mx (g : Int32 → Int32 → Int32) (pc : Nat) (lv : zz_Lv) (st : List Value) (S : zz_P) (o : Option Value) (S' : zz_P) : Prop := zz_mn S S' ∧ (pc = 0 → ∃ x y, lv.getD 0 none = some (.int x) ∧ lv.getD 1 none = some (.int y) ∧ (st = [] → o = some (.int (g x y)) ∧ S' = S)) ∧ (pc = 9 → ∃ y, lv.getD 1 none = some (.int y) ∧ (st = [] → o = some (.int y) ∧ S' = S)) ∧ (pc = 10 → ∃ v, st = [.int v] ∧ o = some (.int v) ∧ S' = S)
def zz_mx9 (x y : Int32) : Int32 := if x < y then y else x
def zz_mx10 (x y : Int32) : Int32 := if y < x then y else x
/-- sound, and Math's two in words -/
def zz_Q (l : Launch) (E : zz_E) : zz_Pr := fun d j pc lv st S o S' => if j = 309 then zz_mx zz_mx9 pc lv st S o S' else if j = 310 then zz_mx zz_mx10 pc lv st S o S' else zz_sim l E d j pc lv st S o S'
theorem zz_Qs (hj : zz_nm j) {pc : Nat} {lv : zz_Lv} {st : List Value} {S : zz_P} (h : zz_Q l E d j pc lv st S o S') : zz_sim l E d j pc lv st S o S' := by
  unfold zz_Q at h
  rw [if_neg hj.1, if_neg hj.2] at h
  exact h
theorem zz_Qo (hj : zz_nm j) {pc : Nat} {lv : zz_Lv} {st : List Value} {S : zz_P} (h : zz_sim l E d j pc lv st S o S') : zz_Q l E d j pc lv st S o S' := by
  unfold zz_Q
  rw [if_neg hj.1, if_neg hj.2]
  exact h
theorem zz_Q9 {pc : Nat} {lv : zz_Lv} {st : List Value} {S : zz_P} (h : zz_Q l E d 309 pc lv st S o S') : zz_mx zz_mx9 pc lv st S o S' := by
  unfold zz_Q at h
  rw [if_pos rfl] at h
  exact h
theorem zz_Q10 {pc : Nat} {lv : zz_Lv} {st : List Value} {S : zz_P} (h : zz_Q l E d 310 pc lv st S o S') : zz_mx zz_mx10 pc lv st S o S' := by
  unfold zz_Q at h
  rw [if_neg (by decide), if_pos rfl] at h
  exact h
theorem zz_Qmn {pc : Nat} {lv : zz_Lv} {st : List Value} {S : zz_P} (h : zz_Q l E d j pc lv st S o S') : zz_mn S S' := by
  unfold zz_Q at h
  split at h
  · exact h.1
  · split at h
    · exact h.1
    · exact h.1
theorem zz_mw1 : Cond.static Lib.Math.max.name ∈ zz_G := by decide +kernel
theorem zz_mw2 : Cond.initialized "java/lang/Math" ∈ zz_G := by decide +kernel
theorem zz_mw3 : Cond.code Lib.Math.max.name Lib.Math.max.code 2 (some .int) ∈ zz_G := by decide +kernel
theorem zz_mw4 : Cond.static Lib.Math.min.name ∈ zz_G := by decide +kernel
theorem zz_mw5 : Cond.code Lib.Math.min.name Lib.Math.min.code 2 (some .int) ∈ zz_G := by decide +kernel
/-- what a call of theirs has on the stack -/
theorem zz_m2 {b : Nat} (hb2 : b = 2) {st : List Value} (hb : b ≤ st.length) {n : Nat} {x y : Int32} (h0 : (zz_ent n (st.take b).reverse).getD 0 none = some (.int x)) (h1 : (zz_ent n (st.take b).reverse).getD 1 none = some (.int y)) : ∃ r, st = .int y :: .int x :: r := by
  subst hb2
  match st, hb with
  | a1 :: a2 :: r, _ =>
    have e2 : a2 = .int x := by
      cases a2 <;> simp [zz_ent, Value.category] at h0 <;> simp_all
    subst e2
    have e1 : a1 = .int y := by
      cases a1 <;> simp [zz_ent, Value.category] at h1 <;> simp_all
    subst e1
    exact ⟨r, rfl⟩
  | [_], h => simp at h
  | [], h => simp at h
theorem zz_x_ok (hall : ∀ j, ∃ hs, zz_okM hs (zz_M j) = true) (hj : zz_nm j) (hf : zz_fx p s m args meth c E j) {q : zz_i} {hs : List Nat} (hok : zz_okI hs (zz_M j) q = true) {k : zz_Lv → List Value → zz_P → Prop}
    (hk : zz_term q.2.1 = false → ∀ lv st S, k lv st S → zz_mn S S' ∧ zz_A p l e s m args below meth c E d j o S0 S' (q.1 + zz_len q.2.1) lv st S)
    {lv : zz_Lv} {st : List Value} {S : zz_P} (h : zz_x (zz_Q l E) d j o S' q k lv st S) : zz_A p l e s m args below meth c E d j o S0 S' q.1 lv st S := by
  obtain ⟨pc, i, a, b, cc⟩ := q
  unfold zz_okI at hok
  rw [Bool.and_eq_true, decide_eq_true_eq] at hok
  obtain ⟨hdec, hok⟩ := hok
  obtain ⟨hx, hb, hr, hml, hown, hG, hlk, hnm, hst⟩ := id hf
  cases i
  case iconst n => intro a1 a2 H locs ls hh hl; exact lv_iconst hx hb hdec rfl ((hk rfl _ _ _ h).2 a1 a2 H locs ls hh hl)
  case bipush n => intro a1 a2 H locs ls hh hl; exact lv_bipush hx hb hdec rfl ((hk rfl _ _ _ h).2 a1 a2 H locs ls hh hl)
  case sipush n => intro a1 a2 H locs ls hh hl; exact lv_sipush hx hb hdec rfl ((hk rfl _ _ _ h).2 a1 a2 H locs ls hh hl)
  case lconst n => intro a1 a2 H locs ls hh hl; exact lv_lconst hx hb hdec rfl ((hk rfl _ _ _ h).2 a1 a2 H locs ls hh hl)
  case ldc n => intro a1 a2 H locs ls hh hl; exact lv_ldc hx hb hown (hG _ (zz_has_ok hok)) hdec ((hk rfl _ _ _ h).2 a1 a2 H locs ls hh hl)
  case ldc_w n => intro a1 a2 H locs ls hh hl; exact lv_ldcw hx hb hown (hG _ (zz_has_ok hok)) hdec ((hk rfl _ _ _ h).2 a1 a2 H locs ls hh hl)
  case ldc2_w n => intro a1 a2 H locs ls hh hl; exact lv_ldc2 hx hb hown (hG _ (zz_has_ok hok)) hdec ((hk rfl _ _ _ h).2 a1 a2 H locs ls hh hl)
  case iload n =>
    obtain ⟨x, hv, h⟩ := zz_ldI_inv h
    intro a1 a2 H locs ls hh hl; exact lv_iload hx hb hdec (zz_lv_get hl hv) ((hk rfl _ _ _ h).2 a1 a2 H locs ls hh hl)
  case iload_n n =>
    obtain ⟨x, hv, h⟩ := zz_ldI_inv h
    intro a1 a2 H locs ls hh hl; exact lv_iload_n hx hb hdec rfl (zz_lv_get hl hv) ((hk rfl _ _ _ h).2 a1 a2 H locs ls hh hl)
  case lload n =>
    obtain ⟨x, hv, h⟩ := zz_ldL_inv h
    intro a1 a2 H locs ls hh hl; exact lv_lload hx hb hdec (zz_lv_get hl hv) ((hk rfl _ _ _ h).2 a1 a2 H locs ls hh hl)
  case lload_n n =>
    obtain ⟨x, hv, h⟩ := zz_ldL_inv h
    intro a1 a2 H locs ls hh hl; exact lv_lload_n hx hb hdec rfl (zz_lv_get hl hv) ((hk rfl _ _ _ h).2 a1 a2 H locs ls hh hl)
  case aload n =>
    obtain ⟨x, hv, h⟩ := zz_ldR_inv h
    intro a1 a2 H locs ls hh hl; exact lv_aload hx hb hdec (zz_lv_get hl hv) ((hk rfl _ _ _ h).2 a1 a2 H locs ls hh hl)
  case aload_n n =>
    obtain ⟨x, hv, h⟩ := zz_ldR_inv h
    intro a1 a2 H locs ls hh hl; exact lv_aload_n hx hb hdec rfl (zz_lv_get hl hv) ((hk rfl _ _ _ h).2 a1 a2 H locs ls hh hl)
  case istore n =>
    obtain ⟨x, r, rfl, h⟩ := zz_i1_inv h
    intro a1 a2 H locs ls hh hl; exact lv_istore hx hb hdec (zz_al_has hl) (of_decide_eq_true hok) rfl (fun ls' hl' => (hk rfl _ _ _ h).2 a1 a2 H locs ls' hh (zz_lv_st (v := .int x) hl hl'))
  case istore_n n =>
    obtain ⟨x, r, rfl, h⟩ := zz_i1_inv h
    intro a1 a2 H locs ls hh hl; exact lv_istore_n hx hb hdec rfl (zz_al_has hl) (of_decide_eq_true hok) rfl (fun ls' hl' => (hk rfl _ _ _ h).2 a1 a2 H locs ls' hh (zz_lv_st (v := .int x) hl hl'))
  case astore n =>
    obtain ⟨x, r, rfl, h⟩ := zz_r1_inv h
    intro a1 a2 H locs ls hh hl; exact lv_astore hx hb hdec (zz_al_has hl) (of_decide_eq_true hok) rfl (fun ls' hl' => (hk rfl _ _ _ h).2 a1 a2 H locs ls' hh (zz_lv_st (v := .ref x) hl hl'))
  case astore_n n =>
    obtain ⟨x, r, rfl, h⟩ := zz_r1_inv h
    intro a1 a2 H locs ls hh hl; exact lv_astore_n hx hb hdec rfl (zz_al_has hl) (of_decide_eq_true hok) rfl (fun ls' hl' => (hk rfl _ _ _ h).2 a1 a2 H locs ls' hh (zz_lv_st (v := .ref x) hl hl'))
  case lstore n =>
    simp only [zz_x] at h
    split at h
    · next x r => intro a1 a2 H locs ls hh hl; exact lv_lstore hx hb hdec (zz_al_has hl) (of_decide_eq_true hok) rfl (fun ls' hl' => (hk rfl _ _ _ h).2 a1 a2 H locs ls' hh (zz_lv_st2 (v := .long x) hl hl'))
    · exact h.elim
  case lstore_n n =>
    simp only [zz_x] at h
    split at h
    · next x r => intro a1 a2 H locs ls hh hl; exact lv_lstore_n hx hb hdec rfl (zz_al_has hl) (of_decide_eq_true hok) rfl (fun ls' hl' => (hk rfl _ _ _ h).2 a1 a2 H locs ls' hh (zz_lv_st2 (v := .long x) hl hl'))
    · exact h.elim
  case iinc n z =>
    obtain ⟨x, hv, h⟩ := zz_ldI_inv h
    intro a1 a2 H locs ls hh hl
    have hlt : n < zz_ml j := of_decide_eq_true hok
    obtain ⟨k9, hk9⟩ := List.mem_iff_getElem?.mp (zz_al_in (E := E) hlt (zz_getD hv))
    exact lv_iinc hx hb hdec (zz_al_has hl) hk9 rfl hlt rfl (fun ls' hl' => (hk rfl _ _ _ h).2 a1 a2 H locs ls' hh (zz_lv_st (v := .int (x + Int32.ofInt z)) hl hl'))
  case iadd =>
    obtain ⟨x, y, r, rfl, h⟩ := zz_ii_inv h
    intro a1 a2 H locs ls hh hl; exact lv_iadd hx hb hdec ((hk rfl _ _ _ h).2 a1 a2 H locs ls hh hl)
  case isub =>
    obtain ⟨x, y, r, rfl, h⟩ := zz_ii_inv h
    intro a1 a2 H locs ls hh hl; exact lv_isub hx hb hdec ((hk rfl _ _ _ h).2 a1 a2 H locs ls hh hl)
  case imul =>
    obtain ⟨x, y, r, rfl, h⟩ := zz_ii_inv h
    intro a1 a2 H locs ls hh hl; exact lv_imul hx hb hdec ((hk rfl _ _ _ h).2 a1 a2 H locs ls hh hl)
  case iand =>
    obtain ⟨x, y, r, rfl, h⟩ := zz_ii_inv h
    intro a1 a2 H locs ls hh hl; exact lv_iand hx hb hdec ((hk rfl _ _ _ h).2 a1 a2 H locs ls hh hl)
  case ior =>
    obtain ⟨x, y, r, rfl, h⟩ := zz_ii_inv h
    intro a1 a2 H locs ls hh hl; exact lv_ior hx hb hdec ((hk rfl _ _ _ h).2 a1 a2 H locs ls hh hl)
  case ixor =>
    obtain ⟨x, y, r, rfl, h⟩ := zz_ii_inv h
    intro a1 a2 H locs ls hh hl; exact lv_ixor hx hb hdec ((hk rfl _ _ _ h).2 a1 a2 H locs ls hh hl)
  case ishl =>
    obtain ⟨x, y, r, rfl, h⟩ := zz_ii_inv h
    intro a1 a2 H locs ls hh hl; exact lv_ishl hx hb hdec ((hk rfl _ _ _ h).2 a1 a2 H locs ls hh hl)
  case ishr =>
    obtain ⟨x, y, r, rfl, h⟩ := zz_ii_inv h
    intro a1 a2 H locs ls hh hl; exact lv_ishr hx hb hdec ((hk rfl _ _ _ h).2 a1 a2 H locs ls hh hl)
  case iushr =>
    obtain ⟨x, y, r, rfl, h⟩ := zz_ii_inv h
    intro a1 a2 H locs ls hh hl; exact lv_iushr hx hb hdec rfl ((hk rfl _ _ _ h).2 a1 a2 H locs ls hh hl)
  case idiv =>
    obtain ⟨x, y, r, rfl, h0, h⟩ := zz_ii_inv h
    intro a1 a2 H locs ls hh hl; exact lv_idiv hx hb hdec h0 ((hk rfl _ _ _ h).2 a1 a2 H locs ls hh hl)
  case irem =>
    obtain ⟨x, y, r, rfl, h0, h⟩ := zz_ii_inv h
    intro a1 a2 H locs ls hh hl; exact lv_irem hx hb hdec h0 ((hk rfl _ _ _ h).2 a1 a2 H locs ls hh hl)
  case ineg =>
    obtain ⟨x, r, rfl, h⟩ := zz_i1_inv h
    intro a1 a2 H locs ls hh hl; exact lv_ineg hx hb hdec ((hk rfl _ _ _ h).2 a1 a2 H locs ls hh hl)
  case ladd =>
    obtain ⟨x, y, r, rfl, h⟩ := zz_ll_inv h
    intro a1 a2 H locs ls hh hl; exact lv_ladd hx hb hdec ((hk rfl _ _ _ h).2 a1 a2 H locs ls hh hl)
  case lmul =>
    obtain ⟨x, y, r, rfl, h⟩ := zz_ll_inv h
    intro a1 a2 H locs ls hh hl; exact lv_lmul hx hb hdec ((hk rfl _ _ _ h).2 a1 a2 H locs ls hh hl)
  case ldiv =>
    obtain ⟨x, y, r, rfl, h0, h⟩ := zz_ll_inv h
    intro a1 a2 H locs ls hh hl; exact lv_ldiv hx hb hdec h0 ((hk rfl _ _ _ h).2 a1 a2 H locs ls hh hl)
  case lrem =>
    obtain ⟨x, y, r, rfl, h0, h⟩ := zz_ll_inv h
    intro a1 a2 H locs ls hh hl; exact lv_lrem hx hb hdec h0 ((hk rfl _ _ _ h).2 a1 a2 H locs ls hh hl)
  case lcmp =>
    obtain ⟨x, y, r, rfl, h⟩ := zz_ll_inv h
    intro a1 a2 H locs ls hh hl; exact W.lcmp hx hb hdec ((hk rfl _ _ _ h).2 a1 a2 H locs ls hh hl)
  case i2l =>
    obtain ⟨x, r, rfl, h⟩ := zz_i1_inv h
    intro a1 a2 H locs ls hh hl; exact lv_i2l hx hb hdec rfl ((hk rfl _ _ _ h).2 a1 a2 H locs ls hh hl)
  case i2b =>
    obtain ⟨x, r, rfl, h⟩ := zz_i1_inv h
    intro a1 a2 H locs ls hh hl; exact lv_i2b hx hb hdec rfl ((hk rfl _ _ _ h).2 a1 a2 H locs ls hh hl)
  case i2s =>
    obtain ⟨x, r, rfl, h⟩ := zz_i1_inv h
    intro a1 a2 H locs ls hh hl; exact lv_i2s hx hb hdec rfl ((hk rfl _ _ _ h).2 a1 a2 H locs ls hh hl)
  case i2c =>
    obtain ⟨x, r, rfl, h⟩ := zz_i1_inv h
    intro a1 a2 H locs ls hh hl; exact lv_i2c hx hb hdec rfl ((hk rfl _ _ _ h).2 a1 a2 H locs ls hh hl)
  case dup =>
    simp only [zz_x] at h
    split at h
    · intro a1 a2 H locs ls hh hl; exact lv_dup hx hb hdec (by rw [zz_cv_cat]; exact h.1) ((hk rfl _ _ _ h.2).2 a1 a2 H locs ls hh hl)
    · exact h.elim
  case dup_x1 =>
    simp only [zz_x] at h
    split at h
    · intro a1 a2 H locs ls hh hl; exact lv_dup_x1 hx hb hdec (by rw [zz_cv_cat]; exact h.1) (by rw [zz_cv_cat]; exact h.2.1) ((hk rfl _ _ _ h.2.2).2 a1 a2 H locs ls hh hl)
    · exact h.elim
  case dup2 =>
    simp only [zz_x] at h
    split at h
    · intro a1 a2 H locs ls hh hl; exact lv_dup2_11 hx hb hdec (by rw [zz_cv_cat]; exact h.1) (by rw [zz_cv_cat]; exact h.2.1) ((hk rfl _ _ _ h.2.2).2 a1 a2 H locs ls hh hl)
    · exact h.elim
  case pop =>
    simp only [zz_x] at h
    split at h
    · intro a1 a2 H locs ls hh hl; exact lv_pop hx hb hdec (by rw [zz_cv_cat]; exact h.1) ((hk rfl _ _ _ h.2).2 a1 a2 H locs ls hh hl)
    · exact h.elim
  case ifCond cd off =>
    obtain ⟨x, r, rfl, h⟩ := zz_i1_inv h
    intro a1 a2 H locs ls hh hl
    have ht := zz_tgt (pc := pc) (of_decide_eq_true hok)
    have hT := fun q => (zz_Qs hj (h.1 q)).2 p e s m args below meth c S0 hf a1 a2 H locs ls hh hl
    have hF := fun q => (hk rfl _ _ _ (h.2 q)).2 a1 a2 H locs ls hh hl
    cases cd
    case eq => exact lv_if_eq hx hb hdec ht hT hF
    case ne => exact lv_if_ne hx hb hdec ht hT (fun q => hF (fun z => z q))
    case lt => exact lv_if_lt hx hb hdec ht hT hF
    case ge => exact lv_if_ge hx hb hdec ht hT hF
    case gt => exact lv_if_gt hx hb hdec ht hT hF
    case le => exact lv_if_le hx hb hdec ht hT hF
  case if_icmp cd off =>
    obtain ⟨x, y, r, rfl, h⟩ := zz_ii_inv h
    intro a1 a2 H locs ls hh hl
    have ht := zz_tgt (pc := pc) (of_decide_eq_true hok)
    have hT := fun q => (zz_Qs hj (h.1 q)).2 p e s m args below meth c S0 hf a1 a2 H locs ls hh hl
    have hF := fun q => (hk rfl _ _ _ (h.2 q)).2 a1 a2 H locs ls hh hl
    cases cd
    case eq => exact lv_icmp_eq hx hb hdec ht hT hF
    case ne => exact lv_icmp_ne hx hb hdec ht hT (fun q => hF (fun z => z q))
    case lt => exact lv_icmp_lt hx hb hdec ht hT hF
    case ge => exact lv_icmp_ge hx hb hdec ht hT hF
    case gt => exact lv_icmp_gt hx hb hdec ht hT hF
    case le => exact lv_icmp_le hx hb hdec ht hT hF
  case goto off =>
    intro a1 a2 H locs ls hh hl
    exact lv_goto hx hb hdec (zz_tgt (pc := pc) (of_decide_eq_true hok)) ((zz_Qs hj h).2 p e s m args below meth c S0 hf a1 a2 H locs ls hh hl)
  case tableswitch dflt lo hi offs =>
    obtain ⟨x, r, rfl, h⟩ := zz_i1_inv h
    intro a1 a2 H locs ls hh hl
    simp only [zz_okX, Bool.and_eq_true, decide_eq_true_eq] at hok
    by_cases hc : x.toInt < lo ∨ hi < x.toInt
    · exact lv_tableOut hx hb hdec hc (zz_tgt hok.1) ((zz_Qs hj (h.1 hc)).2 p e s m args below meth c S0 hf a1 a2 H locs ls hh hl)
    · obtain ⟨off, ho, h⟩ := h.2 hc
      have hmem : off ∈ offs.toList := Array.mem_toList_iff.mpr (Array.mem_of_getElem? ho)
      have := List.all_eq_true.mp hok.2 off hmem
      exact lv_tableIn hx hb hdec (fun q => hc (Or.inl q)) (fun q => hc (Or.inr q)) ho (zz_tgt (of_decide_eq_true this)) ((zz_Qs hj h).2 p e s m args below meth c S0 hf a1 a2 H locs ls hh hl)
  case lookupswitch dflt ps =>
    obtain ⟨x, r, rfl, h⟩ := zz_i1_inv h
    intro a1 a2 H locs ls hh hl
    simp only [zz_okX, Bool.and_eq_true, decide_eq_true_eq] at hok
    have hge : 0 ≤ (pc : Int) + Op.lookupswitch.offset ps.toList dflt x.toInt := zz_lk dflt x.toInt (P := fun z => 0 ≤ (pc : Int) + z) hok.1.2 ps.toList (fun z hz => of_decide_eq_true (List.all_eq_true.mp hok.2 z hz))
    exact lv_lookup hx hb hdec (by simpa using hok.1.1) rfl (zz_tgt hge) ((zz_Qs hj h).2 p e s m args below meth c S0 hf a1 a2 H locs ls hh hl)
  case getfield x =>
    obtain ⟨a', r, rfl, hK, h⟩ := zz_r1_inv h
    intro a1 a2 H locs ls hh hl
    exact zz_get hf hok hdec hh hK ((hk rfl _ _ _ h).2 a1 a2 H locs ls hh hl)
  case putfield x =>
    simp only [zz_okX, Bool.and_eq_true] at hok
    simp only [zz_x] at h
    split at h
    · next x9 a' r =>
      obtain ⟨hK, hrf, hfit, h⟩ := h
      intro a1 a2 H locs ls hh hl
      exact zz_put (S2 := zz_pI S a' b x9) (v := .int x9) hf hok.1 hok.2 hdec hh hK hfit.1 hfit.2 rfl (fun _ => rfl) (fun _ => rfl) (fun b' i h9 => zz_nI' S a' b x9 b' i h9) (fun _ _ _ => rfl) (fun _ _ _ => rfl) (fun i => zz_fvI hrf i) (fun H1 locs1 hh1 => (hk rfl _ _ _ h).2 a1 a2 H1 locs1 ls hh1 hl)
    · next x9 a' r =>
      obtain ⟨hK, hrf, h⟩ := h
      intro a1 a2 H locs ls hh hl
      exact zz_put (S2 := zz_pR S a' b (some x9)) (v := .ref x9) hf hok.1 hok.2 hdec hh hK (zz_ref_ty (zz_okF_k hok.1).1 (zz_okF_k hok.1).2 hrf _).1 (zz_ref_ty (zz_okF_k hok.1).1 (zz_okF_k hok.1).2 hrf _).2 rfl (fun _ => rfl) (fun _ => rfl) (fun _ _ _ => rfl) (fun b' i h9 => zz_nR' S a' b (some x9) b' i h9) (fun _ _ _ => rfl) (fun i => zz_fvR hrf i) (fun H1 locs1 hh1 => (hk rfl _ _ _ h).2 a1 a2 H1 locs1 ls hh1 hl)
    · exact h.elim
  case getstatic x =>
    intro a1 a2 H locs ls hh hl
    obtain ⟨cf, kf, fi, f, aa, cell, h1, h2, h3, h4, h5, h6, h7, h8⟩ := hst.2.1
    exact W.gets hx hb hown (hG _ (zz_has_ok hok)) h1 h2 h3 h4 (by rw [hh.2.1 aa (Nat.not_le.mp h8)]; exact h5) (fun e => by rw [e] at h6; cases h6) h7 rfl hdec ((hk rfl _ _ _ h).2 a1 a2 H locs ls hh hl)
  case arraylength =>
    obtain ⟨a', r, rfl, hK1, hK2, h⟩ := zz_r1_inv h
    intro a1 a2 H locs ls hh hl
    by_cases h18 : zz_K S a' = 18
    · obtain ⟨cell, g1, g2, g3, g4, g5⟩ := (hh.1.2.2.2.2.2.2 a').2.2 h18
      exact W.alen (n := Int32.ofNat (zz_L S a')) hx hb g1 g2 (by rw [g4] <;> rfl) rfl rfl hdec ((hk rfl _ _ _ h).2 a1 a2 H locs ls hh hl)
    · have hlt : zz_K S a' < 18 := by omega
      have hcell := zz_acell hh rfl hK1 hlt
      have hty : ∃ ty, (E.2.1 (zz_K S a'), ty) ∈ zz_tys E.2.1 := by
        have : zz_K S a' = 12 ∨ zz_K S a' = 13 ∨ zz_K S a' = 14 ∨ zz_K S a' = 15 ∨ zz_K S a' = 16 ∨ zz_K S a' = 17 := by omega
        rcases this with q | q | q | q | q | q <;> rw [q] <;> exact ⟨_, by simp [zz_tys]; first | exact Or.inl rfl | exact Or.inr (Or.inl rfl) | exact Or.inr (Or.inr (Or.inl rfl)) | exact Or.inr (Or.inr (Or.inr (Or.inl rfl))) | exact Or.inr (Or.inr (Or.inr (Or.inr (Or.inl rfl)))) | exact Or.inr (Or.inr (Or.inr (Or.inr (Or.inr rfl))))⟩
      obtain ⟨ty, hty⟩ := hty
      exact W.alen (n := Int32.ofNat (zz_L S a')) hx hb hcell (zz_arr_of hst hty _ _) (by rw [arrV_size] <;> rfl) rfl rfl hdec ((hk rfl _ _ _ h).2 a1 a2 H locs ls hh hl)
  case iaload =>
    obtain ⟨i, a', r, rfl, hK, hin, h⟩ := zz_ir_inv h
    intro a1 a2 H locs ls hh hl
    rcases hK with hK | hK
    · exact W.iald (v := .int (zz_I S a' i.toNatClampNeg)) hx hb (zz_acell hh hK (by omega) (by omega)) (zz_arr_of hst (by simp [zz_tys]) _ _) (fun q => by cases q) (zz_in_sz hin) (by rw [arrV_read _ _ (zz_in_lt hin)]; rfl) rfl rfl hdec ((hk rfl _ _ _ h).2 a1 a2 H locs ls hh hl)
    · obtain ⟨cell, g1, g2, g3, g4, g5⟩ := (hh.1.2.2.2.2.2.2 a').2.2 hK
      exact W.iald (v := .int (zz_I S a' i.toNatClampNeg)) hx hb g1 g2 g3 (by rw [g4]; exact hin) (g5 _ (zz_in_lt hin)) rfl rfl hdec ((hk rfl _ _ _ h).2 a1 a2 H locs ls hh hl)
  case baload =>
    obtain ⟨i, a', r, rfl, hK, hin, h⟩ := zz_ir_inv h
    intro a1 a2 H locs ls hh hl
    rcases hK with hK | hK
    · exact W.bald (v := .int (zz_I S a' i.toNatClampNeg)) hx hb (zz_acell hh hK (by omega) (by omega)) (zz_arr_of hst (by simp [zz_tys]) _ _) (fun q => by cases q) (zz_in_sz hin) (by rw [arrV_read _ _ (zz_in_lt hin)]; rfl) rfl rfl hdec ((hk rfl _ _ _ h).2 a1 a2 H locs ls hh hl)
    · exact W.zald (v := .int (zz_I S a' i.toNatClampNeg)) hx hb (zz_acell hh hK (by omega) (by omega)) (zz_arr_of hst (by simp [zz_tys]) _ _) (fun q => by cases q) (zz_in_sz hin) (by rw [arrV_read _ _ (zz_in_lt hin)]; rfl) rfl rfl hdec ((hk rfl _ _ _ h).2 a1 a2 H locs ls hh hl)
  case caload =>
    obtain ⟨i, a', r, rfl, hK, hin, h⟩ := zz_ir_inv h
    intro a1 a2 H locs ls hh hl
    exact W.cald (v := .int (zz_I S a' i.toNatClampNeg)) hx hb (zz_acell hh hK (by omega) (by omega)) (zz_arr_of hst (by simp [zz_tys]) _ _) (fun q => by cases q) (zz_in_sz hin) (by rw [arrV_read _ _ (zz_in_lt hin)]; rfl) rfl rfl hdec ((hk rfl _ _ _ h).2 a1 a2 H locs ls hh hl)
  case laload =>
    obtain ⟨i, a', r, rfl, hK, hin, h⟩ := zz_ir_inv h
    intro a1 a2 H locs ls hh hl
    exact W.lald (v := .long (zz_J S a' i.toNatClampNeg)) hx hb (zz_acell hh hK (by omega) (by omega)) (zz_arr_of hst (by simp [zz_tys]) _ _) (fun q => by cases q) (zz_in_sz hin) (by rw [arrV_read _ _ (zz_in_lt hin)]; rfl) rfl rfl hdec ((hk rfl _ _ _ h).2 a1 a2 H locs ls hh hl)
  case aaload =>
    obtain ⟨i, a', r, rfl, hK, hin, h⟩ := zz_ir_inv h
    intro a1 a2 H locs ls hh hl
    exact W.aald (ty := .object "OneStageTwoPlays$Night") (v := zz_cv E (zz_rv (zz_R S a' i.toNatClampNeg))) hx hb (zz_acell hh hK (by omega) (by omega)) (zz_arr_of hst (by simp [zz_tys]) _ _) rfl (fun q => by cases q) (zz_in_sz hin) (by rw [arrV_read _ _ (zz_in_lt hin)]; rfl) rfl rfl hdec ((hk rfl _ _ _ h).2 a1 a2 H locs ls hh hl)
  case iastore =>
    obtain ⟨x, i, a', r, rfl, hK, hin, h⟩ := zz_iir_inv h
    intro a1 a2 H locs ls hh hl
    refine W.iast hx hb (zz_acell hh hK (by omega) (by omega)) (zz_arr_of hst (by simp [zz_tys]) _ _) (fun q => by cases q) (zz_in_sz hin) rfl rfl hdec fun H1 w1 w2 w3 => ?_
    exact (hk rfl _ _ _ h).2 a1 a2 H1 _ ls (zz_aput (S2 := zz_pI S a' i.toNatClampNeg x) (v := .int x) hh hK (by omega) (by omega) rfl (fun _ => rfl) (fun _ => rfl) (fun b' i9 h9 => zz_nI' S a' _ x b' i9 h9) (fun _ _ _ => rfl) (fun _ _ _ => rfl) (fun y => zz_elI (by omega) (by omega) y) w1 w2 w3) hl
  case bastore =>
    obtain ⟨x, i, a', r, rfl, hK, hin, h⟩ := zz_iir_inv h
    intro a1 a2 H locs ls hh hl
    have hnar : ∀ ty : FieldType, ty = .byte ∨ ty = .boolean → narrow ty (.int x) = .int (vp_nar ty x) := by
      intro ty ht
      rcases ht with rfl | rfl <;> rfl
    rcases hK with hK | hK
    · refine W.bast hx hb (zz_acell hh hK (by omega) (by omega)) (zz_arr_of hst (by simp [zz_tys]) _ _) (fun q => by cases q) (zz_in_sz hin) rfl rfl hdec fun H1 w1 w2 w3 => ?_
      rw [hnar .byte (Or.inl rfl)] at w1
      rw [hK, if_pos rfl] at h
      exact (hk rfl _ _ _ h).2 a1 a2 H1 _ ls (zz_aput (S2 := zz_pI S a' i.toNatClampNeg (vp_nar .byte x)) (v := .int (vp_nar .byte x)) hh hK (by omega) (by omega) rfl (fun _ => rfl) (fun _ => rfl) (fun b' i9 h9 => zz_nI' S a' _ _ b' i9 h9) (fun _ _ _ => rfl) (fun _ _ _ => rfl) (fun y => zz_elI (by omega) (by omega) y) w1 w2 w3) hl
    · refine W.zast hx hb (zz_acell hh hK (by omega) (by omega)) (zz_arr_of hst (by simp [zz_tys]) _ _) (fun q => by cases q) (zz_in_sz hin) rfl rfl hdec fun H1 w1 w2 w3 => ?_
      rw [hnar .boolean (Or.inr rfl)] at w1
      rw [hK, if_neg (by decide)] at h
      exact (hk rfl _ _ _ h).2 a1 a2 H1 _ ls (zz_aput (S2 := zz_pI S a' i.toNatClampNeg (vp_nar .boolean x)) (v := .int (vp_nar .boolean x)) hh hK (by omega) (by omega) rfl (fun _ => rfl) (fun _ => rfl) (fun b' i9 h9 => zz_nI' S a' _ _ b' i9 h9) (fun _ _ _ => rfl) (fun _ _ _ => rfl) (fun y => zz_elI (by omega) (by omega) y) w1 w2 w3) hl
  case castore =>
    obtain ⟨x, i, a', r, rfl, hK, hin, h⟩ := zz_iir_inv h
    intro a1 a2 H locs ls hh hl
    refine W.cast hx hb (zz_acell hh hK (by omega) (by omega)) (zz_arr_of hst (by simp [zz_tys]) _ _) (fun q => by cases q) (zz_in_sz hin) rfl rfl hdec fun H1 w1 w2 w3 => ?_
    have hnar : narrow .char (.int x) = .int (vp_nar .char x) := rfl
    rw [hnar] at w1
    exact (hk rfl _ _ _ h).2 a1 a2 H1 _ ls (zz_aput (S2 := zz_pI S a' i.toNatClampNeg (vp_nar .char x)) (v := .int (vp_nar .char x)) hh hK (by omega) (by omega) rfl (fun _ => rfl) (fun _ => rfl) (fun b' i9 h9 => zz_nI' S a' _ _ b' i9 h9) (fun _ _ _ => rfl) (fun _ _ _ => rfl) (fun y => zz_elI (by omega) (by omega) y) w1 w2 w3) hl
  case lastore =>
    simp only [zz_x] at h
    split at h
    · next x i a' r =>
      obtain ⟨hK, hin, h⟩ := h
      intro a1 a2 H locs ls hh hl
      refine W.last hx hb (zz_acell hh hK (by omega) (by omega)) (zz_arr_of hst (by simp [zz_tys]) _ _) (fun q => by cases q) (zz_in_sz hin) rfl rfl hdec fun H1 w1 w2 w3 => ?_
      exact (hk rfl _ _ _ h).2 a1 a2 H1 _ ls (zz_aput (S2 := zz_pJ S a' i.toNatClampNeg x) (v := .long x) hh hK (by omega) (by omega) rfl (fun _ => rfl) (fun _ => rfl) (fun _ _ _ => rfl) (fun _ _ _ => rfl) (fun b' i9 h9 => zz_nJ' S a' _ _ b' i9 h9) (fun y => zz_elJ y) w1 w2 w3) hl
    · exact h.elim
  case aastore =>
    simp only [zz_x] at h
    split at h
    · next x i a' r =>
      obtain ⟨hK, hKx, hin, h⟩ := h
      intro a1 a2 H locs ls hh hl
      obtain ⟨cellV, g1, g2, g3, -⟩ := (hh.1.2.2.2.2.2.2 x).1 (by omega)
      rw [hKx] at g2
      have hcls := (hst.1.1 5 _ (rfl : zz_cl[5]? = some (zz_R5, zz_T5, 9))).2
      obtain ⟨kA, comp, k1, k2, k3, -⟩ := (hst.1.2 5 _ (rfl : (zz_tys E.2.1)[5]? = some (E.2.1 17, .object "OneStageTwoPlays$Night"))).2
      have hcomp : comp = E.1.1 5 := Option.some.inj (k3.symm.trans hcls.1)
      subst hcomp
      obtain ⟨kC, hkC, -⟩ := hcls.2
      refine W.aast hx hb (zz_acell hh hK (by omega) (by omega)) (fun q h => by cases h) (fun h => by cases h) k1 k2 rfl hkC ⟨fun q => hin (Or.inl q), by rw [arrV_size]; exact zz_in_lt hin⟩ g1 (fun q h => by rw [g3] at h; cases h) (by rw [g2]; exact hkC) (by rw [g2]; exact va_assign hcls) rfl rfl hdec fun H1 w1 w2 w3 => ?_
      exact (hk rfl _ _ _ h).2 a1 a2 H1 _ ls (zz_aput (S2 := zz_pR S a' i.toNatClampNeg (some x)) (v := .ref x) hh hK (by omega) (by omega) rfl (fun _ => rfl) (fun _ => rfl) (fun _ _ _ => rfl) (fun b' i9 h9 => zz_nR' S a' _ _ b' i9 h9) (fun _ _ _ => rfl) (fun y => zz_elR y) w1 w2 w3) hl
    · exact h.elim
  case new x =>
    obtain ⟨h12, h⟩ := h
    intro a1 a2 H locs ls hh hl
    simp only [zz_okX] at hok
    rw [if_neg (Nat.not_le.mpr h12)] at hok
    split at hok
    · next q hq =>
      simp only [Bool.and_eq_true] at hok
      obtain ⟨⟨o1, o2⟩, o3⟩ := hok
      have hmn := (hk rfl _ _ _ h).1
      have hN := zz_clN a q hq
      have hKn := hst.1.1 a _ hq
      have hc1 : zz_n S - zz_n S0 + 1 ≤ (zz_room d S0 S').cells := by
        have := hmn.1
        show _ ≤ zz_n S' - zz_n S0
        have : zz_n S + 1 ≤ zz_n S' := this
        omega
      have hc2 : zz_s S - zz_s S0 + q.2.2 ≤ (zz_room d S0 S').slots := by
        have := hmn.2
        show _ ≤ zz_s S' - zz_s S0
        have : zz_s S + zz_N a ≤ zz_s S' := this
        omega
      refine W.newcK hx hb hown (hG _ (zz_has_ok o1)) (hG _ (zz_has_ok o2)) (hG _ (zz_has_ok o3)) rfl hdec hc1 hc2 hKn.2.1 rfl fun H1 kC hkC w1 w2 w3 => ?_
      have hcell : zz_cell E s H1 (zz_new S a (zz_N a)) (zz_n S + 2) := by
        have ha : a < 12 := (List.getElem?_eq_some_iff.mp hq).1
        refine ⟨fun _ => ?_, fun h9 => ?_, fun h9 => ?_⟩
        · rw [zz_newK, zz_ad_new hh, ← hN]
          have hborn := u_born (zz_y a) hG (zz_clIn a q hq) hKn hkC w1 (zz_clTy a q hq)
          exact hborn.to (fun i hi => by rw [hN] at hi; rw [hN]; exact zz_new_ob ha S (zz_N a) i hi)
        · rw [zz_newK] at h9; omega
        · rw [zz_newK] at h9; omega
      have := (hk rfl _ _ _ h).2 (Nat.le_trans a1 (Nat.le_succ _)) (Nat.le_trans a2 (Nat.le_add_right _ _)) H1 locs ls (zz_hp_new hh w2 w3 hcell) hl
      have e1 : zz_n (zz_new S a (zz_N a)) - zz_n S0 = zz_n S - zz_n S0 + 1 := by
        show zz_n S + 1 - zz_n S0 = _
        omega
      have e2 : zz_s (zz_new S a (zz_N a)) - zz_s S0 = zz_s S - zz_s S0 + q.2.2 := by
        show zz_s S + zz_N a - zz_s S0 = _
        omega
      rw [e1, e2] at this
      have e3 : (Value.ref (zz_n S + 2) :: st).map (zz_cv E) = .ref H.size :: st.map (zz_cv E) := by
        rw [List.map_cons]
        show Value.ref (zz_ad E (zz_n S + 2)) :: _ = _
        rw [zz_ad_new hh]
      rw [e3] at this
      exact this
    · cases hok
  case newarray t =>
    obtain ⟨n, r, rfl, hn0, hn1, h⟩ := zz_i1_inv h
    intro a1 a2 H locs ls hh hl
    simp only [zz_okX, Bool.and_eq_true, decide_eq_true_eq] at hok
    have hmn := (hk rfl _ _ _ h).1
    have hc1 : zz_n S - zz_n S0 + 1 ≤ (zz_room d S0 S').cells := by
      have := hmn.1
      show _ ≤ zz_n S' - zz_n S0
      have : zz_n S + 1 ≤ zz_n S' := this
      omega
    have hc2 : zz_s S - zz_s S0 + n.toNatClampNeg ≤ (zz_room d S0 S').slots := by
      have := hmn.2
      show _ ≤ zz_s S' - zz_s S0
      have : zz_s S + n.toNatClampNeg ≤ zz_s S' := this
      omega
    have hbyt : n.toNatClampNeg * componentBytes (newarray.typeOf t) ≤ 536870912 := by
      have : componentBytes (newarray.typeOf t) ≤ 8 := by cases t <;> decide
      exact Nat.le_trans (Nat.mul_le_mul hn1 this) (by decide)
    refine va_newaK hx hb (hG _ (zz_has_ok hok.1)) rfl hdec rfl hn0 rfl hbyt hc1 hc2 rfl fun H1 cA w1 w2 w3 w4 w5 => ?_
    have hcell : zz_cell E s H1 (zz_new S (zz_kd t) n.toNatClampNeg) (zz_n S + 2) := by
      have hcase : ∀ (k : Nat) (ty : FieldType) (i : Nat), zz_kd t = k → newarray.typeOf t = ty → (zz_tys E.2.1)[i]? = some (E.2.1 k, ty) → 12 ≤ k → k < 18 → (∀ x, defaultValue ty = zz_cv E (zz_el (zz_new S k n.toNatClampNeg) (zz_n S + 2) k x)) → zz_cell E s H1 (zz_new S k n.toNatClampNeg) (zz_n S + 2) := by
        intro k ty i hk1 hty hi hk2 hk3 hdef
        refine ⟨fun h9 => ?_, fun _ _ => ?_, fun h9 => ?_⟩
        · rw [zz_newK] at h9; omega
        · rw [zz_newK, zz_newL, zz_ad_new hh, w1]
          rw [hty] at w5 ⊢
          rw [zz_cyI hst hi w5]
          congr 2
          funext x
          exact hdef x
        · rw [zz_newK] at h9; omega
      cases t
      case boolean => exact hcase 16 .boolean 4 rfl rfl rfl (by omega) (by omega) (fun x => by simp [zz_el, zz_newI, zz_cv, defaultValue])
      case char => exact hcase 13 .char 1 rfl rfl rfl (by omega) (by omega) (fun x => by simp [zz_el, zz_newI, zz_cv, defaultValue])
      case byte => exact hcase 12 .byte 0 rfl rfl rfl (by omega) (by omega) (fun x => by simp [zz_el, zz_newI, zz_cv, defaultValue])
      case int => exact hcase 14 .int 2 rfl rfl rfl (by omega) (by omega) (fun x => by simp [zz_el, zz_newI, zz_cv, defaultValue])
      case long => exact hcase 15 .long 3 rfl rfl rfl (by omega) (by omega) (fun x => by simp [zz_el, zz_newJ, zz_cv, defaultValue])
      all_goals exact absurd hok.2 (by decide)
    have := (hk rfl _ _ _ h).2 (Nat.le_trans a1 (Nat.le_succ _)) (Nat.le_trans a2 (Nat.le_add_right _ _)) H1 locs ls (zz_hp_new hh w2 w3 hcell) hl
    have e1 : zz_n (zz_new S (zz_kd t) n.toNatClampNeg) - zz_n S0 = zz_n S - zz_n S0 + 1 := by
      show zz_n S + 1 - zz_n S0 = _
      omega
    have e2 : zz_s (zz_new S (zz_kd t) n.toNatClampNeg) - zz_s S0 = zz_s S - zz_s S0 + n.toNatClampNeg := by
      show zz_s S + n.toNatClampNeg - zz_s S0 = _
      omega
    rw [e1, e2] at this
    have e3 : (Value.ref (zz_n S + 2) :: r).map (zz_cv E) = .ref H.size :: r.map (zz_cv E) := by
      rw [List.map_cons]
      show Value.ref (zz_ad E (zz_n S + 2)) :: _ = _
      rw [zz_ad_new hh]
    rw [e3] at this
    exact this
  case anewarray x =>
    obtain ⟨n, r, rfl, hn0, hn1, h⟩ := zz_i1_inv h
    intro a1 a2 H locs ls hh hl
    simp only [zz_okX] at hok
    have hmn := (hk rfl _ _ _ h).1
    have hc1 : zz_n S - zz_n S0 + 1 ≤ (zz_room d S0 S').cells := by
      have := hmn.1
      show _ ≤ zz_n S' - zz_n S0
      have : zz_n S + 1 ≤ zz_n S' := this
      omega
    have hc2 : zz_s S - zz_s S0 + n.toNatClampNeg ≤ (zz_room d S0 S').slots := by
      have := hmn.2
      show _ ≤ zz_s S' - zz_s S0
      have : zz_s S + n.toNatClampNeg ≤ zz_s S' := this
      omega
    refine W.anew hx hb hown (hG _ (zz_has_ok hok)) (va_AO.use hst.2.2.2.1) rfl hdec rfl hn0 (Nat.le_trans (Nat.mul_le_mul hn1 (Nat.le_refl 4)) (by decide)) hc1 hc2 fun cA kA comp w1 w2 w3 w4 => ?_
    have hcA : cA = E.2.1 17 := zz_cyI (i := 5) hst rfl w1
    subst hcA
    have hcell : zz_cell E s (H.push { cls := E.2.1 17, slots := Array.replicate n.toNatClampNeg .null, vm := .none }) (zz_new S 17 n.toNatClampNeg) (zz_n S + 2) := by
      refine ⟨fun h9 => ?_, fun _ _ => ?_, fun h9 => ?_⟩
      · rw [zz_newK] at h9; omega
      · rw [zz_newK, zz_newL, zz_ad_new hh, Array.getElem?_push, if_pos rfl, arrV_new]
        congr 2
        funext y
        simp [zz_el, zz_newR, zz_cv, zz_rv]
      · rw [zz_newK] at h9; omega
    have := (hk rfl _ _ _ h).2 (Nat.le_trans a1 (Nat.le_succ _)) (Nat.le_trans a2 (Nat.le_add_right _ _)) _ locs ls (zz_hp_new hh (by simp) (fun q hq => by rw [Array.getElem?_push, if_neg (Nat.ne_of_lt hq)]) hcell) hl
    have e1 : zz_n (zz_new S 17 n.toNatClampNeg) - zz_n S0 = zz_n S - zz_n S0 + 1 := by
      show zz_n S + 1 - zz_n S0 = _
      omega
    have e2 : zz_s (zz_new S 17 n.toNatClampNeg) - zz_s S0 = zz_s S - zz_s S0 + n.toNatClampNeg := by
      show zz_s S + n.toNatClampNeg - zz_s S0 = _
      omega
    rw [e1, e2] at this
    have e3 : (Value.ref (zz_n S + 2) :: r).map (zz_cv E) = .ref H.size :: r.map (zz_cv E) := by
      rw [List.map_cons]
      show Value.ref (zz_ad E (zz_n S + 2)) :: _ = _
      rw [zz_ad_new hh]
    rw [e3] at this
    exact this
  case invokevirtual x =>
    obtain ⟨hrc, h⟩ := h
    simp only [zz_okX, Bool.and_eq_true, decide_eq_true_eq] at hok
    cases d with
    | zero => exact False.elim h
    | succ d =>
      obtain ⟨g1, g2, g3, v, S1, g4, g5⟩ := (h : _ ∧ _)
      split at hrc
      · next r ts hr =>
        exact zz_invV hf hall hok.1.1 hok.1.2 hok.2 hdec hr hrc g1 g2 g3 (zz_Qs (zz_okC_nm hok.1.2) g4) (hk rfl _ _ _ g5).1 (hk rfl _ _ _ g5).2
      · exact hrc.elim
  case invokestatic x =>
    simp only [zz_x] at h
    simp only [zz_okX] at hok
    cases d with
    | zero => exact False.elim h
    | succ d =>
      obtain ⟨g1, g2, g3, v, S1, g4, g5⟩ := (h : _ ∧ _)
      by_cases h9 : a = 309 ∨ a = 310
      · rw [if_pos h9, Bool.and_eq_true, decide_eq_true_eq] at hok
        obtain ⟨hlk9, hb2⟩ := hok
        have hgo := hk rfl _ _ _ g5
        rcases h9 with rfl | rfl
        · obtain ⟨-, m0, -⟩ := zz_Q9 g4
          obtain ⟨x', y', e0, e1, e2⟩ := m0 rfl
          obtain ⟨r, rfl⟩ := zz_m2 hb2 g1 e0 e1
          obtain ⟨rfl, rfl⟩ := e2 rfl
          subst hb2
          intro a1 a2 H locs ls hh hl
          refine va_mmax hx hb (by rw [hml]; exact hl.1.symm) hown (hG _ (zz_has_ok hlk9)) (hG _ zz_mw1) (hG _ zz_mw2) (hG _ zz_mw3) (by show 1 ≤ d + 1; omega) ?_ ?_ ?_ hdec (hgo.2 a1 a2 H locs ls hh hl)
          · have g3 : (r.map Value.category).sum ≤ 8 := g3
            rw [zz_cv_cats]
            show _ + 13 ≤ 64 * (d + 1)
            omega
          · have := hgo.1.1
            show _ ≤ zz_n S' - zz_n S0
            omega
          · have := hgo.1.2
            show _ ≤ zz_s S' - zz_s S0
            omega
        · obtain ⟨-, m0, -⟩ := zz_Q10 g4
          obtain ⟨x', y', e0, e1, e2⟩ := m0 rfl
          obtain ⟨r, rfl⟩ := zz_m2 hb2 g1 e0 e1
          obtain ⟨rfl, rfl⟩ := e2 rfl
          subst hb2
          intro a1 a2 H locs ls hh hl
          refine va_mmin hx hb (by rw [hml]; exact hl.1.symm) hown (hG _ (zz_has_ok hlk9)) (hG _ zz_mw4) (hG _ zz_mw2) (hG _ zz_mw5) (by show 1 ≤ d + 1; omega) ?_ ?_ ?_ hdec (hgo.2 a1 a2 H locs ls hh hl)
          · have g3 : (r.map Value.category).sum ≤ 8 := g3
            rw [zz_cv_cats]
            show _ + 13 ≤ 64 * (d + 1)
            omega
          · have := hgo.1.1
            show _ ≤ zz_n S' - zz_n S0
            omega
          · have := hgo.1.2
            show _ ≤ zz_s S' - zz_s S0
            omega
      · rw [if_neg h9] at hok
        simp only [Bool.and_eq_true] at hok
        exact zz_invS hf hall hok.1.1 (zz_has_ok hok.1.2) (zz_has_ok hok.2) hdec g1 g2 g3 (zz_Qs (zz_okC_nm hok.1.1) g4) (hk rfl _ _ _ g5).1 (hk rfl _ _ _ g5).2
  case invokespecial x =>
    simp only [zz_x] at h
    simp only [zz_okX] at hok
    split at h
    · next h999 =>
      rw [if_pos h999] at hok
      simp only [Bool.and_eq_true] at hok
      obtain ⟨a', r, rfl, h1, h2, h⟩ := zz_r1_inv h
      intro a1 a2 H locs ls hh hl
      refine W.objInit hx hb hown (hG _ (zz_has_ok hok.1.1)) (hG _ (zz_has_ok hok.1.2)) (hG _ (zz_has_ok hok.2)) rfl (by rw [hml]; exact hl.1) rfl hdec h2 ?_ ((hk rfl _ _ _ h).2 a1 a2 H locs ls hh hl)
      show 2 * 0 + ((r.map (zz_cv E)).map fun v => v.category).sum + 12 ≤ 64 * d
      rw [zz_cv_cats]
      omega
    · next h999 =>
      obtain ⟨h998, h⟩ := h
      rw [if_neg h999, if_neg h998] at hok
      simp only [Bool.and_eq_true, decide_eq_true_eq] at hok
      obtain ⟨⟨⟨⟨⟨o1, o2⟩, o3⟩, o4⟩, o5⟩, o6⟩ := hok
      obtain ⟨hrc, h⟩ := h
      cases d with
      | zero => exact False.elim h
      | succ d =>
        obtain ⟨g1, g2, g3, v, S1, g4, g5⟩ := (h : _ ∧ _)
        split at hrc
        · next r ts hr =>
          exact zz_invI hf hall o1 o2 o3 o4 (zz_has_ok o5) o6 hdec hr g1 g2 g3 (zz_Qs (zz_okC_nm o2) g4) (hk rfl _ _ _ g5).1 (hk rfl _ _ _ g5).2
        · exact hrc.elim
  case ireturn =>
    simp only [zz_x] at h
    split at h
    · next v =>
      obtain ⟨ho, hS, hn⟩ := h
      subst ho; subst hS
      intro a1 a2 H locs ls hh hl
      unfold zz_ret at hn
      cases hty : (zz_M j).2.2.2.1 with
      | none =>
        rw [hty] at hok
        have h9 : (none : Option FieldType).isSome = true := hok
        cases h9
      | some ty =>
        rw [hty] at hn hr
        exact W.zret hx hb hr hn (fun t ht hW => ⟨rfl, by rw [ht]; exact zz_rel_moved hW.alike hh.1, fun q hq => by rw [ht]; exact hh.2.1 q hq⟩) hh.2.2 hdec
    · exact h.elim
  case lreturn =>
    simp only [zz_x] at h
    split at h
    · next v =>
      obtain ⟨ho, hS⟩ := h
      subst ho; subst hS
      intro a1 a2 H locs ls hh hl
      exact W.lret hx hb (by rw [hr]; exact of_decide_eq_true hok) (fun t ht hW => ⟨rfl, by rw [ht]; exact zz_rel_moved hW.alike hh.1, fun q hq => by rw [ht]; exact hh.2.1 q hq⟩) hh.2.2 hdec
    · exact h.elim
  case return_ =>
    obtain ⟨hs, ho, hS⟩ := h
    subst hs; subst ho; subst hS
    intro a1 a2 H locs ls hh hl
    exact W.vret hx hb (by rw [hr]; exact of_decide_eq_true hok) (fun t ht hW => ⟨rfl, by rw [ht]; exact zz_rel_moved hW.alike hh.1, fun q hq => by rw [ht]; exact hh.2.1 q hq⟩) hh.2.2 hdec
  all_goals exact False.elim h
theorem zz_go_ok {hs : List (Nat × List Nat)} (hall : ∀ j, ∃ hs, zz_okM hs (zz_M j) = true) (hj : zz_nm j) (hf : zz_fx p s m args meth c E j) {en : Nat} : ∀ (is : List zz_i) (pc : Nat) (lv : zz_Lv) (st : List Value) (S : zz_P), zz_okB hs (zz_M j) en pc is = true → zz_go (zz_Q l E) d j o S' en is lv st S → zz_A p l e s m args below meth c E d j o S0 S' pc lv st S
  | [], pc, lv, st, S, hok, h => by
    have e1 : pc = en := by simpa [zz_okB] using hok
    subst e1
    exact (zz_Qs hj (h : zz_Q l E d j pc lv st S o S')).2 p e s m args below meth c S0 hf
  | q :: is, pc, lv, st, S, hok, h => by
    simp only [zz_okB, Bool.and_eq_true, beq_iff_eq] at hok
    obtain ⟨⟨rfl, hokI⟩, hok⟩ := hok
    refine zz_x_ok (k := zz_go (zz_Q l E) d j o S' en is) hall hj hf hokI (fun ht lv st S hk => ⟨zz_go_mn (fun _ _ _ _ _ _ _ _ h => zz_Qmn h) is lv st S hk, ?_⟩) h
    rw [ht] at hok
    exact zz_go_ok hall hj hf is _ lv st S (by simpa using hok) hk
theorem zz_lookup_mem {α β : Type} [BEq α] [LawfulBEq α] {a : α} {b : β} : ∀ {l : List (α × β)}, l.lookup a = some b → (a, b) ∈ l
  | [], h => by cases h
  | (x, y) :: l, h => by
    rw [List.lookup_cons] at h
    split at h
    · next hx =>
      have : a = x := by simpa using hx
      subst this
      cases h
      exact List.mem_cons_self
    · exact List.mem_cons_of_mem _ (zz_lookup_mem h)
theorem zz_gd2 {lv lv' : zz_Lv} (hl : ∀ (n : Nat) (v : Value), lv'[n]? = some (some v) → lv[n]? = some (some v)) {n : Nat} {v : Value} (h : lv'.getD n none = some v) : lv.getD n none = some v := by
  have := hl n v (zz_getD h)
  rw [List.getD_eq_getElem?_getD, this]
  rfl
theorem zz_mx_lv {g : Int32 → Int32 → Int32} {pc : Nat} {lv lv' : zz_Lv} {st : List Value} {S : zz_P} (hl : ∀ (n : Nat) (v : Value), lv'[n]? = some (some v) → lv[n]? = some (some v)) (h : zz_mx g pc lv' st S o S') : zz_mx g pc lv st S o S' := by
  obtain ⟨h1, h2, h3, h4⟩ := h
  refine ⟨h1, fun e => ?_, fun e => ?_, h4⟩
  · obtain ⟨x, y, a, b, c⟩ := h2 e
    exact ⟨x, y, zz_gd2 hl a, zz_gd2 hl b, c⟩
  · obtain ⟨y, b, c⟩ := h3 e
    exact ⟨y, zz_gd2 hl b, c⟩
theorem zz_Q_cls (hall : ∀ j, ∃ hs, zz_okM hs (zz_M j) = true) : zz_cls (zz_Q l E) := by
  refine ⟨fun d j pc lv st S o S' en is hb hg => ?_, fun d j pc lv lv' st S o S' hl hs => ?_⟩
  · have mn := zz_go_mn (fun _ _ _ _ _ _ _ _ h => zz_Qmn h) is lv st S hg
    by_cases j9 : j = 309
    · subst j9
      unfold zz_Q
      rw [if_pos rfl]
      refine ⟨mn, fun e => ?_, fun e => ?_, fun e => ?_⟩
      · subst e
        have hb : some (9, [((0 : Nat), Jvm.ClassFile.Instr.iload_n 0, 0, 0, 0), (1, .iload_n 1, 0, 0, 0), (2, .if_icmp .lt 7, 0, 0, 0), (5, .iload_n 0, 0, 0, 0), (6, .goto 4, 0, 0, 0)]) = some (en, is) := hb
        cases hb
        obtain ⟨x, hx, hg⟩ := zz_ldI_inv hg
        obtain ⟨y, hy, hg⟩ := zz_ldI_inv hg
        refine ⟨x, y, hx, hy, fun es => ?_⟩
        subst es
        unfold zz_mx9
        by_cases c : x < y
        · rw [if_pos c]
          obtain ⟨y', b1, b2⟩ := (zz_Q9 (l := l) (E := E) (d := d) (hg.1 c)).2.2.1 rfl
          cases Option.some.inj (hy.symm.trans b1)
          exact b2 rfl
        · rw [if_neg c]
          obtain ⟨x', hx', hg⟩ := zz_ldI_inv (hg.2 c)
          cases Option.some.inj (hx.symm.trans hx')
          obtain ⟨w, b1, b2, b3⟩ := (zz_Q9 (l := l) (E := E) (d := d) hg).2.2.2 rfl
          cases b1
          exact ⟨b2, b3⟩
      · subst e
        have hb : some (10, [((9 : Nat), Jvm.ClassFile.Instr.iload_n 1, 0, 0, 0)]) = some (en, is) := hb
        cases hb
        obtain ⟨y, hy, hg⟩ := zz_ldI_inv hg
        refine ⟨y, hy, fun es => ?_⟩
        subst es
        obtain ⟨w, b1, b2, b3⟩ := (zz_Q9 (l := l) (E := E) (d := d) hg).2.2.2 rfl
        cases b1
        exact ⟨b2, b3⟩
      · subst e
        have hb : some (11, [((10 : Nat), Jvm.ClassFile.Instr.ireturn, 0, 0, 0)]) = some (en, is) := hb
        cases hb
        have hg : zz_x (zz_Q l E) d 309 o S' (10, .ireturn, 0, 0, 0) (fun lv st S => zz_Q l E d 309 11 lv st S o S') lv st S := hg
        simp only [zz_x] at hg
        split at hg
        · exact ⟨_, rfl, hg.1, hg.2.1⟩
        · exact hg.elim
    · by_cases j10 : j = 310
      · subst j10
        unfold zz_Q
        rw [if_neg (by decide), if_pos rfl]
        refine ⟨mn, fun e => ?_, fun e => ?_, fun e => ?_⟩
        · subst e
          have hb : some (9, [((0 : Nat), Jvm.ClassFile.Instr.iload_n 0, 0, 0, 0), (1, .iload_n 1, 0, 0, 0), (2, .if_icmp .gt 7, 0, 0, 0), (5, .iload_n 0, 0, 0, 0), (6, .goto 4, 0, 0, 0)]) = some (en, is) := hb
          cases hb
          obtain ⟨x, hx, hg⟩ := zz_ldI_inv hg
          obtain ⟨y, hy, hg⟩ := zz_ldI_inv hg
          refine ⟨x, y, hx, hy, fun es => ?_⟩
          subst es
          unfold zz_mx10
          by_cases c : y < x
          · rw [if_pos c]
            obtain ⟨y', b1, b2⟩ := (zz_Q10 (l := l) (E := E) (d := d) (hg.1 c)).2.2.1 rfl
            cases Option.some.inj (hy.symm.trans b1)
            exact b2 rfl
          · rw [if_neg c]
            obtain ⟨x', hx', hg⟩ := zz_ldI_inv (hg.2 c)
            cases Option.some.inj (hx.symm.trans hx')
            obtain ⟨w, b1, b2, b3⟩ := (zz_Q10 (l := l) (E := E) (d := d) hg).2.2.2 rfl
            cases b1
            exact ⟨b2, b3⟩
        · subst e
          have hb : some (10, [((9 : Nat), Jvm.ClassFile.Instr.iload_n 1, 0, 0, 0)]) = some (en, is) := hb
          cases hb
          obtain ⟨y, hy, hg⟩ := zz_ldI_inv hg
          refine ⟨y, hy, fun es => ?_⟩
          subst es
          obtain ⟨w, b1, b2, b3⟩ := (zz_Q10 (l := l) (E := E) (d := d) hg).2.2.2 rfl
          cases b1
          exact ⟨b2, b3⟩
        · subst e
          have hb : some (11, [((10 : Nat), Jvm.ClassFile.Instr.ireturn, 0, 0, 0)]) = some (en, is) := hb
          cases hb
          have hg : zz_x (zz_Q l E) d 310 o S' (10, .ireturn, 0, 0, 0) (fun lv st S => zz_Q l E d 310 11 lv st S o S') lv st S := hg
          simp only [zz_x] at hg
          split at hg
          · exact ⟨_, rfl, hg.1, hg.2.1⟩
          · exact hg.elim
      · refine zz_Qo ⟨j9, j10⟩ ⟨mn, fun p e s m args below meth c S0 hf => ?_⟩
        have hm := zz_lookup_mem hb
        obtain ⟨hs, hokM⟩ := hall j
        unfold zz_okM at hokM
        rw [Bool.and_eq_true] at hokM
        exact zz_go_ok hall ⟨j9, j10⟩ hf is pc lv st S (List.all_eq_true.mp hokM.2 _ hm) hg
  · by_cases j9 : j = 309
    · subst j9
      have h := zz_mx_lv hl (zz_Q9 hs)
      unfold zz_Q
      rw [if_pos rfl]
      exact h
    · by_cases j10 : j = 310
      · subst j10
        have h := zz_mx_lv hl (zz_Q10 hs)
        unfold zz_Q
        rw [if_neg (by decide), if_pos rfl]
        exact h
      · have hs := zz_Qs ⟨j9, j10⟩ hs
        exact zz_Qo ⟨j9, j10⟩ ⟨hs.1, fun p e s m args below meth c S0 hf a1 a2 H locs ls hh hlv => hs.2 p e s m args below meth c S0 hf a1 a2 H locs ls hh ⟨hlv.1, hlv.2.1, fun i v hv => hlv.2.2 i v (hl i v hv)⟩⟩
/-- THE MACHINE OVER A POOL IS SOUND -/
theorem zz_sound (hall : ∀ j, ∃ hs, zz_okM hs (zz_M j) = true) {pc : Nat} {lv : zz_Lv} {st : List Value} {S : zz_P} (h : zz_run d j pc lv st S o S') (hj : zz_nm j := by refine And.intro ?_ ?_ <;> decide) : zz_sim l E d j pc lv st S o S' := by
  obtain ⟨_, h⟩ := h
  exact zz_Qs hj (h (zz_Q l E) (zz_Q_cls hall))
end SNX
