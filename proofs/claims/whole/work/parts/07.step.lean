/-! NOTHING IS EVER FORGOTTEN OF WHAT WAS MADE -/
theorem zz_call_mn {P : zz_Pr} (hP : ∀ d j pc lv st S o S', P d j pc lv st S o S' → zz_mn S S') {d a b : Nat} {st : List Value} {S S' : zz_P} {k : Option Value → List Value → zz_P → Prop} (hk : ∀ v r S1, k v r S1 → zz_mn S1 S') (H : zz_call P d a b st S k) : zz_mn S S' := by
  cases d with
  | zero => exact False.elim H
  | succ d =>
    obtain ⟨h1, h2, h3, v, S1, h4, h5⟩ := (H : _ ∧ _)
    exact zz_mn_trans (hP _ _ _ _ _ _ _ _ h4) (hk _ _ _ h5)
theorem zz_x_mn {P : zz_Pr} (hP : ∀ d j pc lv st S o S', P d j pc lv st S o S' → zz_mn S S') {d j : Nat} {o : Option Value} {S' : zz_P} {q : zz_i} {k : zz_Lv → List Value → zz_P → Prop} (hk : ∀ lv st S, k lv st S → zz_mn S S') (lv : zz_Lv) (st : List Value) (S : zz_P) (h : zz_x P d j o S' q k lv st S) : zz_mn S S' := by
  obtain ⟨pc, i, a, b, c⟩ := q
  cases i
  case ifCond =>
    obtain ⟨x, r, rfl, h⟩ := zz_i1_inv h
    by_cases hc : zz_c ‹_› x 0
    · exact hP _ _ _ _ _ _ _ _ (h.1 hc)
    · exact hk _ _ _ (h.2 hc)
  case if_icmp =>
    obtain ⟨x, y, r, rfl, h⟩ := zz_ii_inv h
    by_cases hc : zz_c ‹_› x y
    · exact hP _ _ _ _ _ _ _ _ (h.1 hc)
    · exact hk _ _ _ (h.2 hc)
  case goto => exact hP _ _ _ _ _ _ _ _ h
  case tableswitch dflt lo hi offs =>
    obtain ⟨x, r, rfl, h⟩ := zz_i1_inv h
    by_cases hc : x.toInt < lo ∨ hi < x.toInt
    · exact hP _ _ _ _ _ _ _ _ (h.1 hc)
    · obtain ⟨off, h1, h2⟩ := h.2 hc
      exact hP _ _ _ _ _ _ _ _ h2
  case lookupswitch =>
    obtain ⟨x, r, rfl, h⟩ := zz_i1_inv h
    exact hP _ _ _ _ _ _ _ _ h
  case invokevirtual => exact zz_call_mn hP (fun v r S1 h => hk _ _ _ h) h.2
  case invokestatic =>
    simp only [zz_x] at h
    exact zz_call_mn hP (fun v r S1 h => hk _ _ _ h) h
  case invokespecial =>
    simp only [zz_x] at h
    split at h
    · obtain ⟨x, r, rfl, h⟩ := zz_r1_inv h
      exact hk _ _ _ h.2.2
    · exact zz_call_mn hP (fun v r S1 h => hk _ _ _ h) h.2.2
  case putfield =>
    simp only [zz_x] at h
    split at h
    · exact (hk _ _ _ h.2.2.2 : zz_mn (zz_pI _ _ _ _) S')
    · exact (hk _ _ _ h.2.2 : zz_mn (zz_pR _ _ _ _) S')
    · exact h.elim
  case ireturn =>
    simp only [zz_x] at h
    split at h
    · rw [h.2.1]; exact ⟨Nat.le_refl _, Nat.le_refl _⟩
    · exact h.elim
  case lreturn =>
    simp only [zz_x] at h
    split at h
    · rw [h.2]; exact ⟨Nat.le_refl _, Nat.le_refl _⟩
    · exact h.elim
  case return_ =>
    simp only [zz_x] at h
    rw [h.2.2]; exact ⟨Nat.le_refl _, Nat.le_refl _⟩
  case lstore | lstore_n =>
    simp only [zz_x] at h
    split at h
    · exact hk _ _ _ h
    · exact h.elim
  case dup | pop =>
    simp only [zz_x] at h
    split at h
    · exact hk _ _ _ h.2
    · exact h.elim
  case dup_x1 | dup2 =>
    simp only [zz_x] at h
    split at h
    · exact hk _ _ _ h.2.2
    · exact h.elim
  case lastore =>
    simp only [zz_x] at h
    split at h
    · exact (hk _ _ _ h.2.2 : zz_mn (zz_pJ _ _ _ _) S')
    · exact h.elim
  case aastore =>
    simp only [zz_x] at h
    split at h
    · exact (hk _ _ _ h.2.2.2 : zz_mn (zz_pR _ _ _ _) S')
    · exact h.elim
  case iaload | baload | caload | laload | aaload =>
    obtain ⟨i, a, r, rfl, h⟩ := zz_ir_inv h
    exact hk _ _ _ h.2.2
  case iastore | bastore | castore =>
    obtain ⟨x, i, a, r, rfl, h⟩ := zz_iir_inv h
    exact (hk _ _ _ h.2.2 : zz_mn (zz_pI _ _ _ _) S')
  case arraylength =>
    obtain ⟨a, r, rfl, h⟩ := zz_r1_inv h
    exact hk _ _ _ h.2.2
  case newarray | anewarray =>
    obtain ⟨a, r, rfl, h⟩ := zz_i1_inv h
    exact zz_mn_new (hk _ _ _ h.2.2)
  case new => exact zz_mn_new (hk _ _ _ h.2)
  case getfield =>
    obtain ⟨a, r, rfl, h⟩ := zz_r1_inv h
    exact hk _ _ _ h.2
  case idiv | irem =>
    obtain ⟨x, y, r, rfl, h⟩ := zz_ii_inv h
    exact hk _ _ _ h.2
  case ldiv | lrem =>
    obtain ⟨x, y, r, rfl, h⟩ := zz_ll_inv h
    exact hk _ _ _ h.2
  case iload | iload_n | iinc =>
    obtain ⟨x, -, h⟩ := zz_ldI_inv h
    exact hk _ _ _ h
  case lload | lload_n =>
    obtain ⟨x, -, h⟩ := zz_ldL_inv h
    exact hk _ _ _ h
  case aload | aload_n =>
    obtain ⟨x, -, h⟩ := zz_ldR_inv h
    exact hk _ _ _ h
  case istore | istore_n | ineg | i2l | i2b | i2s | i2c =>
    obtain ⟨x, r, rfl, h⟩ := zz_i1_inv h
    exact hk _ _ _ h
  case astore | astore_n =>
    obtain ⟨x, r, rfl, h⟩ := zz_r1_inv h
    exact hk _ _ _ h
  case iadd | isub | imul | iand | ior | ixor | ishl | ishr | iushr =>
    obtain ⟨x, y, r, rfl, h⟩ := zz_ii_inv h
    exact hk _ _ _ h
  case ladd | lmul | lcmp =>
    obtain ⟨x, y, r, rfl, h⟩ := zz_ll_inv h
    exact hk _ _ _ h
  case iconst | bipush | sipush | lconst | ldc | ldc_w | ldc2_w | getstatic => exact hk _ _ _ h
  all_goals exact False.elim h
theorem zz_go_mn {P : zz_Pr} (hP : ∀ d j pc lv st S o S', P d j pc lv st S o S' → zz_mn S S') {d j : Nat} {o : Option Value} {S' : zz_P} {e : Nat} : ∀ (is : List zz_i) (lv : zz_Lv) (st : List Value) (S : zz_P), zz_go P d j o S' e is lv st S → zz_mn S S'
  | [], lv, st, S, h => hP _ _ _ _ _ _ _ _ h
  | _ :: is, lv, st, S, h => zz_x_mn hP (fun lv st S h => zz_go_mn hP is lv st S h) lv st S h
/-! THE CONTRACT OF A METHOD, AND A CALL -/
section SNC
variable {p : Program} {l : Launch} {e : Env} {s : State} {m : MethodId} {args : Array Value} {below : List Frame} {meth : Method} {c : Code} {E : zz_E} {d j : Nat} {o : Option Value} {S0 S' : zz_P}
def zz_Pc (E : zz_E) (vs : List Value) (S : zz_P) : Array Value → State → Prop := fun v U => v = (vs.map (zz_cv E)).toArray ∧ zz_stc E U ∧ zz_rel E S U U.heap
def zz_ws (j : Nat) : List Cond := .code (zz_M j).1 (zz_M j).2.1 (zz_M j).2.2.1 (zz_M j).2.2.2.1 :: zz_G
theorem zz_pc_blind (E : zz_E) (vs : List Value) (S : zz_P) : FrameBlind (zz_Pc E vs S) := fun a U g mk h => ⟨h.1, zz_stc_same (u := U) (U := U.calling g mk a) rfl rfl h.2.1, zz_rel_moved (u := U) (U := U.calling g mk a) (Vm.Alike.refl U.vm) h.2.2⟩
theorem zz_flat (vs : List Value) : ∀ (E : zz_E), lg_sl (vs.map (zz_cv E)) = (vs.flatMap fun v => if v.category = 2 then [some v, none] else [some v]).map fun q => match q with
    | some v => Slot.val (zz_cv E v)
    | none => Slot.second := by
  intro E
  induction vs with
  | nil => rfl
  | cons v vs ih =>
    have e : lg_sl ((v :: vs).map (zz_cv E)) = (if (zz_cv E v).category = 2 then [Slot.val (zz_cv E v), Slot.second] else [Slot.val (zz_cv E v)]) ++ lg_sl (vs.map (zz_cv E)) := rfl
    rw [e, ih, zz_cv_cat, List.flatMap_cons, List.map_append]
    congr 1
    split <;> rfl
theorem zz_flat_len (vs : List Value) : (vs.flatMap fun v => if v.category = 2 then [some v, none] else [some v]).length ≤ (vs.map Value.category).sum := by
  induction vs with
  | nil => exact Nat.le_refl _
  | cons v vs ih =>
    rw [List.flatMap_cons, List.length_append, List.map_cons, List.sum_cons]
    refine Nat.add_le_add ?_ ih
    split
    · next h => rw [h]; exact Nat.le_refl _
    · cases v <;> simp [Value.category]
theorem zz_entry (E : zz_E) (vs : List Value) {n : Nat} (h : (vs.map Value.category).sum ≤ n) : zz_lvok E ((lg_sl (vs.map (zz_cv E)) ++ List.replicate (n - (lg_sl (vs.map (zz_cv E))).length) Slot.unset).toArray) n (zz_ent n vs) := by
  have hl : (lg_sl (vs.map (zz_cv E))).length ≤ n := by
    rw [zz_flat, List.length_map]
    exact Nat.le_trans (zz_flat_len vs) h
  have h0 := lv_entry (vs.map (zz_cv E)) hl
  refine ⟨h0.1, h0.2.1, fun i v hv => ?_⟩
  unfold zz_ent at hv
  rw [List.getElem?_append] at hv
  rw [List.getElem?_toArray, List.getElem?_append]
  have hlen : (lg_sl (vs.map (zz_cv E))).length = (vs.flatMap fun v => if v.category = 2 then [some v, none] else [some v]).length := by rw [zz_flat, List.length_map]
  split at hv
  · next hlt =>
    rw [if_pos (by rw [hlen]; exact hlt), zz_flat, List.getElem?_map, hv]
    rfl
  · rw [List.getElem?_replicate] at hv
    split at hv
    · cases hv
    · cases hv
/-- a method's contract out of its walk -/
theorem zz_met (hpn : plainName (zz_M j).1.cls = true) {vs : List Value} {S : zz_P} (hcat : (vs.map Value.category).sum ≤ zz_ml j) (h : zz_sim l E d j 0 (zz_ent (zz_ml j) vs) [] S o S') : Met l (zz_M j).1 (zz_ws j) (zz_room d S S') (zz_Pc E vs S) (zz_Qc E o S') (zz_n S' - zz_n S) (zz_s S' - zz_s S) (fun q => zz_bs E ≤ q) := by
  refine Met.ofW (cc := (zz_M j).2.1) (maxL := (zz_M j).2.2.1) (ret := (zz_M j).2.2.2.1) hpn rfl ?_
  intro p e s m args below meth c s₁ B hml hv
  obtain ⟨rfl, hst, hrel⟩ := hv
  have hts := atoms_spec (ws := zz_ws j) B.pre
  have hf : zz_fx p s m ((vs.map (zz_cv E)).toArray) meth c E j := ⟨B.exec, B.bytes, B.returns, hml, findClass_of_methodNamed B.named, fun w hw => hts w (List.mem_cons_of_mem _ hw), B.notSynchronized, (name_of_methodNamed B.named B.method).1, hst⟩
  have hA := h.2 p e s m _ below meth c S hf (Nat.le_refl _) (Nat.le_refl _) s.heap [] _ ⟨hrel, fun _ _ => rfl, fun x hx => by cases hx⟩ (zz_entry E vs hcat)
  rw [lg_entry_eq]
  rw [Nat.sub_self, Nat.sub_self] at hA
  exact hA
theorem zz_goodIn {w : List Cond} (h : ∀ x ∈ w, x ∈ zz_G) : GoodIn zz_G w := fun x hx => ⟨h x hx, good_of_word (zz_Ggood (h x hx))⟩
/-- behind a call -/
theorem zz_after {R : Room} {S S1 : zz_P} {H : Heap} {locs : List Loc} {cells slots pc : Nat} {Q : State → Prop} {ls : Array Slot} {st0 rest : List Value} {v : Option Value} {as : Array Value} (hh : zz_hp E S s H locs)
    (hr : va_Run p l e R s m args below meth c H locs cells slots (zz_n S1 - zz_n S) (zz_s S1 - zz_s S) (F0 m pc ls st0) rest (zz_Qc E v S1 as) (fun q => zz_bs E ≤ q))
    (kk : ∀ (H1 : Heap) (locs1 : List Loc), zz_hp E S1 s H1 locs1 → W p l e R s m args below meth c H1 locs1 (cells + (zz_n S1 - zz_n S)) (slots + (zz_s S1 - zz_s S)) Q (F0 m (pc + 3) ls ((v.map (zz_cv E)).toList ++ rest))) : W p l e R s m args below meth c H locs cells slots Q (F0 m pc ls st0) := by
  intro T hT X
  obtain ⟨w, st₀, t, T', L, h0, X', hL, e1, e2, ⟨hv, hrel, hfr⟩, st⟩ := hr T hT X
  have hw : w = v.map (zz_cv E) := by cases hv; rfl
  subst hw
  have hal : s.vm.Alike t.vm := by rw [← e2]; exact X'.warmed.alike
  obtain ⟨t2, a1, b1⟩ := kk T'.heap (locs ++ L) ⟨by rw [e1]; exact zz_rel_moved hal.symm hrel, fun q hq => by rw [e1, hfr q hq, h0]; exact hh.2.1 q hq, fun x hx => by
    rcases List.mem_append.mp hx with h | h
    · exact hh.2.2 x h
    · exact hL x h⟩ T' rfl X'
  exact ⟨t2, st t2 a1, b1⟩
end SNC
