/-! THE MACHINE OVER A POOL IS SOUND: first the instructions that call nobody -/
def zz_Qc (E : zz_E) (o : Option Value) (S' : zz_P) : Array Value → State → Outcome → State → Prop := fun _ st oc t => oc = .returned (o.map (zz_cv E)) ∧ zz_rel E S' t t.heap ∧ ∀ q, q < zz_bs E → t.heap[q]? = st.heap[q]?
def zz_room (d : Nat) (S0 S' : zz_P) : Room := { frames := d, cells := zz_n S' - zz_n S0, slots := zz_s S' - zz_s S0, locals := 64 * d }
def zz_hp (E : zz_E) (S : zz_P) (s : State) (H : Heap) (locs : List Loc) : Prop := zz_rel E S s H ∧ (∀ q, q < zz_bs E → H[q]? = s.heap[q]?) ∧ ∀ x ∈ locs, zz_bs E ≤ x.base
/-- what is known of a frame of method j -/
def zz_fx (p : Program) (s : State) (m : MethodId) (args : Array Value) (meth : Method) (c : Code) (E : zz_E) (j : Nat) : Prop :=
  p.tables.exec = Jvm.exec ∧ c.code = (zz_M j).2.1 ∧ meth.sig.returnType = (zz_M j).2.2.2.1 ∧ c.maxLocals = zz_ml j ∧ s.vm.findClass (zz_M j).1.cls = some m.cls ∧ (∀ w ∈ zz_G, w.before args s = true) ∧ meth.locks = false ∧ meth.name = (zz_M j).1.name ∧ zz_stc E s
def zz_A (p : Program) (l : Launch) (e : Env) (s : State) (m : MethodId) (args : Array Value) (below : List Frame) (meth : Method) (c : Code) (E : zz_E) (d j : Nat) (o : Option Value) (S0 S' : zz_P) (pc : Nat) (lv : zz_Lv) (st : List Value) (S : zz_P) : Prop :=
  zz_n S0 ≤ zz_n S → zz_s S0 ≤ zz_s S → ∀ (H : Heap) (locs : List Loc) (ls : Array Slot), zz_hp E S s H locs → zz_lvok E ls (zz_ml j) lv → W p l e (zz_room d S0 S') s m args below meth c H locs (zz_n S - zz_n S0) (zz_s S - zz_s S0) (MQ below (zz_Qc E o S') args s (zz_n S' - zz_n S0) (zz_s S' - zz_s S0) (fun q => zz_bs E ≤ q)) (F0 m pc ls (st.map (zz_cv E)))
def zz_mn (S S' : zz_P) : Prop := zz_n S ≤ zz_n S' ∧ zz_s S ≤ zz_s S'
theorem zz_mn_trans {A B C : zz_P} (h : zz_mn A B) (g : zz_mn B C) : zz_mn A C := ⟨Nat.le_trans h.1 g.1, Nat.le_trans h.2 g.2⟩
theorem zz_mn_new {S S' : zz_P} {k n : Nat} (h : zz_mn (zz_new S k n) S') : zz_mn S S' := ⟨Nat.le_trans (Nat.le_succ _) h.1, Nat.le_trans (Nat.le_add_right _ _) h.2⟩
def zz_sim (l : Launch) (E : zz_E) : zz_Pr := fun d j pc lv st S o S' => zz_mn S S' ∧ ∀ p e s m args below meth c S0, zz_fx p s m args meth c E j → zz_A p l e s m args below meth c E d j o S0 S' pc lv st S
theorem zz_getD {lv : zz_Lv} {i : Nat} {v : Value} (hv : lv.getD i none = some v) : lv[i]? = some (some v) := by
  rw [List.getD_eq_getElem?_getD] at hv
  cases hq : lv[i]? with
  | none => rw [hq] at hv; cases hv
  | some x => rw [hq] at hv; exact congrArg some hv
theorem zz_tgt {pc : Nat} {off : Int} (h : 0 ≤ (pc : Int) + off) : (pc : Int) + off = ((zz_t pc off : Nat) : Int) := (Int.toNat_of_nonneg h).symm
theorem zz_lk (dflt x : Int) {P : Int → Prop} (hd : P dflt) : ∀ (ps : List (Int × Int)), (∀ z ∈ ps, P z.2) → P (Op.lookupswitch.offset ps dflt x)
  | [], _ => hd
  | (a, o) :: r, hp => by
    have h1 : P o := hp (a, o) List.mem_cons_self
    have h2 := zz_lk dflt x hd r (fun z hz => hp z (List.mem_cons_of_mem _ hz))
    simp only [Op.lookupswitch.offset]
    split
    · exact h1
    · exact h2
section SND
variable {p : Program} {l : Launch} {e : Env} {s : State} {m : MethodId} {args : Array Value} {below : List Frame} {meth : Method} {c : Code} {E : zz_E} {d j : Nat} {o : Option Value} {S0 S' : zz_P}
/-- a field is read -/
theorem zz_get (hf : zz_fx p s m args meth c E j) {pc x a b cc : Nat} {hs : List Nat} (hok : zz_okF hs (zz_M j).1.cls x a b cc = true) (hdec : decode (zz_M j).2.1 pc = .ok (.getfield x, 3)) {a' : Nat} {S : zz_P} {H : Heap} {locs : List Loc} (hh : zz_hp E S s H locs) (hK : zz_K S a' = a) {R : Room} {cells slots : Nat} {Q : State → Prop} {ls : Array Slot} {rest : List Value}
    (kk : W p l e R s m args below meth c H locs cells slots Q (F0 m (pc + 3) ls (zz_cv E (zz_fv S a' a b) :: rest))) : W p l e R s m args below meth c H locs cells slots Q (F0 m pc ls (.ref (zz_ad E a') :: rest)) := by
  obtain ⟨hx, hb, hr, hml, hown, hG, hlk, hnm, hst⟩ := hf
  unfold zz_okF at hok
  split at hok
  · next q hq =>
    rw [Bool.and_eq_true] at hok
    have hlt : b < q.2.2 := of_decide_eq_true hok.1
    have ha : a < 12 := by
      have := (List.getElem?_eq_some_iff.mp hq).1
      exact this
    obtain ⟨cell, q1, q2, q3, q4⟩ := (hh.1.2.2.2.2.2.2 a').1 (by rw [hK]; exact ha)
    rw [hK] at q2 q4
    obtain ⟨hS, hfc, kC, hkC, hkind⟩ := hst.1.1 a _ hq
    obtain ⟨cf, kf, fi, f, hi, hsl⟩ := hS b hlt
    have hstat := (u_facts hfc hkC (u_lays hG (zz_clIn a q hq) hlt) hi).1
    have hv : cell.slots[f.slot]? = some (zz_cv E (zz_fv S a' a b)) := by
      rw [hsl, q4 b (by rw [← zz_clN a q hq]; exact hlt)]
    have hu : cell.vm ≠ .unknown := by rw [q3]; exact fun h => by cases h
    have h2 := hok.2
    split at h2
    · exact W.getf hx hb hown (hG _ (zz_has_ok h2)) hi hstat q1 hu hv rfl rfl hdec kk
    · exact va_Wgetf hx hb hown (va_Nw.use rfl (hst.2.2.1 _ (zz_has2_ok h2))) hi hstat q1 hu hv rfl rfl hdec kk
  · cases hok
/-- a field is written -/
theorem zz_put (hf : zz_fx p s m args meth c E j) {pc x a b cc : Nat} {hs : List Nat} (hok : zz_okF hs (zz_M j).1.cls x a b cc = true) (hfin : zz_okFin (zz_M j).1.cls (zz_M j).1.name a b cc = true) (hdec : decode (zz_M j).2.1 pc = .ok (.putfield x, 3)) {a' : Nat} {S S2 : zz_P} {H : Heap} {locs : List Loc} (hh : zz_hp E S s H locs) (hK : zz_K S a' = a) {v : Value} (hn : narrow (zz_y a b) (zz_cv E v) = zz_cv E v) (hfit : fits (zz_y a b) (zz_cv E v) = true)
    (e1 : zz_n S2 = zz_n S) (e2 : ∀ b, zz_K S2 b = zz_K S b) (e3 : ∀ b, zz_L S2 b = zz_L S b) (e4 : ∀ b i, b ≠ a' → zz_I S2 b i = zz_I S b i) (e5 : ∀ b i, b ≠ a' → zz_R S2 b i = zz_R S b i) (e6 : ∀ b i, b ≠ a' → zz_J S2 b i = zz_J S b i) (e7 : ∀ i, zz_fv S2 a' a i = if i = b then v else zz_fv S a' a i)
    {R : Room} {cells slots : Nat} {Q : State → Prop} {ls : Array Slot} {rest : List Value}
    (kk : ∀ (H1 : Heap) (locs1 : List Loc), zz_hp E S2 s H1 locs1 → W p l e R s m args below meth c H1 locs1 cells slots Q (F0 m (pc + 3) ls rest)) : W p l e R s m args below meth c H locs cells slots Q (F0 m pc ls (zz_cv E v :: .ref (zz_ad E a') :: rest)) := by
  obtain ⟨hx, hb, hr, hml, hown, hG, hlk, hnm, hst⟩ := hf
  unfold zz_okF at hok
  split at hok
  · next q hq =>
    rw [Bool.and_eq_true] at hok
    have hlt : b < q.2.2 := of_decide_eq_true hok.1
    have ha : a < 12 := (List.getElem?_eq_some_iff.mp hq).1
    obtain ⟨cell, q1, q2, q3, q4⟩ := (hh.1.2.2.2.2.2.2 a').1 (by rw [hK]; exact ha)
    rw [hK, ← zz_clN a q hq] at q4
    rw [hK] at q2
    have hap := va_apart (own := (zz_M j).1.cls) hG (zz_clIn a q hq) (zz_y a) (zz_clTy a q hq) (zz_clNm a q hq) hst.1 hq
    obtain ⟨hS, hfc, kC, hkC, hkind⟩ := hst.1.1 a _ hq
    obtain ⟨cf, kf, fi, f, hi, hsl⟩ := hS b hlt
    have hstat := (u_facts hfc hkC (u_lays hG (zz_clIn a q hq) hlt) hi).1
    have hlay := hG _ (zz_clIn a q hq _ (u_in_lay hlt))
    have hslot : f.slot < cell.slots.size := by rw [hsl]; exact k2_hasslot (q4 b hlt)
    have hd := zz_clTy a q hq b hlt
    have hdyn := zz_dyn hh.1 (a := a') (by rw [hK]; omega)
    have key : ∀ (H1 : Heap), H1[zz_ad E a']? = some (cell.setSlot (E.1.2 a b) (zz_cv E v)) → H1.size = H.size → (∀ q, q ≠ zz_ad E a' → H1[q]? = H[q]?) → zz_hp E S2 s H1 (locs ++ [⟨zz_ad E a', E.1.2 a b⟩]) := by
      intro H1 w1 w2 w3
      have hbig : zz_bs E ≤ zz_ad E a' := by rw [zz_ad_big hdyn]; omega
      refine ⟨zz_rel_set hh.1 (by rw [hK]; omega) e1 e2 e3 e4 e5 e6 w2 w3 ?_, fun q hq => ?_, fun y hy => ?_⟩
      · refine ⟨fun _ => ?_, fun h => ?_, fun h => ?_⟩
        · rw [e2, hK]
          refine ⟨_, w1, q2, q3, ?_⟩
          intro i hi
          rw [← zz_clN a q hq] at hi
          have := t_set q4 hap hlt (zz_cv E v) i hi
          rw [this]
          show some _ = some (zz_cv E (zz_fv S2 a' a i))
          rw [e7 i]
          by_cases e : i = b
          · simp [updV, e]
          · simp [updV, e]
        · rw [e2, hK] at h; omega
        · rw [e2, hK] at h; omega
      · rw [w3 q (by omega)]; exact hh.2.1 q hq
      · rcases List.mem_append.mp hy with h | h
        · exact hh.2.2 y h
        · rw [List.mem_singleton.mp h]; exact hbig
    have h2 := hok.2
    unfold zz_okFin at hfin
    rw [hq] at hfin
    simp only [Bool.or_eq_true, Bool.not_eq_true', Bool.and_eq_true, decide_eq_true_eq] at hfin
    rcases hfin with hfin | ⟨⟨hc0, hin⟩, hdecl⟩
    · unfold u_lay at hlay
      rw [if_neg (by rw [hfin]; decide)] at hlay
      have h6 := u_store hfc hkC hkind hlay hi hd hn hfit
      split at h2
      · refine W.putK hx hb (f := f) ⟨hown, hG _ (zz_has_ok h2), ⟨_, _, _, hi⟩, hstat⟩ (by rw [q2]; exact h6) q1 q3 hslot rfl rfl hdec fun H' w1 w2 w3 => ?_
        rw [hsl] at w1 ⊢
        exact kk H' _ (key H' w1 w2 w3)
      · refine va_WputK hx hb (f := f) hown (va_Nw.use rfl (hst.2.2.1 _ (zz_has2_ok h2))) hi hstat (by rw [q2]; exact h6) q1 q3 hslot rfl rfl hdec fun H' w1 w2 w3 => ?_
        rw [hsl] at w1 ⊢
        exact kk H' _ (key H' w1 w2 w3)
    · rw [if_pos hc0] at h2
      by_cases hff : (q.2.1 b).2.2.2 = true
      · unfold u_lay at hlay
        rw [if_pos hff] at hlay
        have hcf : m.cls = cf := by
          obtain ⟨_, _, c', _, _, _, -, -, hf', -, -, -, hown2, -⟩ := Cond.laysFinal_spec hlay
          have e1 : c' = cf := by have := hi.symm.trans hf'; simp at this; exact this.1.symm
          rw [hdecl] at hown2
          rw [← e1]; exact Option.some.inj (hown.symm.trans hown2)
        have h6 := u_fits hfc hkC hkind (Or.inr hlay) hi hd hn hfit
        refine W.putFinK hx hb hown (hG _ (zz_has_ok h2)) hi hstat hcf (by rw [hnm]; exact hin) (by rw [q2]; exact h6) q1 q3 hslot rfl rfl hdec fun H' w1 w2 w3 => ?_
        rw [hsl] at w1 ⊢
        exact kk H' _ (key H' w1 w2 w3)
      · unfold u_lay at hlay
        rw [if_neg hff] at hlay
        have h6 := u_store hfc hkC hkind hlay hi hd hn hfit
        refine W.putK hx hb (f := f) ⟨hown, hG _ (zz_has_ok h2), ⟨_, _, _, hi⟩, hstat⟩ (by rw [q2]; exact h6) q1 q3 hslot rfl rfl hdec fun H' w1 w2 w3 => ?_
        rw [hsl] at w1 ⊢
        exact kk H' _ (key H' w1 w2 w3)
  · cases hok
theorem zz_arr_of (hst : zz_stc E s) {k : Nat} {ty : FieldType} (h : (E.2.1 k, ty) ∈ zz_tys E.2.1) : ArrOfT s (E.2.1 k) ty := by
  obtain ⟨i, hi⟩ := List.mem_iff_getElem?.mp h
  exact (hst.1.2 i _ hi).1
/-- an array of the pool is written at i -/
theorem zz_aput {S S2 : zz_P} {H H1 : Heap} {locs : List Loc} {a k i : Nat} {v : Value} (hh : zz_hp E S s H locs) (hK : zz_K S a = k) (hk1 : 12 ≤ k) (hk2 : k < 18)
    (e1 : zz_n S2 = zz_n S) (e2 : ∀ b, zz_K S2 b = zz_K S b) (e3 : ∀ b, zz_L S2 b = zz_L S b) (e4 : ∀ b i, b ≠ a → zz_I S2 b i = zz_I S b i) (e5 : ∀ b i, b ≠ a → zz_R S2 b i = zz_R S b i) (e6 : ∀ b i, b ≠ a → zz_J S2 b i = zz_J S b i) (e7 : ∀ x, zz_el S2 a k x = if x = i then v else zz_el S a k x)
    (w1 : H1[zz_ad E a]? = some ((arrV (E.2.1 k) (zz_L S a) (fun i => zz_cv E (zz_el S a k i))).setSlot i (zz_cv E v))) (w2 : H1.size = H.size) (w3 : ∀ q, q ≠ zz_ad E a → H1[q]? = H[q]?) : zz_hp E S2 s H1 (locs ++ [⟨zz_ad E a, i⟩]) := by
  have hdyn := zz_dyn hh.1 (a := a) (by rw [hK]; exact hk2)
  have hbig : zz_bs E ≤ zz_ad E a := by rw [zz_ad_big hdyn]; omega
  refine ⟨zz_rel_set hh.1 (by rw [hK]; exact hk2) e1 e2 e3 e4 e5 e6 w2 w3 ?_, fun q hq => ?_, fun y hy => ?_⟩
  · refine ⟨fun h => ?_, fun _ _ => ?_, fun h => ?_⟩
    · rw [e2, hK] at h; omega
    · rw [e2, e3, hK, w1, arrV_store]
      congr 2
      funext x
      rw [e7 x]
      by_cases e : x = i
      · simp [updV, e]
      · simp [updV, e]
    · rw [e2, hK] at h; omega
  · rw [w3 q (by omega)]; exact hh.2.1 q hq
  · rcases List.mem_append.mp hy with h | h
    · exact hh.2.2 y h
    · rw [List.mem_singleton.mp h]; exact hbig
theorem zz_acell {S : zz_P} {H : Heap} {locs : List Loc} (hh : zz_hp E S s H locs) {a k : Nat} (hK : zz_K S a = k) (hk1 : 12 ≤ k) (hk2 : k < 18) : H[zz_ad E a]? = some (arrV (E.2.1 k) (zz_L S a) (fun i => zz_cv E (zz_el S a k i))) := by
  have := (hh.1.2.2.2.2.2.2 a).2.1 (by rw [hK]; exact hk1) (by rw [hK]; exact hk2)
  rw [hK] at this
  exact this
theorem zz_in_sz {cI : ClassId} {n : Nat} {f : Nat → Value} {i : Int32} (h : vp_in i n) : ¬ (i < 0 ∨ (arrV cI n f).slots.size ≤ i.toNatClampNeg) := by
  rw [arrV_size]; exact h
theorem zz_in_lt {n : Nat} {i : Int32} (h : vp_in i n) : i.toNatClampNeg < n := Nat.not_le.mp fun q => h (Or.inr q)
/-- something new is laid at the end -/
theorem zz_hp_new {S : zz_P} {H H1 : Heap} {locs : List Loc} (hh : zz_hp E S s H locs) {k n : Nat} (hz : H1.size = H.size + 1) (ho : ∀ q, q < H.size → H1[q]? = H[q]?) (hc : zz_cell E s H1 (zz_new S k n) (zz_n S + 2)) : zz_hp E (zz_new S k n) s H1 locs := by
  refine ⟨zz_rel_new hh.1 hz ho hc, fun q hq => ?_, hh.2.2⟩
  rw [ho q (by rw [hh.1.1]; omega)]
  exact hh.2.1 q hq
theorem zz_ad_new {S : zz_P} {H : Heap} {locs : List Loc} (hh : zz_hp E S s H locs) : zz_ad E (zz_n S + 2) = H.size := by
  rw [zz_ad_big (by omega), hh.1.1]; omega
theorem zz_newK (S : zz_P) (k n : Nat) : zz_K (zz_new S k n) (zz_n S + 2) = k := by
  show va_up S.2.2.1 (S.1 + 2) k (S.1 + 2) = k
  simp [va_up]
theorem zz_newL (S : zz_P) (k n : Nat) : zz_L (zz_new S k n) (zz_n S + 2) = n := by
  show va_up S.2.2.2.1 (S.1 + 2) n (S.1 + 2) = n
  simp [va_up]
theorem zz_newI (S : zz_P) (k n i : Nat) : zz_I (zz_new S k n) (zz_n S + 2) i = 0 := by
  show va_up S.2.2.2.2.1 (S.1 + 2) (fun _ => 0) (S.1 + 2) i = 0
  simp [va_up]
theorem zz_newR (S : zz_P) (k n i : Nat) : zz_R (zz_new S k n) (zz_n S + 2) i = none := by
  show va_up S.2.2.2.2.2.1 (S.1 + 2) (fun _ => none) (S.1 + 2) i = none
  simp [va_up]
theorem zz_newJ (S : zz_P) (k n i : Nat) : zz_J (zz_new S k n) (zz_n S + 2) i = 0 := by
  show va_up S.2.2.2.2.2.2 (S.1 + 2) (fun _ => 0) (S.1 + 2) i = 0
  simp [va_up]
end SND
