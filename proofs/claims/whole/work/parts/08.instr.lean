/-! EACH INSTRUCTION, AND THE WHOLE PROGRAM -/
section SNI
variable {p : Program} {l : Launch} {e : Env} {s : State} {m : MethodId} {args : Array Value} {below : List Frame} {meth : Method} {c : Code} {E : zz_E} {d j : Nat} {o : Option Value} {S0 S' : zz_P}
theorem zz_okC_ok {hs : List Nat} {a n : Nat} (h : zz_okC hs a n = true) : (.code (zz_M a).1 (zz_M a).2.1 (zz_M a).2.2.1 (zz_M a).2.2.2.1) ∈ zz_G ∧ (zz_M a).2.2.1 ≤ 40 ∧ (zz_M a).1.cls ≠ "java/lang/invoke/MethodHandle" ∧ (zz_M a).1.cls ≠ "java/lang/invoke/VarHandle" ∧ (parseMethodDescriptor (zz_M a).1.desc).map (fun d => d.parameters.length) = some n ∧ Cond.initialized (zz_M a).1.cls ∈ zz_G := by
  unfold zz_okC at h
  simp only [Bool.and_eq_true, decide_eq_true_eq] at h
  obtain ⟨⟨⟨⟨⟨⟨h1, h2⟩, h3⟩, h4⟩, h5⟩, h6⟩, h7⟩ := h
  exact ⟨zz_has_ok h1, h2, h3, h4, h5, zz_has_ok h6⟩
theorem zz_okC_pl {hs : List Nat} {a n : Nat} (h : zz_okC hs a n = true) : plainName (zz_M a).1.cls = true := by
  unfold zz_okC at h
  rw [Bool.and_eq_true] at h
  exact h.2
/-- a method that isn't one of the two of Math -/
def zz_nm (j : Nat) : Prop := ¬ j = 309 ∧ ¬ j = 310
theorem zz_pl9 : plainName (zz_M 309).1.cls = false := by decide +kernel
theorem zz_pl10 : plainName (zz_M 310).1.cls = false := by decide +kernel
theorem zz_okC_nm {hs : List Nat} {a n : Nat} (h : zz_okC hs a n = true) : zz_nm a := by
  have h := zz_okC_pl h
  refine ⟨fun e => ?_, fun e => ?_⟩
  · rw [e, zz_pl9] at h; cases h
  · rw [e, zz_pl10] at h; cases h
theorem zz_ws_good {hs : List Nat} {a n : Nat} (h : zz_okC hs a n = true) : GoodIn zz_G (zz_ws a) := zz_goodIn (fun x hx => by
  rcases List.mem_cons.mp hx with rfl | q
  · exact (zz_okC_ok h).1
  · exact q)
theorem zz_roomR {hs : List Nat} {a n : Nat} (h : zz_okC hs a n = true) {S S1 : zz_P} : (zz_room d S S1).frames + 1 ≤ (zz_room (d + 1) S0 S').frames ∧ 8 + ((zz_M a).2.2.1 + 11) + (zz_room d S S1).locals ≤ (zz_room (d + 1) S0 S').locals := by
  have := (zz_okC_ok h).2.1
  refine ⟨Nat.le_refl _, ?_⟩
  show 8 + ((zz_M a).2.2.1 + 11) + 64 * d ≤ 64 * (d + 1)
  omega
/-- how the counts go on behind a call -/
theorem zz_cnt {S S1 : zz_P} (h0 : zz_n S0 ≤ zz_n S) (h1 : zz_s S0 ≤ zz_s S) (hm : zz_mn S S1) : zz_n S - zz_n S0 + (zz_n S1 - zz_n S) = zz_n S1 - zz_n S0 ∧ zz_s S - zz_s S0 + (zz_s S1 - zz_s S) = zz_s S1 - zz_s S0 := by
  obtain ⟨a, b⟩ := hm
  omega
/-- the room that a call asks -/
theorem zz_fit_room {S S1 : zz_P} {d' : Nat} (h0 : zz_n S0 ≤ zz_n S) (h1 : zz_s S0 ≤ zz_s S) (hm : zz_mn S S1) (hm2 : zz_mn S1 S') : zz_n S - zz_n S0 + (zz_n S1 - zz_n S) ≤ (zz_room d' S0 S').cells ∧ zz_s S - zz_s S0 + (zz_s S1 - zz_s S) ≤ (zz_room d' S0 S').slots := by
  obtain ⟨a, b⟩ := hm
  obtain ⟨a2, b2⟩ := hm2
  show _ ≤ zz_n S' - zz_n S0 ∧ _ ≤ zz_s S' - zz_s S0
  omega
/-- the callee's start -/
theorem zz_pre (hst : zz_stc E s) {S : zz_P} {H : Heap} {locs : List Loc} (hh : zz_hp E S s H locs) (vs : List Value) : ∀ U : State, U.heap = H → s.WarmedH U.vm → zz_Pc E vs S (vs.map (zz_cv E)).toArray U := fun U hU hW =>
  ⟨rfl, zz_stc_moved hW (fun q hq => by rw [hU]; exact hh.2.1 q hq) hst, by rw [hU]; exact zz_rel_moved hW.alike hh.1⟩
theorem zz_split (st : List Value) (b : Nat) (E : zz_E) : st.map (zz_cv E) = (((st.take b).reverse).map (zz_cv E)).reverse ++ (st.drop b).map (zz_cv E) := by
  rw [List.map_reverse, List.reverse_reverse, ← List.map_append, List.take_append_drop]
theorem zz_catr (st : List Value) (b : Nat) : (((st.take b).reverse).map Value.category).sum = ((st.take b).map Value.category).sum := by
  rw [List.map_reverse, List.sum_reverse]
theorem zz_invS (hf : zz_fx p s m args meth c E j) (hall : ∀ j, ∃ hs, zz_okM hs (zz_M j) = true) {pc x a b : Nat} {hs : List Nat} (hokC : zz_okC hs a b = true) (hl1 : Cond.methodLink (zz_M j).1.cls x (zz_M a).1 ∈ zz_G) (hl2 : Cond.static (zz_M a).1 ∈ zz_G) (hdec : decode (zz_M j).2.1 pc = .ok (.invokestatic x, 3)) {lv : zz_Lv} {st : List Value} {S S1 : zz_P} {v : Option Value} (hb : b ≤ st.length) (hc1 : ((st.take b).map Value.category).sum ≤ zz_ml a) (hc2 : ((st.drop b).map Value.category).sum ≤ 8) (hcal : zz_sim l E d a 0 (zz_ent (zz_ml a) (st.take b).reverse) [] S v S1) (hm : zz_mn S1 S')
    (hk : zz_A p l e s m args below meth c E (d + 1) j o S0 S' (pc + 3) lv (v.toList ++ st.drop b) S1) : zz_A p l e s m args below meth c E (d + 1) j o S0 S' pc lv st S := by
  obtain ⟨hx, hbb, hr, hml, hown, hG, hlk, hnm, hst⟩ := hf
  intro h0 h1 H locs ls hh hl
  have hM := zz_met (l := l) (E := E) (zz_okC_pl hokC) (by rw [zz_catr]; exact hc1) hcal
  have hq := zz_okC_ok hokC
  have hn : ((st.take b).reverse.map (zz_cv E)).length = b := by simp [Nat.min_eq_left hb]
  have cb := callB_of (s := s) (args := args) (own := (zz_M j).1.cls) (index := x) (R := zz_room (d + 1) S0 S') (rm := zz_room d S S1) b hG (zz_ws_good hokC) (rfl : zz_ws a = _ :: zz_G) rfl rfl (hG _ hq.2.2.2.2.2) (hG _ hl1) ⟨hq.2.2.1, hq.2.2.2.1, hq.2.2.2.2.1⟩ (zz_roomR hokC)
  refine zz_after hh (va_runS (cc := (zz_M j).2.1) (nL := zz_ml j) (g := F0 m pc ls (st.map (zz_cv E))) (As := (st.take b).reverse.map (zz_cv E)) (rest := (st.drop b).map (zz_cv E)) ⟨hx, hbb, hml, hown, hG⟩ hM ⟨cb, hG _ hl2⟩ ⟨zz_pc_blind E _ S, zz_pre hst hh _⟩ rfl hn hl.1 (zz_split st b E) (lv_room (by rw [zz_cv_cats]; exact hc2)) hdec (zz_fit_room h0 h1 hcal.1 hm)) (fun H1 locs1 hh1 => ?_)
  rw [(zz_cnt h0 h1 hcal.1).1, (zz_cnt h0 h1 hcal.1).2]
  have := hk (Nat.le_trans h0 hcal.1.1) (Nat.le_trans h1 hcal.1.2) H1 locs1 ls hh1 hl
  have e : (v.toList ++ st.drop b).map (zz_cv E) = (v.map (zz_cv E)).toList ++ (st.drop b).map (zz_cv E) := by
    rw [List.map_append]; cases v <;> rfl
  rw [e] at this
  exact this
theorem zz_hd (st : List Value) (b : Nat) (hb1 : 1 ≤ b) (hb : b ≤ st.length) {r : Value} {ts : List Value} (h : (st.take b).reverse = r :: ts) (E : zz_E) : st.map (zz_cv E) = (ts.map (zz_cv E)).reverse ++ zz_cv E r :: (st.drop b).map (zz_cv E) ∧ ts.length = b - 1 := by
  have e := zz_split st b E
  rw [h, List.map_cons, List.reverse_cons, List.append_assoc] at e
  refine ⟨e, ?_⟩
  have := congrArg List.length h
  simp [Nat.min_eq_left hb] at this
  omega
/-- the receiver's class -/
theorem zz_recv (hst : zz_stc E s) {S : zz_P} {H : Heap} {locs : List Loc} (hh : zz_hp E S s H locs) {r k : Nat} {q : vw_C} (hq : zz_cl[k]? = some q) (hK : zz_K S r = k) : ∃ cellB : Cell, H[zz_ad E r]? = some cellB ∧ cellB.vm.isStatics = false ∧ s.vm.findClass q.1 = some cellB.cls := by
  have hk : k < 12 := (List.getElem?_eq_some_iff.mp hq).1
  obtain ⟨cell, q1, q2, q3, q4⟩ := (hh.1.2.2.2.2.2.2 r).1 (by rw [hK]; exact hk)
  rw [hK] at q2
  exact ⟨cell, q1, by rw [q3]; rfl, by rw [q2]; exact (hst.1.1 k q hq).2.1⟩
theorem zz_invV (hf : zz_fx p s m args meth c E j) (hall : ∀ j, ∃ hs, zz_okM hs (zz_M j) = true) {pc x a b k : Nat} (hb1 : 1 ≤ b) {hs : List Nat} (hokC : zz_okC hs a (b - 1) = true) (hokV : (zz_okV hs (zz_M j).1.cls x a k || zz_okU hs (zz_M j).1.cls x a k (zz_xc k) || zz_okU hs (zz_M j).1.cls x a k zz_rdr) = true) (hdec : decode (zz_M j).2.1 pc = .ok (.invokevirtual x, 3)) {lv : zz_Lv} {st : List Value} {S S1 : zz_P} {v : Option Value} {r : Nat} {ts : List Value} (hr : (st.take b).reverse = .ref r :: ts) (hK : zz_K S r = k) (hb : b ≤ st.length) (hc1 : ((st.take b).map Value.category).sum ≤ zz_ml a) (hc2 : ((st.drop b).map Value.category).sum ≤ 8) (hcal : zz_sim l E d a 0 (zz_ent (zz_ml a) (st.take b).reverse) [] S v S1) (hm : zz_mn S1 S')
    (hk : zz_A p l e s m args below meth c E (d + 1) j o S0 S' (pc + 3) lv (v.toList ++ st.drop b) S1) : zz_A p l e s m args below meth c E (d + 1) j o S0 S' pc lv st S := by
  obtain ⟨hx, hbb, hrr, hml, hown, hG, hlk, hnm, hst⟩ := hf
  intro h0 h1 H locs ls hh hl
  have hM := zz_met (l := l) (E := E) (zz_okC_pl hokC) (by rw [zz_catr]; exact hc1) hcal
  have hq := zz_okC_ok hokC
  obtain ⟨e1, e2⟩ := zz_hd st b hb1 hb hr E
  have hpre := zz_pre hst hh (st.take b).reverse
  rw [hr] at hM hpre
  have hn : (ts.map (zz_cv E)).length = b - 1 := by rw [List.length_map]; exact e2
  have fin : va_Run p l e (zz_room (d + 1) S0 S') s m args below meth c H locs (zz_n S - zz_n S0) (zz_s S - zz_s S0) (zz_n S1 - zz_n S) (zz_s S1 - zz_s S) (F0 m pc ls (st.map (zz_cv E))) ((st.drop b).map (zz_cv E)) (zz_Qc E v S1 (Value.ref (zz_ad E r) :: ts.map (zz_cv E)).toArray) (fun q => zz_bs E ≤ q) := by
    have hroom := zz_roomR (d := d) (S0 := S0) (S' := S') hokC (S := S) (S1 := S1)
    rw [Bool.or_eq_true, Bool.or_eq_true] at hokV
    have useU : ∀ xc : String, zz_okU hs (zz_M j).1.cls x a k xc = true → va_Run p l e (zz_room (d + 1) S0 S') s m args below meth c H locs (zz_n S - zz_n S0) (zz_s S - zz_s S0) (zz_n S1 - zz_n S) (zz_s S1 - zz_s S) (F0 m pc ls (st.map (zz_cv E))) ((st.drop b).map (zz_cv E)) (zz_Qc E v S1 (Value.ref (zz_ad E r) :: ts.map (zz_cv E)).toArray) (fun q => zz_bs E ≤ q) := by
      intro xc hU
      unfold zz_okU at hU
      split at hU
      · next q hcl =>
        simp only [Bool.and_eq_true] at hU
        obtain ⟨⟨⟨⟨u1, u2⟩, u3⟩, u4⟩, u5⟩ := hU
        have hgood : GoodIn zz_G (va_wsU (zz_M j).1.cls x q.1 zz_rdr ⟨xc, (zz_M a).1.name, (zz_M a).1.desc⟩ (zz_M a).1 (zz_ws a)) := by
          refine zz_goodIn (fun w hw => ?_)
          rcases List.mem_append.mp hw with hw | hw
          · simp only [List.mem_cons, List.not_mem_nil, or_false] at hw
            rcases hw with rfl | rfl | rfl | rfl | rfl
            · exact zz_has_ok u1
            · exact zz_has_ok u2
            · exact zz_has_ok u4
            · exact zz_has_ok u5
            · exact hq.2.2.2.2.2
          · exact (zz_ws_good hokC w hw).1
        have cu := va_cwA (s := s) (args := args) (R := zz_room (d + 1) S0 S') (rm := zz_room d S S1) (ws' := zz_G) (bytes := (zz_M a).2.1) (maxL := (zz_M a).2.2.1) (ret := (zz_M a).2.2.2.1) (b - 1) hG hgood rfl rfl rfl (hst.2.2.1 _ (zz_has2_ok u3)) ⟨by decide, by decide, hq.2.2.2.2.1⟩ hroom
        exact va_runU (cc := (zz_M j).2.1) (nL := zz_ml j) (g := F0 m pc ls (st.map (zz_cv E))) (b := zz_ad E r) (As := ts.map (zz_cv E)) (rest := (st.drop b).map (zz_cv E)) ⟨hx, hbb, hml, hown, hG⟩ hM cu ⟨zz_pc_blind E _ S, zz_recv hst hh hcl hK, hpre⟩ rfl hn hl.1 e1 (lv_room (by rw [zz_cv_cats]; exact hc2)) hdec (zz_fit_room h0 h1 hcal.1 hm)
      · cases hU
    rcases hokV with (hV | hU) | hU
    · unfold zz_okV at hV
      split at hV
      · next q hcl =>
        simp only [Bool.and_eq_true, decide_eq_true_eq] at hV
        obtain ⟨⟨⟨v1, v2⟩, v3⟩, v4⟩ := hV
        have cb := callB_of (s := s) (args := args) (own := (zz_M j).1.cls) (index := x) (R := zz_room (d + 1) S0 S') (rm := zz_room d S S1) (b - 1) hG (zz_ws_good hokC) (rfl : zz_ws a = _ :: zz_G) rfl rfl (hG _ hq.2.2.2.2.2) (hG _ (zz_has_ok v2)) ⟨hq.2.2.1, hq.2.2.2.1, hq.2.2.2.2.1⟩ hroom
        exact va_runV (C := q.1) (cc := (zz_M j).2.1) (nL := zz_ml j) (g := F0 m pc ls (st.map (zz_cv E))) (b := zz_ad E r) (As := ts.map (zz_cv E)) (rest := (st.drop b).map (zz_cv E)) ⟨hx, hbb, hml, hown, hG⟩ hM ⟨cb, hG _ (zz_has_ok v3), hG _ (zz_has_ok v4)⟩ ⟨zz_pc_blind E _ S, zz_recv hst hh hcl hK, hpre⟩ rfl hn hl.1 e1 (lv_room (by rw [zz_cv_cats]; exact hc2)) hdec (zz_fit_room h0 h1 hcal.1 hm)
      · cases hV
    · exact useU _ hU
    · exact useU _ hU
  refine zz_after hh fin (fun H1 locs1 hh1 => ?_)
  rw [(zz_cnt h0 h1 hcal.1).1, (zz_cnt h0 h1 hcal.1).2]
  have := hk (Nat.le_trans h0 hcal.1.1) (Nat.le_trans h1 hcal.1.2) H1 locs1 ls hh1 hl
  have e : (v.toList ++ st.drop b).map (zz_cv E) = (v.map (zz_cv E)).toList ++ (st.drop b).map (zz_cv E) := by
    rw [List.map_append]; cases v <;> rfl
  rw [e] at this
  exact this
theorem zz_invI (hf : zz_fx p s m args meth c E j) (hall : ∀ j, ∃ hs, zz_okM hs (zz_M j) = true) {pc x a b cc : Nat} (hb1 : 1 ≤ b) {hs : List Nat} (hokC : zz_okC hs a (b - 1) = true) (hname : (zz_M a).1.name = "<init>") (hret : (zz_M a).2.2.2.1 = none) (hin : Cond.instanceMethod (zz_M a).1 ∈ zz_G) (hlink : (if cc = 0 then zz_has (hs.getD 2 0) (.methodLink (zz_M j).1.cls x (zz_M a).1) else zz_has2 (hs.getD 2 0) (.methodLinkNest (zz_M j).1.cls x (zz_M a).1 "OneStageTwoPlays")) = true) (hdec : decode (zz_M j).2.1 pc = .ok (.invokespecial x, 3)) {lv : zz_Lv} {st : List Value} {S S1 : zz_P} {v : Option Value} {r : Nat} {ts : List Value} (hr : (st.take b).reverse = .ref r :: ts) (hb : b ≤ st.length) (hc1 : ((st.take b).map Value.category).sum ≤ zz_ml a) (hc2 : ((st.drop b).map Value.category).sum ≤ 8) (hcal : zz_sim l E d a 0 (zz_ent (zz_ml a) (st.take b).reverse) [] S v S1) (hm : zz_mn S1 S')
    (hk : zz_A p l e s m args below meth c E (d + 1) j o S0 S' (pc + 3) lv (v.toList ++ st.drop b) S1) : zz_A p l e s m args below meth c E (d + 1) j o S0 S' pc lv st S := by
  obtain ⟨hx, hbb, hrr, hml, hown, hG, hlk, hnm, hst⟩ := hf
  intro h0 h1 H locs ls hh hl
  have hM := zz_met (l := l) (E := E) (zz_okC_pl hokC) (by rw [zz_catr]; exact hc1) hcal
  have hq := zz_okC_ok hokC
  obtain ⟨e1, e2⟩ := zz_hd st b hb1 hb hr E
  have hpre := zz_pre hst hh (st.take b).reverse
  rw [hr] at hM hpre
  have hn : (ts.map (zz_cv E)).length = b - 1 := by rw [List.length_map]; exact e2
  have hroom := zz_roomR (d := d) (S0 := S0) (S' := S') hokC (S := S) (S1 := S1)
  have hws : zz_ws a = Cond.code (zz_M a).1 (zz_M a).2.1 (zz_M a).2.2.1 none :: zz_G := by rw [zz_ws, hret]
  have fin : va_Run p l e (zz_room (d + 1) S0 S') s m args below meth c H locs (zz_n S - zz_n S0) (zz_s S - zz_s S0) (zz_n S1 - zz_n S) (zz_s S1 - zz_s S) (F0 m pc ls (st.map (zz_cv E))) ((st.drop b).map (zz_cv E)) (zz_Qc E v S1 (Value.ref (zz_ad E r) :: ts.map (zz_cv E)).toArray) (fun q => zz_bs E ≤ q) := by
    split at hlink
    · have cb := callB_of (s := s) (args := args) (own := (zz_M j).1.cls) (index := x) (R := zz_room (d + 1) S0 S') (rm := zz_room d S S1) (b - 1) hG (zz_ws_good hokC) hws rfl rfl (hG _ hq.2.2.2.2.2) (hG _ (zz_has_ok hlink)) ⟨hq.2.2.1, hq.2.2.2.1, hq.2.2.2.2.1⟩ hroom
      exact va_runI (cc := (zz_M j).2.1) (nL := zz_ml j) (g := F0 m pc ls (st.map (zz_cv E))) (b := zz_ad E r) (As := ts.map (zz_cv E)) (rest := (st.drop b).map (zz_cv E)) ⟨hx, hbb, hml, hown, hG⟩ hM ⟨cb, hname, hG _ hin⟩ ⟨zz_pc_blind E _ S, hpre⟩ rfl hn hl.1 e1 (lv_room (by rw [zz_cv_cats]; exact hc2)) hdec (zz_fit_room h0 h1 hcal.1 hm)
    · have cb := va_cnB (s := s) (args := args) (own := (zz_M j).1.cls) (index := x) (R := zz_room (d + 1) S0 S') (rm := zz_room d S S1) (b - 1) hG (zz_ws_good hokC) hws rfl rfl (hst.2.2.1 _ (zz_has2_ok hlink)) (hG _ hq.2.2.2.2.2) ⟨hq.2.2.1, hq.2.2.2.1, hq.2.2.2.2.1⟩ hroom
      exact va_runIN (cc := (zz_M j).2.1) (nL := zz_ml j) (g := F0 m pc ls (st.map (zz_cv E))) (b := zz_ad E r) (As := ts.map (zz_cv E)) (rest := (st.drop b).map (zz_cv E)) ⟨hx, hbb, hml, hown, hG⟩ hM ⟨cb, hname, hG _ hin⟩ ⟨zz_pc_blind E _ S, hpre⟩ rfl hn hl.1 e1 (lv_room (by rw [zz_cv_cats]; exact hc2)) hdec (zz_fit_room h0 h1 hcal.1 hm)
  refine zz_after hh fin (fun H1 locs1 hh1 => ?_)
  rw [(zz_cnt h0 h1 hcal.1).1, (zz_cnt h0 h1 hcal.1).2]
  have := hk (Nat.le_trans h0 hcal.1.1) (Nat.le_trans h1 hcal.1.2) H1 locs1 ls hh1 hl
  have e : (v.toList ++ st.drop b).map (zz_cv E) = (v.map (zz_cv E)).toList ++ (st.drop b).map (zz_cv E) := by
    rw [List.map_append]; cases v <;> rfl
  rw [e] at this
  exact this
end SNI
