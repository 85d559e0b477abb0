/-! THE LAW'S OWN HELPERS, where the class throws; and their calls in the law -/
theorem zd_315_0 : decode (zz_M 315).2.1 0 = .ok (.aload_n 3, 1) := by decide +kernel
theorem zd_315_1 : decode (zz_M 315).2.1 1 = .ok (.iconst 0, 1) := by decide +kernel
theorem zd_315_2 : decode (zz_M 315).2.1 2 = .ok (.aload_n 0, 1) := by decide +kernel
theorem zd_315_3 : decode (zz_M 315).2.1 3 = .ok (.iload_n 1, 1) := by decide +kernel
theorem zd_315_4 : decode (zz_M 315).2.1 4 = .ok (.iload_n 2, 1) := by decide +kernel
theorem zd_315_5 : decode (zz_M 315).2.1 5 = .ok (.invokevirtual 7, 3) := by decide +kernel
theorem zx_L315 {l : Launch} {E : zz_E} {d : Nat} (hall : ∀ j, ∃ hs, zz_okM hs (zz_M j) = true) {F : zz_F} {I : Nat → Nat → Int32} {J : Nat → Nat → Int64} {x y : Int32} {Qc : Array Value → State → Outcome → State → Prop} (hno : ∀ a0 s0 t0 v0, ¬ Qc a0 s0 (.returned v0) t0) (hM : vx_Met l (zz_M 138).1 (zz_ws 138) (zz_room d (zz_S F I J) (zx_b (zz_S F I J))) (zz_Pc E [.ref 2, .int x, .int y] (zz_S F I J)) Qc (zx_XC E (zx_b (zz_S F I J))) 1 6 (fun q => zz_bs E ≤ q)) : Met l (zz_M 315).1 (zx_wsW 315 [(0, 10, 13, 13)]) (zz_room (d + 1) (zz_S F I J) (zx_b (zz_S F I J))) (zz_Pc E [.ref 2, .int x, .int y, .ref 83] (zz_S F I J)) (zz_Qc E (some (.int 1)) (zx_b (zz_S F I J))) (zz_n (zx_b (zz_S F I J)) - zz_n (zz_S F I J)) (zz_s (zx_b (zz_S F I J)) - zz_s (zz_S F I J)) (fun q => zz_bs E ≤ q) := by
  refine va_MetW (cc := (zz_M 315).2.1) (maxL := 5) (ret := some .int) (hh := [(0, 10, 13, 13)]) (by decide) rfl ?_
  intro p e s m args below meth c s₁ B hml hv
  obtain ⟨rfl, hst, hrel⟩ := hv
  have hts := atoms_spec (ws := zx_wsW 315 [(0, 10, 13, 13)]) B.pre
  have hf : zz_fx p s m (([.ref 2, .int x, .int y, .ref 83] : List Value).map (zz_cv E)).toArray meth c E 315 := ⟨B.exec, B.bytes, B.returns, hml, findClass_of_methodNamed B.named, fun w hw => hts w (List.mem_cons_of_mem _ hw), B.notSynchronized, (name_of_methodNamed B.named B.method).1, hst⟩
  have htab := vx_table (x := (zz_M 315).1) B (hts _ List.mem_cons_self)
  have hlv := zz_entry E [.ref 2, .int x, .int y, .ref 83] (n := 5) (Nat.le_of_ble_eq_true rfl)
  rw [lg_entry_eq]
  generalize (lg_sl (([.ref 2, .int x, .int y, .ref 83] : List Value).map (zz_cv E)) ++ List.replicate (5 - (lg_sl (([.ref 2, .int x, .int y, .ref 83] : List Value).map (zz_cv E))).length) Slot.unset).toArray = ls at hlv ⊢
  have hx := B.exec
  have hb : c.code = (zz_M 315).2.1 := B.bytes
  have hh : zz_hp E (zz_S F I J) s s.heap [] := ⟨hrel, fun _ _ => rfl, fun x hx => by cases hx⟩
  refine lv_aload_n hx hb zd_315_0 rfl (zz_lv_get hlv (i := 3) (v := .ref 83) rfl) ?_
  refine lv_iconst hx hb zd_315_1 rfl ?_
  refine lv_aload_n hx hb zd_315_2 rfl (zz_lv_get hlv (i := 0) (v := .ref 2) rfl) ?_
  refine lv_iload_n hx hb zd_315_3 rfl (zz_lv_get hlv (i := 1) (v := .int x) rfl) ?_
  refine lv_iload_n hx hb zd_315_4 rfl (zz_lv_get hlv (i := 2) (v := .int y) rfl) ?_
  refine zx_caught hf rfl (lo := 0) (hi := 10) (hp := 13) htab (pc := 5) (by decide) (by decide) (b := 3) (a := 138) (k := 10) (by decide) (hs := [1263, 109, 1260, 1261, 1262]) (by decide +kernel) (by decide +kernel) zd_315_5 (st := [.int y, .int x, .ref 2, .int 0, .ref 83]) (r := 2) (ts := [.int x, .int y]) rfl rfl (Nat.le_of_ble_eq_true rfl) (Nat.le_of_ble_eq_true rfl) hno hM hh hlv (fun H1 locs1 q9 hh1 => ?_)
  have hA : ∀ (ls' : Array Slot), W p l e (zz_room (d + 1) (zz_S F I J) (zx_b (zz_S F I J))) s m (([.ref 2, .int x, .int y, .ref 83] : List Value).map (zz_cv E)).toArray below meth c H1 locs1 1 6 (MQ below (zz_Qc E (some (.int 1)) (zx_b (zz_S F I J))) (([.ref 2, .int x, .int y, .ref 83] : List Value).map (zz_cv E)).toArray s (zz_n (zx_b (zz_S F I J)) - zz_n (zz_S F I J)) (zz_s (zx_b (zz_S F I J)) - zz_s (zz_S F I J)) (fun q => zz_bs E ≤ q)) (F0 m 16 ls' [.int 1]) := fun ls' => by
    have e1 : zz_n (zx_b (zz_S F I J)) - zz_n (zz_S F I J) = 1 := by show F.1 + 1 - F.1 = 1; omega
    have e2 : zz_s (zx_b (zz_S F I J)) - zz_s (zz_S F I J) = 6 := by show F.2.1 + 6 - F.2.1 = 6; omega
    rw [e1, e2]
    exact W.zret hx hb (show meth.sig.returnType = some .int from B.returns) rfl (fun t ht hW => ⟨rfl, by rw [ht]; exact zz_rel_moved hW.alike hh1.1, fun q hq => by rw [ht]; exact hh1.2.1 q hq⟩) hh1.2.2 (show decode (zz_M 315).2.1 16 = .ok (.ireturn, 1) by decide +kernel)
  refine lv_astore hx hb (show decode (zz_M 315).2.1 13 = .ok (.astore 4, 2) by decide +kernel) (zz_al_has hlv) (by decide) rfl (fun ls' _ => ?_)
  refine lv_iconst hx hb (show decode (zz_M 315).2.1 15 = .ok (.iconst 1, 1) by decide +kernel) rfl ?_
  exact hA ls'
theorem zd_316_0 : decode (zz_M 316).2.1 0 = .ok (.aload_n 3, 1) := by decide +kernel
theorem zd_316_1 : decode (zz_M 316).2.1 1 = .ok (.iconst 0, 1) := by decide +kernel
theorem zd_316_2 : decode (zz_M 316).2.1 2 = .ok (.aload_n 0, 1) := by decide +kernel
theorem zd_316_3 : decode (zz_M 316).2.1 3 = .ok (.iload_n 1, 1) := by decide +kernel
theorem zd_316_4 : decode (zz_M 316).2.1 4 = .ok (.iload_n 2, 1) := by decide +kernel
theorem zd_316_5 : decode (zz_M 316).2.1 5 = .ok (.invokevirtual 15, 3) := by decide +kernel
theorem zx_L316 {l : Launch} {E : zz_E} {d : Nat} (hall : ∀ j, ∃ hs, zz_okM hs (zz_M j) = true) {F : zz_F} {I : Nat → Nat → Int32} {J : Nat → Nat → Int64} {x y : Int32} {Qc : Array Value → State → Outcome → State → Prop} (hno : ∀ a0 s0 t0 v0, ¬ Qc a0 s0 (.returned v0) t0) (hM : vx_Met l (zz_M 139).1 (zz_ws 139) (zz_room d (zz_S F I J) (zx_b (zz_S F I J))) (zz_Pc E [.ref 2, .int x, .int y] (zz_S F I J)) Qc (zx_XC E (zx_b (zz_S F I J))) 1 6 (fun q => zz_bs E ≤ q)) : Met l (zz_M 316).1 (zx_wsW 316 [(0, 10, 13, 13)]) (zz_room (d + 1) (zz_S F I J) (zx_b (zz_S F I J))) (zz_Pc E [.ref 2, .int x, .int y, .ref 83] (zz_S F I J)) (zz_Qc E (some (.int 1)) (zx_b (zz_S F I J))) (zz_n (zx_b (zz_S F I J)) - zz_n (zz_S F I J)) (zz_s (zx_b (zz_S F I J)) - zz_s (zz_S F I J)) (fun q => zz_bs E ≤ q) := by
  refine va_MetW (cc := (zz_M 316).2.1) (maxL := 5) (ret := some .int) (hh := [(0, 10, 13, 13)]) (by decide) rfl ?_
  intro p e s m args below meth c s₁ B hml hv
  obtain ⟨rfl, hst, hrel⟩ := hv
  have hts := atoms_spec (ws := zx_wsW 316 [(0, 10, 13, 13)]) B.pre
  have hf : zz_fx p s m (([.ref 2, .int x, .int y, .ref 83] : List Value).map (zz_cv E)).toArray meth c E 316 := ⟨B.exec, B.bytes, B.returns, hml, findClass_of_methodNamed B.named, fun w hw => hts w (List.mem_cons_of_mem _ hw), B.notSynchronized, (name_of_methodNamed B.named B.method).1, hst⟩
  have htab := vx_table (x := (zz_M 316).1) B (hts _ List.mem_cons_self)
  have hlv := zz_entry E [.ref 2, .int x, .int y, .ref 83] (n := 5) (Nat.le_of_ble_eq_true rfl)
  rw [lg_entry_eq]
  generalize (lg_sl (([.ref 2, .int x, .int y, .ref 83] : List Value).map (zz_cv E)) ++ List.replicate (5 - (lg_sl (([.ref 2, .int x, .int y, .ref 83] : List Value).map (zz_cv E))).length) Slot.unset).toArray = ls at hlv ⊢
  have hx := B.exec
  have hb : c.code = (zz_M 316).2.1 := B.bytes
  have hh : zz_hp E (zz_S F I J) s s.heap [] := ⟨hrel, fun _ _ => rfl, fun x hx => by cases hx⟩
  refine lv_aload_n hx hb zd_316_0 rfl (zz_lv_get hlv (i := 3) (v := .ref 83) rfl) ?_
  refine lv_iconst hx hb zd_316_1 rfl ?_
  refine lv_aload_n hx hb zd_316_2 rfl (zz_lv_get hlv (i := 0) (v := .ref 2) rfl) ?_
  refine lv_iload_n hx hb zd_316_3 rfl (zz_lv_get hlv (i := 1) (v := .int x) rfl) ?_
  refine lv_iload_n hx hb zd_316_4 rfl (zz_lv_get hlv (i := 2) (v := .int y) rfl) ?_
  refine zx_caught hf rfl (lo := 0) (hi := 10) (hp := 13) htab (pc := 5) (by decide) (by decide) (b := 3) (a := 139) (k := 10) (by decide) (hs := [1335, 109, 1332, 1333, 1334]) (by decide +kernel) (by decide +kernel) zd_316_5 (st := [.int y, .int x, .ref 2, .int 0, .ref 83]) (r := 2) (ts := [.int x, .int y]) rfl rfl (Nat.le_of_ble_eq_true rfl) (Nat.le_of_ble_eq_true rfl) hno hM hh hlv (fun H1 locs1 q9 hh1 => ?_)
  have hA : ∀ (ls' : Array Slot), W p l e (zz_room (d + 1) (zz_S F I J) (zx_b (zz_S F I J))) s m (([.ref 2, .int x, .int y, .ref 83] : List Value).map (zz_cv E)).toArray below meth c H1 locs1 1 6 (MQ below (zz_Qc E (some (.int 1)) (zx_b (zz_S F I J))) (([.ref 2, .int x, .int y, .ref 83] : List Value).map (zz_cv E)).toArray s (zz_n (zx_b (zz_S F I J)) - zz_n (zz_S F I J)) (zz_s (zx_b (zz_S F I J)) - zz_s (zz_S F I J)) (fun q => zz_bs E ≤ q)) (F0 m 16 ls' [.int 1]) := fun ls' => by
    have e1 : zz_n (zx_b (zz_S F I J)) - zz_n (zz_S F I J) = 1 := by show F.1 + 1 - F.1 = 1; omega
    have e2 : zz_s (zx_b (zz_S F I J)) - zz_s (zz_S F I J) = 6 := by show F.2.1 + 6 - F.2.1 = 6; omega
    rw [e1, e2]
    exact W.zret hx hb (show meth.sig.returnType = some .int from B.returns) rfl (fun t ht hW => ⟨rfl, by rw [ht]; exact zz_rel_moved hW.alike hh1.1, fun q hq => by rw [ht]; exact hh1.2.1 q hq⟩) hh1.2.2 (show decode (zz_M 316).2.1 16 = .ok (.ireturn, 1) by decide +kernel)
  refine lv_astore hx hb (show decode (zz_M 316).2.1 13 = .ok (.astore 4, 2) by decide +kernel) (zz_al_has hlv) (by decide) rfl (fun ls' _ => ?_)
  refine lv_iconst hx hb (show decode (zz_M 316).2.1 15 = .ok (.iconst 1, 1) by decide +kernel) rfl ?_
  exact hA ls'
theorem zd_317_0 : decode (zz_M 317).2.1 0 = .ok (.aload_n 2, 1) := by decide +kernel
theorem zd_317_1 : decode (zz_M 317).2.1 1 = .ok (.iconst 0, 1) := by decide +kernel
theorem zd_317_2 : decode (zz_M 317).2.1 2 = .ok (.aload_n 0, 1) := by decide +kernel
theorem zd_317_3 : decode (zz_M 317).2.1 3 = .ok (.iload_n 1, 1) := by decide +kernel
theorem zd_317_4 : decode (zz_M 317).2.1 4 = .ok (.invokevirtual 18, 3) := by decide +kernel
theorem zx_L317 {l : Launch} {E : zz_E} {d : Nat} (hall : ∀ j, ∃ hs, zz_okM hs (zz_M j) = true) {F : zz_F} {I : Nat → Nat → Int32} {J : Nat → Nat → Int64} {x : Int32} {Qc : Array Value → State → Outcome → State → Prop} (hno : ∀ a0 s0 t0 v0, ¬ Qc a0 s0 (.returned v0) t0) (hM : vx_Met l (zz_M 177).1 (zz_ws 177) (zz_room d (zz_S F I J) (zx_b (zz_S F I J))) (zz_Pc E [.ref 2, .int x] (zz_S F I J)) Qc (zx_XC E (zx_b (zz_S F I J))) 1 6 (fun q => zz_bs E ≤ q)) : Met l (zz_M 317).1 (zx_wsW 317 [(0, 8, 11, 13)]) (zz_room (d + 1) (zz_S F I J) (zx_b (zz_S F I J))) (zz_Pc E [.ref 2, .int x, .ref 83] (zz_S F I J)) (zz_Qc E (some (.int 1)) (zx_b (zz_S F I J))) (zz_n (zx_b (zz_S F I J)) - zz_n (zz_S F I J)) (zz_s (zx_b (zz_S F I J)) - zz_s (zz_S F I J)) (fun q => zz_bs E ≤ q) := by
  refine va_MetW (cc := (zz_M 317).2.1) (maxL := 4) (ret := some .int) (hh := [(0, 8, 11, 13)]) (by decide) rfl ?_
  intro p e s m args below meth c s₁ B hml hv
  obtain ⟨rfl, hst, hrel⟩ := hv
  have hts := atoms_spec (ws := zx_wsW 317 [(0, 8, 11, 13)]) B.pre
  have hf : zz_fx p s m (([.ref 2, .int x, .ref 83] : List Value).map (zz_cv E)).toArray meth c E 317 := ⟨B.exec, B.bytes, B.returns, hml, findClass_of_methodNamed B.named, fun w hw => hts w (List.mem_cons_of_mem _ hw), B.notSynchronized, (name_of_methodNamed B.named B.method).1, hst⟩
  have htab := vx_table (x := (zz_M 317).1) B (hts _ List.mem_cons_self)
  have hlv := zz_entry E [.ref 2, .int x, .ref 83] (n := 4) (Nat.le_of_ble_eq_true rfl)
  rw [lg_entry_eq]
  generalize (lg_sl (([.ref 2, .int x, .ref 83] : List Value).map (zz_cv E)) ++ List.replicate (4 - (lg_sl (([.ref 2, .int x, .ref 83] : List Value).map (zz_cv E))).length) Slot.unset).toArray = ls at hlv ⊢
  have hx := B.exec
  have hb : c.code = (zz_M 317).2.1 := B.bytes
  have hh : zz_hp E (zz_S F I J) s s.heap [] := ⟨hrel, fun _ _ => rfl, fun x hx => by cases hx⟩
  refine lv_aload_n hx hb zd_317_0 rfl (zz_lv_get hlv (i := 2) (v := .ref 83) rfl) ?_
  refine lv_iconst hx hb zd_317_1 rfl ?_
  refine lv_aload_n hx hb zd_317_2 rfl (zz_lv_get hlv (i := 0) (v := .ref 2) rfl) ?_
  refine lv_iload_n hx hb zd_317_3 rfl (zz_lv_get hlv (i := 1) (v := .int x) rfl) ?_
  refine zx_caught hf rfl (lo := 0) (hi := 8) (hp := 11) htab (pc := 4) (by decide) (by decide) (b := 2) (a := 177) (k := 10) (by decide) (hs := [1343, 109, 1340, 1341, 1342]) (by decide +kernel) (by decide +kernel) zd_317_4 (st := [.int x, .ref 2, .int 0, .ref 83]) (r := 2) (ts := [.int x]) rfl rfl (Nat.le_of_ble_eq_true rfl) (Nat.le_of_ble_eq_true rfl) hno hM hh hlv (fun H1 locs1 q9 hh1 => ?_)
  have hA : ∀ (ls' : Array Slot), W p l e (zz_room (d + 1) (zz_S F I J) (zx_b (zz_S F I J))) s m (([.ref 2, .int x, .ref 83] : List Value).map (zz_cv E)).toArray below meth c H1 locs1 1 6 (MQ below (zz_Qc E (some (.int 1)) (zx_b (zz_S F I J))) (([.ref 2, .int x, .ref 83] : List Value).map (zz_cv E)).toArray s (zz_n (zx_b (zz_S F I J)) - zz_n (zz_S F I J)) (zz_s (zx_b (zz_S F I J)) - zz_s (zz_S F I J)) (fun q => zz_bs E ≤ q)) (F0 m 13 ls' [.int 1]) := fun ls' => by
    have e1 : zz_n (zx_b (zz_S F I J)) - zz_n (zz_S F I J) = 1 := by show F.1 + 1 - F.1 = 1; omega
    have e2 : zz_s (zx_b (zz_S F I J)) - zz_s (zz_S F I J) = 6 := by show F.2.1 + 6 - F.2.1 = 6; omega
    rw [e1, e2]
    exact W.zret hx hb (show meth.sig.returnType = some .int from B.returns) rfl (fun t ht hW => ⟨rfl, by rw [ht]; exact zz_rel_moved hW.alike hh1.1, fun q hq => by rw [ht]; exact hh1.2.1 q hq⟩) hh1.2.2 (show decode (zz_M 317).2.1 13 = .ok (.ireturn, 1) by decide +kernel)
  refine lv_astore_n hx hb (show decode (zz_M 317).2.1 11 = .ok (.astore_n 3, 1) by decide +kernel) rfl (zz_al_has hlv) (by decide) rfl (fun ls' _ => ?_)
  refine lv_iconst hx hb (show decode (zz_M 317).2.1 12 = .ok (.iconst 1, 1) by decide +kernel) rfl ?_
  exact hA ls'
section HLW
variable {l : Launch} {E : zz_E} {d : Nat} {o : Option Value} {S' : zz_P}
/-- the law calls a helper -/
theorem zx_lawS {j pc x b : Nat} {hh9 : List (Nat × Nat × Nat × Nat)} (hml : (zz_M j).2.2.1 ≤ 40) (hw1 : Cond.codeWith (zz_M j).1 (zz_M j).2.1 (zz_M j).2.2.1 (zz_M j).2.2.2.1 hh9 ∈ zz_G) (hw2 : Cond.methodLink (zz_M 314).1.cls x (zz_M j).1 ∈ zz_G) (hw3 : Cond.static (zz_M j).1 ∈ zz_G) (hw4 : Cond.initialized (zz_M j).1.cls ∈ zz_G) (hds : (zz_M j).1.cls ≠ "java/lang/invoke/MethodHandle" ∧ (zz_M j).1.cls ≠ "java/lang/invoke/VarHandle" ∧ (parseMethodDescriptor (zz_M j).1.desc).map (fun d => d.parameters.length) = some b) (hdec : decode (zz_M 314).2.1 pc = .ok (.invokestatic x, 3)) {lv : zz_Lv} {st : List Value} {S S1 : zz_P} {v : Option Value} (hb : b ≤ st.length) (hc2 : ((st.drop b).map Value.category).sum ≤ 8) (hmn : zz_mn S S1)
    (hM : Met l (zz_M j).1 (zx_wsW j hh9) (zz_room d S S1) (zz_Pc E (st.take b).reverse S) (zz_Qc E v S1) (zz_n S1 - zz_n S) (zz_s S1 - zz_s S) (fun q => zz_bs E ≤ q))
    (hk : zz_sim l E (d + 1) 314 (pc + 3) lv (v.toList ++ st.drop b) S1 o S') : zz_sim l E (d + 1) 314 pc lv st S o S' := by
  refine ⟨zz_mn_trans hmn hk.1, fun p e s m args below meth c S0 hf => ?_⟩
  have hk2 := hk.2 p e s m args below meth c S0 hf
  obtain ⟨hx, hbb, hr, hml9, hown, hG, hlk, hnm, hst⟩ := hf
  intro h0 h1 H locs ls hh hl
  have hn : ((st.take b).reverse.map (zz_cv E)).length = b := by simp [Nat.min_eq_left hb]
  have cw := vx_cwSW (s := s) (args := args) (own := (zz_M 314).1.cls) (index := x) (R := zz_room (d + 1) S0 S') (rm := zz_room d S S1) (mc := zz_n S1 - zz_n S) (ms := zz_s S1 - zz_s S) (y := (zz_M j).1) (bytes := (zz_M j).2.1) (maxL := (zz_M j).2.2.1) (ret := (zz_M j).2.2.2.1) (hh := hh9) (Ts := zz_G) (ws := zx_wsW j hh9) (ws' := zz_G) b hG (zz_goodIn (fun w hw => by
    rcases List.mem_append.mp hw with hw | hw
    · simp only [List.mem_cons, List.not_mem_nil, or_false] at hw
      rcases hw with rfl | rfl | rfl
      · exact hw2
      · exact hw3
      · exact hw4
    · rcases List.mem_cons.mp hw with rfl | hw
      · exact hw1
      · exact hw)) rfl rfl rfl hds ⟨Nat.le_refl _, by show 8 + ((zz_M j).2.2.1 + 11) + 64 * d ≤ 64 * (d + 1); omega⟩
  refine zz_after hh (vx_runSW (cc := (zz_M 314).2.1) (nL := zz_ml 314) (g := F0 m pc ls (st.map (zz_cv E))) (As := (st.take b).reverse.map (zz_cv E)) (rest := (st.drop b).map (zz_cv E)) ⟨hx, hbb, hml9, hown, hG⟩ hM cw ⟨zz_pc_blind E _ S, zz_pre hst hh _⟩ rfl hn hl.1 (zz_split st b E) (lv_room (by rw [zz_cv_cats]; exact hc2)) hdec (zz_fit_room h0 h1 hmn hk.1)) (fun H1 locs1 hh1 => ?_)
  rw [(zz_cnt h0 h1 hmn).1, (zz_cnt h0 h1 hmn).2]
  have := hk2 (Nat.le_trans h0 hmn.1) (Nat.le_trans h1 hmn.2) H1 locs1 ls hh1 hl
  have e : (v.toList ++ st.drop b).map (zz_cv E) = (v.map (zz_cv E)).toList ++ (st.drop b).map (zz_cv E) := by
    rw [List.map_append]; cases v <;> rfl
  rw [e] at this
  exact this
end HLW
