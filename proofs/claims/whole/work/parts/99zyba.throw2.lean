/-! WHERE THE CLASS THROWS: row and play -/
theorem zd_177_0 : decode (zz_M 177).2.1 0 = .ok (.iload_n 1, 1) := by decide +kernel
theorem zd_177_1 : decode (zz_M 177).2.1 1 = .ok (.ifCond .lt 20, 3) := by decide +kernel
theorem zd_177_4 : decode (zz_M 177).2.1 4 = .ok (.iload_n 1, 1) := by decide +kernel
theorem zd_177_5 : decode (zz_M 177).2.1 5 = .ok (.aload_n 0, 1) := by decide +kernel
theorem zd_177_6 : decode (zz_M 177).2.1 6 = .ok (.getfield 397, 3) := by decide +kernel
theorem zd_177_9 : decode (zz_M 177).2.1 9 = .ok (.if_icmp .ge 12, 3) := by decide +kernel
theorem zd_177_21 : decode (zz_M 177).2.1 21 = .ok (.new 141, 3) := by decide +kernel
theorem zd_177_24 : decode (zz_M 177).2.1 24 = .ok (.dup, 1) := by decide +kernel
theorem zd_177_25 : decode (zz_M 177).2.1 25 = .ok (.invokespecial 143, 3) := by decide +kernel
theorem zd_177_28 : decode (zz_M 177).2.1 28 = .ok (.athrow, 1) := by decide +kernel
theorem zd_139_0 : decode (zz_M 139).2.1 0 = .ok (.iload_n 1, 1) := by decide +kernel
theorem zd_139_1 : decode (zz_M 139).2.1 1 = .ok (.invokestatic 151, 3) := by decide +kernel
theorem zd_139_4 : decode (zz_M 139).2.1 4 = .ok (.ifCond .ne 11, 3) := by decide +kernel
theorem zd_139_7 : decode (zz_M 139).2.1 7 = .ok (.new 141, 3) := by decide +kernel
theorem zd_139_10 : decode (zz_M 139).2.1 10 = .ok (.dup, 1) := by decide +kernel
theorem zd_139_11 : decode (zz_M 139).2.1 11 = .ok (.invokespecial 143, 3) := by decide +kernel
theorem zd_139_14 : decode (zz_M 139).2.1 14 = .ok (.athrow, 1) := by decide +kernel
theorem zd_139_15 : decode (zz_M 139).2.1 15 = .ok (.aload_n 0, 1) := by decide +kernel
theorem zd_139_16 : decode (zz_M 139).2.1 16 = .ok (.getfield 20, 3) := by decide +kernel
theorem zd_139_19 : decode (zz_M 139).2.1 19 = .ok (.iload_n 1, 1) := by decide +kernel
theorem zd_139_20 : decode (zz_M 139).2.1 20 = .ok (.invokevirtual 154, 3) := by decide +kernel
theorem zd_139_23 : decode (zz_M 139).2.1 23 = .ok (.istore_n 3, 1) := by decide +kernel
theorem zd_139_24 : decode (zz_M 139).2.1 24 = .ok (.iload_n 2, 1) := by decide +kernel
theorem zd_139_25 : decode (zz_M 139).2.1 25 = .ok (.tableswitch 115 0 6 #[43, 53, 63, 73, 82, 91, 97], 43) := by decide +kernel
theorem zd_139_140 : decode (zz_M 139).2.1 140 = .ok (.new 141, 3) := by decide +kernel
theorem zd_139_143 : decode (zz_M 139).2.1 143 = .ok (.dup, 1) := by decide +kernel
theorem zd_139_144 : decode (zz_M 139).2.1 144 = .ok (.invokespecial 143, 3) := by decide +kernel
theorem zd_139_147 : decode (zz_M 139).2.1 147 = .ok (.athrow, 1) := by decide +kernel
theorem zx_p1 : Cond.methodLink (zz_M 139).1.cls 151 (zz_M 178).1 ∈ zz_G := by decide +kernel
theorem zx_p2 : Cond.static (zz_M 178).1 ∈ zz_G := by decide +kernel
section THS
variable {l : Launch} {E : zz_E} {d : Nat}
theorem zx_row (hl : l.stackTraces = false) {F : zz_F} {I : Nat → Nat → Int32} {J : Nat → Nat → Int64} {x : Int32} (hT : zT_row I x) (hd : 6 ≤ d) (Qc : Array Value → State → Outcome → State → Prop) : vx_Met l (zz_M 177).1 (zz_ws 177) (zz_room d (zz_S F I J) (zx_b (zz_S F I J))) (zz_Pc E [.ref 2, .int x] (zz_S F I J)) Qc (zx_XC E (zx_b (zz_S F I J))) 1 6 (fun q => zz_bs E ≤ q) := by
  refine vx_ofW (cc := (zz_M 177).2.1) (maxL := 2) (ret := some .long) (by decide) rfl ?_
  intro p e s m args below meth c s₁ B hml ht hv
  obtain ⟨rfl, hst, hrel⟩ := hv
  have hts := atoms_spec (ws := zz_ws 177) B.pre
  have hf : zz_fx p s m ((([.ref 2, .int x] : List Value).map (zz_cv E)).toArray) meth c E 177 := ⟨B.exec, B.bytes, B.returns, hml, findClass_of_methodNamed B.named, fun w hw => hts w (List.mem_cons_of_mem _ hw), B.notSynchronized, (name_of_methodNamed B.named B.method).1, hst⟩
  have hlv := zz_entry E [.ref 2, .int x] (n := 2) (Nat.le_of_ble_eq_true rfl)
  rw [lg_entry_eq]
  generalize (lg_sl (([.ref 2, .int x] : List Value).map (zz_cv E)) ++ List.replicate (2 - (lg_sl (([.ref 2, .int x] : List Value).map (zz_cv E))).length) Slot.unset).toArray = ls at hlv ⊢
  have hx := B.exec
  have hb : c.code = (zz_M 177).2.1 := B.bytes
  have hh : zz_hp E (zz_S F I J) s s.heap [] := ⟨hrel, fun _ _ => rfl, fun x hx => by cases hx⟩
  have thr : W p l e (zz_room d (zz_S F I J) (zx_b (zz_S F I J))) s m ((([.ref 2, .int x] : List Value).map (zz_cv E)).toArray) below meth c s.heap [] 0 0 (vx_MQ below Qc (zx_XC E (zx_b (zz_S F I J))) ((([.ref 2, .int x] : List Value).map (zz_cv E)).toArray) s 1 6 (fun q => zz_bs E ≤ q)) (F0 m 21 ls []) := zx_throw hl hf rfl ht zd_177_21 zd_177_24 zd_177_25 zd_177_28 hrel hh hlv.1 hd
  refine lv_iload_n hx hb zd_177_0 rfl (zz_lv_get hlv (i := 1) (v := .int x) rfl) ?_
  refine lv_if_lt hx hb zd_177_1 rfl (fun _ => thr) (fun h1 => ?_)
  refine lv_iload_n hx hb zd_177_4 rfl (zz_lv_get hlv (i := 1) (v := .int x) rfl) ?_
  refine lv_aload_n hx hb zd_177_5 rfl (zz_lv_get hlv (i := 0) (v := .ref 2) rfl) ?_
  refine zz_get hf (a := 10) (b := 3) (cc := 0) (hs := [426]) (by decide +kernel) zd_177_6 hh (a' := 2) rfl ?_
  refine lv_icmp_ge hx hb zd_177_9 rfl (fun _ => thr) (fun h2 => ?_)
  exact (hT.elim h1 h2).elim
theorem zx_play (hall : ∀ j, ∃ hs, zz_okM hs (zz_M j) = true) (hl : l.stackTraces = false) {F : zz_F} {I : Nat → Nat → Int32} {J : Nat → Nat → Int64} {x y : Int32} (hT : zT_play x y) (hd : 6 ≤ d) (Qc : Array Value → State → Outcome → State → Prop) : vx_Met l (zz_M 139).1 (zz_ws 139) (zz_room (d + 1) (zz_S F I J) (zx_b (zz_S F I J))) (zz_Pc E [.ref 2, .int x, .int y] (zz_S F I J)) Qc (zx_XC E (zx_b (zz_S F I J))) 1 6 (fun q => zz_bs E ≤ q) := by
  refine vx_ofW (cc := (zz_M 139).2.1) (maxL := 4) (ret := some .int) (by decide) rfl ?_
  intro p e s m args below meth c s₁ B hml ht hv
  obtain ⟨rfl, hst, hrel⟩ := hv
  have hts := atoms_spec (ws := zz_ws 139) B.pre
  have hf : zz_fx p s m ((([.ref 2, .int x, .int y] : List Value).map (zz_cv E)).toArray) meth c E 139 := ⟨B.exec, B.bytes, B.returns, hml, findClass_of_methodNamed B.named, fun w hw => hts w (List.mem_cons_of_mem _ hw), B.notSynchronized, (name_of_methodNamed B.named B.method).1, hst⟩
  have hlv := zz_entry E [.ref 2, .int x, .int y] (n := 4) (Nat.le_of_ble_eq_true rfl)
  rw [lg_entry_eq]
  generalize (lg_sl (([.ref 2, .int x, .int y] : List Value).map (zz_cv E)) ++ List.replicate (4 - (lg_sl (([.ref 2, .int x, .int y] : List Value).map (zz_cv E))).length) Slot.unset).toArray = ls at hlv ⊢
  have hx := B.exec
  have hb : c.code = (zz_M 139).2.1 := B.bytes
  have hh : zz_hp E (zz_S F I J) s s.heap [] := ⟨hrel, fun _ _ => rfl, fun x hx => by cases hx⟩
  refine lv_iload_n hx hb zd_139_0 rfl (zz_lv_get hlv (i := 1) (v := .int x) rfl) ?_
  refine zx_invS hf hall (st := [.int x]) (b := 1) (a := 178) (hs := [676, 109, 674, 675]) (by decide +kernel) zx_p1 zx_p2 zd_139_1 (Nat.le_of_ble_eq_true rfl) (Nat.le_of_ble_eq_true rfl) (Nat.le_of_ble_eq_true rfl) (zz_sound hall (zr_X11_isPlay F I J d x)) ⟨Nat.zero_le _, Nat.zero_le _⟩ hh hlv (fun H1 locs1 hh1 => ?_)
  refine lv_if_ne hx hb zd_139_4 rfl (fun h1 => ?_) (fun _ => zx_throw hl hf rfl ht zd_139_7 zd_139_10 zd_139_11 zd_139_14 hrel hh1 hlv.1 (by omega))
  refine lv_aload_n hx hb zd_139_15 rfl (zz_lv_get hlv (i := 0) (v := .ref 2) rfl) ?_
  refine zz_get hf (a := 10) (b := 4) (cc := 0) (hs := [427]) (by decide +kernel) zd_139_16 hh1 (a' := 2) rfl ?_
  refine lv_iload_n hx hb zd_139_19 rfl (zz_lv_get hlv (i := 1) (v := .int x) rfl) ?_
  refine zx_inv hf hall (st := [.int x, .ref 5]) (b := 2) (a := 117) (k := 8) (hs := [684, 110, 681, 682, 683]) (by decide) (by decide +kernel) (by decide +kernel) zd_139_20 (r := 5) (ts := [.int x]) rfl rfl (Nat.le_of_ble_eq_true rfl) (Nat.le_of_ble_eq_true rfl) (Nat.le_of_ble_eq_true rfl) (zz_sound hall (zr_X9_scenesOf F I J d x)) ⟨Nat.zero_le _, Nat.zero_le _⟩ hh1 hlv (fun H2 locs2 hh2 => ?_)
  refine lv_istore_n hx hb zd_139_23 rfl (zz_al_has hlv) (by decide) rfl (fun ls' hl' => ?_)
  have hlv2 := zz_lv_st (v := .int (zv_X9_scenesOf I x)) hlv hl'
  refine lv_iload_n hx hb zd_139_24 rfl (zz_lv_get hlv2 (i := 2) (v := .int y) rfl) ?_
  have hy : y.toInt < 0 ∨ 6 < y.toInt := by
    rcases hT with q | q | q
    · exact (h1 q).elim
    · rw [Int32.lt_iff_toInt_lt] at q; exact .inl q
    · rw [Int32.lt_iff_toInt_lt, show (nI 6).toInt = 6 by decide] at q; exact .inr q
  exact lv_tableOut hx hb zd_139_25 hy (zz_tgt (pc := 25) (off := 115) (by decide)) (zx_throw hl hf rfl ht zd_139_140 zd_139_143 zd_139_144 zd_139_147 hrel hh2 hlv2.1 (by omega))
end THS
