/-! WHERE THE CLASS THROWS: contracts of scene, play and row there -/
def zx_cls : String := "java/util/NoSuchElementException"
def zx_up : List String := ["java/lang/RuntimeException", "java/lang/Exception"]
theorem zx_w1 : Cond.classLink "OneStageTwoPlays" 141 zx_cls ∈ zz_G := by decide +kernel
theorem zx_w2 : Cond.initialized zx_cls ∈ zz_G := by decide +kernel
theorem zx_w4 : ∀ w ∈ Cond.classLink "OneStageTwoPlays" 141 zx_cls :: Cond.initialized zx_cls :: vx_at0 "OneStageTwoPlays" 143 zx_cls zx_up, vx_ot w = true := by decide +kernel
theorem zx_w3 : ∀ w ∈ vx_at0 "OneStageTwoPlays" 143 zx_cls zx_up, w ∈ zz_G ∨ w ∈ zz_G2 ∨ w = Cond.castable zx_cls zx_cls := by decide +kernel
theorem zx_w5 : Cond.instantiable zx_cls 6 ∈ zz_G := by decide +kernel
theorem zx_cast {args : Array Value} {s : State} (h : (Cond.instantiable zx_cls 6).before args s = true) : (Cond.castable zx_cls zx_cls).before args s = true := by
  obtain ⟨c, k, hc, -⟩ := Cond.instantiable_spec h
  simp [Cond.before, Cond.holds, Cond.value, hc, va_asg]
/-- the thrown thing's cell is counted, no more -/
def zx_b (S : zz_P) : zz_P := (S.1 + 1, S.2.1 + 6, S.2.2)
theorem zx_rel {E : zz_E} {S : zz_P} {U : State} {H H' : Heap} (h : zz_rel E S U H) (hz : H'.size = H.size + 1) (ho : ∀ q : Nat, q < H.size → H'[q]? = H[q]?) : zz_rel E (zx_b S) U H' := by
  have h1 := h.1
  refine ⟨by rw [hz, h1]; show _ + S.1 + 1 = _ + (S.1 + 1); omega, h.2.1, h.2.2.1, h.2.2.2.1, h.2.2.2.2.1, fun a ha => ?_, fun a => zz_cell_kept (h.2.2.2.2.2.2 a) rfl rfl (fun _ => rfl) (fun _ => rfl) (fun _ => rfl) (fun hb => ho _ ?_)⟩
  · have := h.2.2.2.2.2.1 a ha
    have : a < S.1 + 2 := this
    show a < S.1 + 1 + 2
    omega
  · have hb2 := h.2.2.2.2.2.1 a hb
    rcases Nat.lt_or_ge a 2 with q | q
    · have : a = 0 ∨ a = 1 := by omega
      rcases this with rfl | rfl
      · have := h.2.2.2.1; omega
      · have := h.2.2.2.2.1; omega
    · rw [zz_ad_big q, h1]; omega
def zx_XC (E : zz_E) (S1 : zz_P) : String → State → State → Prop := fun C st t => C = zx_cls ∧ zz_rel E S1 t t.heap ∧ ∀ q : Nat, q < zz_bs E → t.heap[q]? = st.heap[q]?
section THR
variable {p : Program} {l : Launch} {e : Env} {s : State} {m : MethodId} {args : Array Value} {below : List Frame} {meth : Method} {c : Code} {E : zz_E} {d j : Nat}
theorem zx_throw (hl : l.stackTraces = false) (hf : zz_fx p s m args meth c E j) (ho : (zz_M j).1.cls = "OneStageTwoPlays") (ht : ∀ x ∈ c.exceptionTable.toList, False) {pc : Nat} (d0 : decode (zz_M j).2.1 pc = .ok (.new 141, 3)) (d3 : decode (zz_M j).2.1 (pc + 3) = .ok (.dup, 1)) (d4 : decode (zz_M j).2.1 (pc + 4) = .ok (.invokespecial 143, 3)) (d7 : decode (zz_M j).2.1 (pc + 7) = .ok (.athrow, 1))
    {S : zz_P} {H : Heap} {locs : List Loc} {ls : Array Slot} {Qc : Array Value → State → Outcome → State → Prop} (hrel : zz_rel E S s s.heap) (hh : zz_hp E S s H locs) (hsz : ls.size = zz_ml j) (hd : 6 ≤ d) : W p l e (zz_room d S (zx_b S)) s m args below meth c H locs 0 0 (vx_MQ below Qc (zx_XC E (zx_b S)) args s 1 6 (fun q => zz_bs E ≤ q)) (F0 m pc ls []) := by
  obtain ⟨hx, hb, hr, hml, hown, hG, hlk, hnm, hst⟩ := hf
  rw [ho] at hown
  have cl : (zz_room d S (zx_b S)).cells = 1 := by show S.1 + 1 - S.1 = 1; omega
  have sl : (zz_room d S (zx_b S)).slots = 6 := by show S.2.1 + 6 - S.2.1 = 6; omega
  refine vx_throw0 (cc := (zz_M j).2.1) hx hb hl (own := "OneStageTwoPlays") (cls := zx_cls) (names := zx_up) (ik := 141) (ic := 143) (A := fun q => zz_bs E ≤ q) hown (by decide) (by decide) (hG _ zx_w1) (hG _ zx_w2) (fun w hw => (zx_w3 w hw).elim (hG w) (fun h2 => h2.elim (fun h2 => va_Nw.use (zz_nst_tab (List.mem_filter.mp h2).2) (hst.2.2.1 w h2)) (fun h2 => by rw [h2]; exact zx_cast (hG _ zx_w5)))) zx_w4 hst.2.2.2.2.1 hst.2.2.2.2.2 ⟨?_, fun q _ hq => hh.2.1 q (Nat.not_le.mp hq), hh.2.2⟩ (by rw [hml]; exact hsz) d0 d3 d4 d7 (fun x hx => (ht x hx).elim) ?_ ?_ (by rw [cl]; omega) (by rw [sl]; omega) hlk (fun t hal hz hq => ⟨rfl, zx_rel (zz_rel_moved hal hh.1) hz hq, fun q hq2 => ?_⟩) hh.2.2 (by omega) (by omega)
  · rw [hrel.1, hh.1.1]; exact Nat.le_refl _
  · show 2 + 3 < d
    omega
  · show 0 + (13 * (2 + 1) + 42) ≤ 64 * d
    omega
  · rw [hq q (by rw [hh.1.1]; omega)]
    exact hh.2.1 q hq2
/-- a call that leaves the pool as it was, whatever comes behind -/
theorem zx_inv (hf : zz_fx p s m args meth c E j) (hall : ∀ j, ∃ hs, zz_okM hs (zz_M j) = true) {pc x a b k : Nat} (hb1 : 1 ≤ b) {hs : List Nat} (hokC : zz_okC hs a (b - 1) = true) (hV : zz_okV hs (zz_M j).1.cls x a k = true) (hdec : decode (zz_M j).2.1 pc = .ok (.invokevirtual x, 3)) {lv : zz_Lv} {st : List Value} {S S0 S' : zz_P} {v : Option Value} {r : Nat} {ts : List Value} (hr : (st.take b).reverse = .ref r :: ts) (hK : zz_K S r = k) (hb : b ≤ st.length) (hc1 : ((st.take b).map Value.category).sum ≤ zz_ml a) (hc2 : ((st.drop b).map Value.category).sum ≤ 8) (hcal : zz_sim l E d a 0 (zz_ent (zz_ml a) (st.take b).reverse) [] S v S)
    {cells slots : Nat} {H : Heap} {locs : List Loc} {ls : Array Slot} {Q : State → Prop} (hfit : cells ≤ (zz_room (d + 1) S0 S').cells ∧ slots ≤ (zz_room (d + 1) S0 S').slots) (hh : zz_hp E S s H locs) (hl : zz_lvok E ls (zz_ml j) lv)
    (kk : ∀ (H1 : Heap) (locs1 : List Loc), zz_hp E S s H1 locs1 → W p l e (zz_room (d + 1) S0 S') s m args below meth c H1 locs1 cells slots Q (F0 m (pc + 3) ls ((v.map (zz_cv E)).toList ++ (st.drop b).map (zz_cv E)))) : W p l e (zz_room (d + 1) S0 S') s m args below meth c H locs cells slots Q (F0 m pc ls (st.map (zz_cv E))) := by
  obtain ⟨hx, hbb, hrr, hml, hown, hG, hlk, hnm, hst⟩ := hf
  have hM := zz_met (l := l) (E := E) (zz_okC_pl hokC) (by rw [zz_catr]; exact hc1) hcal
  have hq := zz_okC_ok hokC
  obtain ⟨e1, e2⟩ := zz_hd st b hb1 hb hr E
  have hpre := zz_pre hst hh (st.take b).reverse
  rw [hr] at hM hpre
  have hn : (ts.map (zz_cv E)).length = b - 1 := by rw [List.length_map]; exact e2
  have fin : va_Run p l e (zz_room (d + 1) S0 S') s m args below meth c H locs cells slots (zz_n S - zz_n S) (zz_s S - zz_s S) (F0 m pc ls (st.map (zz_cv E))) ((st.drop b).map (zz_cv E)) (zz_Qc E v S (Value.ref (zz_ad E r) :: ts.map (zz_cv E)).toArray) (fun q => zz_bs E ≤ q) := by
    have hroom := zz_roomR (d := d) (S0 := S0) (S' := S') hokC (S := S) (S1 := S)
    unfold zz_okV at hV
    split at hV
    · next q hcl =>
      simp only [Bool.and_eq_true, decide_eq_true_eq] at hV
      obtain ⟨⟨⟨v1, v2⟩, v3⟩, v4⟩ := hV
      have cb := callB_of (s := s) (args := args) (own := (zz_M j).1.cls) (index := x) (R := zz_room (d + 1) S0 S') (rm := zz_room d S S) (b - 1) hG (zz_ws_good hokC) (rfl : zz_ws a = _ :: zz_G) rfl rfl (hG _ hq.2.2.2.2.2) (hG _ (zz_has_ok v2)) ⟨hq.2.2.1, hq.2.2.2.1, hq.2.2.2.2.1⟩ hroom
      exact va_runV (C := q.1) (cc := (zz_M j).2.1) (nL := zz_ml j) (g := F0 m pc ls (st.map (zz_cv E))) (b := zz_ad E r) (As := ts.map (zz_cv E)) (rest := (st.drop b).map (zz_cv E)) ⟨hx, hbb, hml, hown, hG⟩ hM ⟨cb, hG _ (zz_has_ok v3), hG _ (zz_has_ok v4)⟩ ⟨zz_pc_blind E _ S, zz_recv hst hh hcl hK, hpre⟩ rfl hn hl.1 e1 (lv_room (by rw [zz_cv_cats]; exact hc2)) hdec ⟨by rw [Nat.sub_self]; exact hfit.1, by rw [Nat.sub_self]; exact hfit.2⟩
    · cases hV
  refine zz_after hh fin (fun H1 locs1 hh1 => ?_)
  rw [Nat.sub_self, Nat.sub_self, Nat.add_zero, Nat.add_zero]
  exact kk H1 locs1 hh1
theorem zx_invS (hf : zz_fx p s m args meth c E j) (hall : ∀ j, ∃ hs, zz_okM hs (zz_M j) = true) {pc x a b : Nat} {hs : List Nat} (hokC : zz_okC hs a b = true) (hl1 : Cond.methodLink (zz_M j).1.cls x (zz_M a).1 ∈ zz_G) (hl2 : Cond.static (zz_M a).1 ∈ zz_G) (hdec : decode (zz_M j).2.1 pc = .ok (.invokestatic x, 3)) {lv : zz_Lv} {st : List Value} {S S0 S' : zz_P} {v : Option Value} (hb : b ≤ st.length) (hc1 : ((st.take b).map Value.category).sum ≤ zz_ml a) (hc2 : ((st.drop b).map Value.category).sum ≤ 8) (hcal : zz_sim l E d a 0 (zz_ent (zz_ml a) (st.take b).reverse) [] S v S)
    {cells slots : Nat} {H : Heap} {locs : List Loc} {ls : Array Slot} {Q : State → Prop} (hfit : cells ≤ (zz_room (d + 1) S0 S').cells ∧ slots ≤ (zz_room (d + 1) S0 S').slots) (hh : zz_hp E S s H locs) (hl : zz_lvok E ls (zz_ml j) lv)
    (kk : ∀ (H1 : Heap) (locs1 : List Loc), zz_hp E S s H1 locs1 → W p l e (zz_room (d + 1) S0 S') s m args below meth c H1 locs1 cells slots Q (F0 m (pc + 3) ls ((v.map (zz_cv E)).toList ++ (st.drop b).map (zz_cv E)))) : W p l e (zz_room (d + 1) S0 S') s m args below meth c H locs cells slots Q (F0 m pc ls (st.map (zz_cv E))) := by
  obtain ⟨hx, hbb, hr, hml, hown, hG, hlk, hnm, hst⟩ := hf
  have hM := zz_met (l := l) (E := E) (zz_okC_pl hokC) (by rw [zz_catr]; exact hc1) hcal
  have hq := zz_okC_ok hokC
  have hn : ((st.take b).reverse.map (zz_cv E)).length = b := by simp [Nat.min_eq_left hb]
  have cb := callB_of (s := s) (args := args) (own := (zz_M j).1.cls) (index := x) (R := zz_room (d + 1) S0 S') (rm := zz_room d S S) b hG (zz_ws_good hokC) (rfl : zz_ws a = _ :: zz_G) rfl rfl (hG _ hq.2.2.2.2.2) (hG _ hl1) ⟨hq.2.2.1, hq.2.2.2.1, hq.2.2.2.2.1⟩ (zz_roomR hokC)
  refine zz_after hh (va_runS (cc := (zz_M j).2.1) (nL := zz_ml j) (g := F0 m pc ls (st.map (zz_cv E))) (As := (st.take b).reverse.map (zz_cv E)) (rest := (st.drop b).map (zz_cv E)) ⟨hx, hbb, hml, hown, hG⟩ hM ⟨cb, hG _ hl2⟩ ⟨zz_pc_blind E _ S, zz_pre hst hh _⟩ rfl hn hl.1 (zz_split st b E) (lv_room (by rw [zz_cv_cats]; exact hc2)) hdec ⟨by rw [Nat.sub_self]; exact hfit.1, by rw [Nat.sub_self]; exact hfit.2⟩) (fun H1 locs1 hh1 => ?_)
  rw [Nat.sub_self, Nat.sub_self, Nat.add_zero, Nat.add_zero]
  exact kk H1 locs1 hh1
end THR
theorem zd_138_0 : decode (zz_M 138).2.1 0 = .ok (.aload_n 0, 1) := by decide +kernel
theorem zd_138_1 : decode (zz_M 138).2.1 1 = .ok (.getfield 20, 3) := by decide +kernel
theorem zd_138_4 : decode (zz_M 138).2.1 4 = .ok (.iload_n 1, 1) := by decide +kernel
theorem zd_138_5 : decode (zz_M 138).2.1 5 = .ok (.invokevirtual 137, 3) := by decide +kernel
theorem zd_138_8 : decode (zz_M 138).2.1 8 = .ok (.ifCond .eq 13, 3) := by decide +kernel
theorem zd_138_11 : decode (zz_M 138).2.1 11 = .ok (.iload_n 2, 1) := by decide +kernel
theorem zd_138_12 : decode (zz_M 138).2.1 12 = .ok (.ifCond .lt 9, 3) := by decide +kernel
theorem zd_138_15 : decode (zz_M 138).2.1 15 = .ok (.iload_n 2, 1) := by decide +kernel
theorem zd_138_16 : decode (zz_M 138).2.1 16 = .ok (.bipush 7, 2) := by decide +kernel
theorem zd_138_18 : decode (zz_M 138).2.1 18 = .ok (.if_icmp .le 11, 3) := by decide +kernel
theorem zd_138_21 : decode (zz_M 138).2.1 21 = .ok (.new 141, 3) := by decide +kernel
theorem zd_138_24 : decode (zz_M 138).2.1 24 = .ok (.dup, 1) := by decide +kernel
theorem zd_138_25 : decode (zz_M 138).2.1 25 = .ok (.invokespecial 143, 3) := by decide +kernel
theorem zd_138_28 : decode (zz_M 138).2.1 28 = .ok (.athrow, 1) := by decide +kernel
section THS
variable {l : Launch} {E : zz_E} {d : Nat}
theorem zx_scene (hall : ∀ j, ∃ hs, zz_okM hs (zz_M j) = true) (hl : l.stackTraces = false) {F : zz_F} {I : Nat → Nat → Int32} {J : Nat → Nat → Int64} {x y : Int32} (hT : zT_scene I x y) (hd : 6 ≤ d) (Qc : Array Value → State → Outcome → State → Prop) : vx_Met l (zz_M 138).1 (zz_ws 138) (zz_room (d + 1) (zz_S F I J) (zx_b (zz_S F I J))) (zz_Pc E [.ref 2, .int x, .int y] (zz_S F I J)) Qc (zx_XC E (zx_b (zz_S F I J))) 1 6 (fun q => zz_bs E ≤ q) := by
  refine vx_ofW (cc := (zz_M 138).2.1) (maxL := 3) (ret := some .int) (by decide) rfl ?_
  intro p e s m args below meth c s₁ B hml ht hv
  obtain ⟨rfl, hst, hrel⟩ := hv
  have hts := atoms_spec (ws := zz_ws 138) B.pre
  have hf : zz_fx p s m ((([.ref 2, .int x, .int y] : List Value).map (zz_cv E)).toArray) meth c E 138 := ⟨B.exec, B.bytes, B.returns, hml, findClass_of_methodNamed B.named, fun w hw => hts w (List.mem_cons_of_mem _ hw), B.notSynchronized, (name_of_methodNamed B.named B.method).1, hst⟩
  have hlv := zz_entry E [.ref 2, .int x, .int y] (n := 3) (Nat.le_of_ble_eq_true rfl)
  rw [lg_entry_eq]
  generalize (lg_sl (([.ref 2, .int x, .int y] : List Value).map (zz_cv E)) ++ List.replicate (3 - (lg_sl (([.ref 2, .int x, .int y] : List Value).map (zz_cv E))).length) Slot.unset).toArray = ls at hlv ⊢
  have hx := B.exec
  have hb : c.code = (zz_M 138).2.1 := B.bytes
  have hh : zz_hp E (zz_S F I J) s s.heap [] := ⟨hrel, fun _ _ => rfl, fun x hx => by cases hx⟩
  have thr : ∀ H locs, zz_hp E (zz_S F I J) s H locs → W p l e (zz_room (d + 1) (zz_S F I J) (zx_b (zz_S F I J))) s m ((([.ref 2, .int x, .int y] : List Value).map (zz_cv E)).toArray) below meth c H locs 0 0 (vx_MQ below Qc (zx_XC E (zx_b (zz_S F I J))) ((([.ref 2, .int x, .int y] : List Value).map (zz_cv E)).toArray) s 1 6 (fun q => zz_bs E ≤ q)) (F0 m 21 ls []) := fun H locs hh => zx_throw hl hf rfl ht zd_138_21 zd_138_24 zd_138_25 zd_138_28 hrel hh hlv.1 (by omega)
  refine lv_aload_n hx hb zd_138_0 rfl (zz_lv_get hlv (i := 0) (v := .ref 2) rfl) ?_
  refine zz_get hf (a := 10) (b := 4) (cc := 0) (hs := [427]) (by decide +kernel) zd_138_1 hh (a' := 2) rfl ?_
  refine lv_iload_n hx hb zd_138_4 rfl (zz_lv_get hlv (i := 1) (v := .int x) rfl) ?_
  refine zx_inv hf hall (st := [.int x, .ref 5]) (b := 2) (a := 113) (k := 8) (hs := [777, 110, 774, 775, 776]) (by decide) (by decide +kernel) (by decide +kernel) zd_138_5 (r := 5) (ts := [.int x]) rfl rfl (Nat.le_of_ble_eq_true rfl) (Nat.le_of_ble_eq_true rfl) (Nat.le_of_ble_eq_true rfl) (zz_sound hall (zr_X9_has F I J d x)) ⟨Nat.zero_le _, Nat.zero_le _⟩ hh hlv (fun H1 locs1 hh1 => ?_)
  refine lv_if_eq hx hb zd_138_8 rfl (fun _ => thr H1 locs1 hh1) (fun h1 => ?_)
  refine lv_iload_n hx hb zd_138_11 rfl (zz_lv_get hlv (i := 2) (v := .int y) rfl) ?_
  refine lv_if_lt hx hb zd_138_12 rfl (fun _ => thr H1 locs1 hh1) (fun h2 => ?_)
  refine lv_iload_n hx hb zd_138_15 rfl (zz_lv_get hlv (i := 2) (v := .int y) rfl) ?_
  refine lv_bipush hx hb zd_138_16 rfl ?_
  refine lv_icmp_le hx hb zd_138_18 rfl (fun h3 => ?_) (fun _ => thr H1 locs1 hh1)
  exact (hT.elim h1 (fun q => q.elim h2 (fun q => q h3))).elim
end THS
