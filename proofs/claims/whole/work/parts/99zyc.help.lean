/-! THE LAW'S OWN HELPERS: they return, or they catch -/
def zx_wsW (j : Nat) (hh : List (Nat × Nat × Nat × Nat)) : List Cond := .codeWith (zz_M j).1 (zz_M j).2.1 (zz_M j).2.2.1 (zz_M j).2.2.2.1 hh :: zz_G
section HLP
variable {l : Launch} {E : zz_E} {d j : Nat} {o : Option Value} {S' : zz_P}
/-- where nothing is thrown -/
theorem zx_metN (hpn : plainName (zz_M j).1.cls = true) (hh : List (Nat × Nat × Nat × Nat)) {vs : List Value} {S : zz_P} (hcat : (vs.map Value.category).sum ≤ zz_ml j) (h : zz_sim l E d j 0 (zz_ent (zz_ml j) vs) [] S o S') : Met l (zz_M j).1 (zx_wsW j hh) (zz_room d S S') (zz_Pc E vs S) (zz_Qc E o S') (zz_n S' - zz_n S) (zz_s S' - zz_s S) (fun q => zz_bs E ≤ q) := by
  refine va_MetW (cc := (zz_M j).2.1) (maxL := (zz_M j).2.2.1) (ret := (zz_M j).2.2.2.1) (hh := hh) hpn rfl ?_
  intro p e s m args below meth c s₁ B hml hv
  obtain ⟨rfl, hst, hrel⟩ := hv
  have hts := atoms_spec (ws := zx_wsW j hh) B.pre
  have hf : zz_fx p s m ((vs.map (zz_cv E)).toArray) meth c E j := ⟨B.exec, B.bytes, B.returns, hml, findClass_of_methodNamed B.named, fun w hw => hts w (List.mem_cons_of_mem _ hw), B.notSynchronized, (name_of_methodNamed B.named B.method).1, hst⟩
  have hA := h.2 p e s m _ below meth c S hf (Nat.le_refl _) (Nat.le_refl _) s.heap [] _ ⟨hrel, fun _ _ => rfl, fun x hx => by cases hx⟩ (zz_entry E vs hcat)
  rw [lg_entry_eq]
  rw [Nat.sub_self, Nat.sub_self] at hA
  exact hA
end HLP
theorem zx_v1 : Cond.classLink "OneStageTwoPlaysLaw" 13 zx_cls ∈ zz_G := by decide +kernel
section HLX
variable {p : Program} {l : Launch} {e : Env} {s : State} {m : MethodId} {args : Array Value} {below : List Frame} {meth : Method} {c : Code} {E : zz_E} {d j : Nat}
/-- a call that throws, caught here -/
theorem zx_caught (hf : zz_fx p s m args meth c E j) (ho : (zz_M j).1.cls = "OneStageTwoPlaysLaw") {lo hi hp : Nat} (htab : c.exceptionTable.toList = tableOf [(lo, hi, hp, 13)]) {pc x a b k : Nat} (hlo : lo ≤ pc) (hhi : pc < hi) (hb1 : 1 ≤ b) {hs : List Nat} (hokC : zz_okC hs a (b - 1) = true) (hV : zz_okV hs (zz_M j).1.cls x a k = true) (hdec : decode (zz_M j).2.1 pc = .ok (.invokevirtual x, 3)) {lv : zz_Lv} {st : List Value} {S : zz_P} {r : Nat} {ts : List Value} (hr : (st.take b).reverse = .ref r :: ts) (hK : zz_K S r = k) (hb : b ≤ st.length) (hc2 : ((st.drop b).map Value.category).sum ≤ 8) {Qc : Array Value → State → Outcome → State → Prop} (hno : ∀ a0 s0 t0 v0, ¬ Qc a0 s0 (.returned v0) t0) (hM : vx_Met l (zz_M a).1 (zz_ws a) (zz_room d S (zx_b S)) (zz_Pc E (.ref r :: ts) S) Qc (zx_XC E (zx_b S)) 1 6 (fun q => zz_bs E ≤ q))
    {H : Heap} {locs : List Loc} {ls : Array Slot} {Q : State → Prop} (hh : zz_hp E S s H locs) (hl : zz_lvok E ls (zz_ml j) lv)
    (kk : ∀ (H1 : Heap) (locs1 : List Loc) (q9 : Nat), zz_hp E (zx_b S) s H1 locs1 → W p l e (zz_room (d + 1) S (zx_b S)) s m args below meth c H1 locs1 1 6 Q (F0 m hp ls [.ref q9])) : W p l e (zz_room (d + 1) S (zx_b S)) s m args below meth c H locs 0 0 Q (F0 m pc ls (st.map (zz_cv E))) := by
  obtain ⟨hx, hbb, hrr, hml, hown, hG, hlk, hnm, hst⟩ := hf
  have hq := zz_okC_ok hokC
  obtain ⟨e1, e2⟩ := zz_hd st b hb1 hb hr E
  have hpre := zz_pre hst hh (.ref r :: ts)
  have hn : (ts.map (zz_cv E)).length = b - 1 := by rw [List.length_map]; exact e2
  have cl : zz_n (zx_b S) - zz_n S = 1 := by show S.1 + 1 - S.1 = 1; omega
  have sl : zz_s (zx_b S) - zz_s S = 6 := by show S.2.1 + 6 - S.2.1 = 6; omega
  have fin : vx_Run p l e (zz_room (d + 1) S (zx_b S)) s m args below meth c H locs 0 0 1 6 (F0 m pc ls (st.map (zz_cv E))) ((st.drop b).map (zz_cv E)) (Qc (Value.ref (zz_ad E r) :: ts.map (zz_cv E)).toArray) (zx_XC E (zx_b S)) (fun q => zz_bs E ≤ q) := by
    have hroom := zz_roomR (d := d) (S0 := S) (S' := zx_b S) hokC (S := S) (S1 := zx_b S)
    unfold zz_okV at hV
    split at hV
    · next q hcl =>
      simp only [Bool.and_eq_true, decide_eq_true_eq] at hV
      obtain ⟨⟨⟨v1, v2⟩, v3⟩, v4⟩ := hV
      have cb := callB_of (s := s) (args := args) (own := (zz_M j).1.cls) (index := x) (R := zz_room (d + 1) S (zx_b S)) (rm := zz_room d S (zx_b S)) (mc := 1) (ms := 6) (b - 1) hG (zz_ws_good hokC) (rfl : zz_ws a = _ :: zz_G) cl sl (hG _ hq.2.2.2.2.2) (hG _ (zz_has_ok v2)) ⟨hq.2.2.1, hq.2.2.2.1, hq.2.2.2.2.1⟩ hroom
      exact vx_runV (C := q.1) (cc := (zz_M j).2.1) (nL := zz_ml j) (g := F0 m pc ls (st.map (zz_cv E))) (b := zz_ad E r) (As := ts.map (zz_cv E)) (rest := (st.drop b).map (zz_cv E)) ⟨hx, hbb, hml, hown, hG⟩ hM ⟨cb, hG _ (zz_has_ok v3), hG _ (zz_has_ok v4)⟩ ⟨zz_pc_blind E _ S, zz_recv hst hh hcl hK, hpre⟩ rfl hn hl.1 e1 (lv_room (by rw [zz_cv_cats]; exact hc2)) hdec ⟨by show 0 + 1 ≤ zz_n (zx_b S) - zz_n S; omega, by show 0 + 6 ≤ zz_s (zx_b S) - zz_s S; omega⟩
    · cases hV
  intro T hT X
  rcases fin T hT X with ⟨v, st₀, t, T', L, h0, X', hL, q1, q2, hQ, -⟩ | ⟨q, st₀, t, T', L, C, ce, h0, X', hL, q1, q2, ⟨hC, hrel, hfr⟩, hce, hcv, hcl, stp⟩
  · exact (hno _ _ _ _ hQ).elim
  · subst hC
    have hal : s.vm.Alike t.vm := by rw [← q2]; exact X'.warmed.alike
    have hh1 : zz_hp E (zx_b S) s T'.heap (locs ++ L) := ⟨by rw [q1]; exact zz_rel_moved hal.symm hrel, fun z hz => by rw [q1, hfr z hz, h0]; exact hh.2.1 z hz, fun z hz => by
      rcases List.mem_append.mp hz with w | w
      · exact hh.2.2 z w
      · exact hL z w⟩
    rw [ho] at hown
    have hcat := zt_catch (p := p) (l := l) (e := e) (R := zz_room (d + 1) S (zx_b S)) (s := s) (m := m) (args := args) (below := below) (meth := meth) (c := c) (H := T'.heap) (locs := locs ++ L) (cells := 0 + 1) (slots := 0 + 6) (Q := Q) (ls := ls) (rest := (st.drop b).map (zz_cv E)) (pc := pc) (name := zx_cls) (q := q) hown (⟨lo, hi, hp, 13⟩ : ExceptionTableEntry) htab hlo hhi (show (13 : Nat) ≠ 0 by decide) (hG _ zx_v1) (zx_cast (hG _ zx_w5)) (by rw [q1]; exact hce) hcv hcl (kk T'.heap (locs ++ L) q hh1)
    obtain ⟨t2, a1, b1⟩ := hcat T' rfl X'
    exact ⟨t2, stp.trans a1, b1⟩
end HLX
