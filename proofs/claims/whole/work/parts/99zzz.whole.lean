/-! THE CLAIM OUT OF ONE WALK OF THE LAW'S BODY. Your part is whole_start (and what it stands on); all else here is the same for every law, but numbers. -/
def R_law : String := "OneStageTwoPlaysLaw"
def lw_P (b : Addr) (xs : List Int32) (args : Array Value) (s : State) : Prop := args = #[.ref b] ∧ s.IntsAt b xs ∧ xs.length ≤ 2560 ∧ (Jvm.Cond.and given_1 narrow_1).before args s = true
def lw_Q (_ : Array Value) (s : State) (o : Outcome) (t : State) : Prop := o = .returned (some (.int 1)) ∧ Framed s o t [] 601024 7293034
def lw_Z (below : List Frame) (a : Array Value) (s : State) : State → Prop := fun t => ∃ o, t.status = .running ∧ Ended t below o ∧ lw_Q a s o t
/-- what holds at the law's entry: the machine, the code, the tables' words (any of lw_tbl by 'hts w (by decide +kernel)'), the script of L ints xs at the cell b, what the Statement gives of the start (any of its parts by flat_of_before) -/
def lw_At (p : Program) (s : State) (m : MethodId) (meth : Method) (c : Code) (b L : Nat) (xs : Nat → Int32) : Prop :=
  p.tables.exec = Jvm.exec ∧ c.code = code ∧ meth.sig.returnType = ret ∧ c.maxLocals = 8 ∧ s.vm.findClass R_law = some m.cls ∧ (∀ w ∈ lw_tbl, w.before #[Value.ref b] s = true) ∧ va_X b L xs s s.heap ∧ b < s.heap.size ∧ meth.locks = false ∧ (Jvm.Cond.and given_1 narrow_1).before #[Value.ref b] s = true ∧ meth.name = "law"
theorem zw_inst : ∀ (k : Nat) (q : vw_C), zz_cl[k]? = some q → Cond.instantiable q.1 q.2.2 ∈ zz_G := by
  have h : zz_cl.all (fun q => decide (Cond.instantiable q.1 q.2.2 ∈ zz_G)) = true := by decide +kernel
  intro k q hq
  exact of_decide_eq_true (List.all_eq_true.mp h q (List.mem_of_getElem? hq))
theorem zw_room {p : Program} {l : Launch} {e : Env} {R R' : Room} {s : State} {m : MethodId} {args : Array Value} {below : List Frame} {meth : Method} {c : Code} {T : State} {locs : List Loc} {cells slots : Nat} (X : Stand p l e R s m args below meth c T locs cells slots) (hf : R'.frames ≤ R.frames) (hl : R'.locals ≤ R.locals) (hc : R'.cells ≤ R.cells) (hs : R'.slots ≤ R.slots) : Stand p l e R' s m args below meth c T locs cells slots := by
  refine { X with room := ?_ }
  have h := X.room
  simp only [State.hasRoom, Bool.and_eq_true, decide_eq_true_eq] at h ⊢
  obtain ⟨⟨⟨⟨h1, h2, h3, h4, h5, h6⟩, h7⟩, h8⟩, h9⟩ := h
  exact ⟨⟨⟨⟨by omega, by omega, by omega, by omega, by omega, h6⟩, by omega⟩, by omega⟩, h9⟩
def zw_I (f xs : Nat → Int32) (a i : Nat) : Int32 := match a with
  | 0 => f i
  | 1 => xs i
  | _ => 0
def zw_pl (i : Nat) : Int32 := match i with
  | 0 => -111
  | 1 => 2
  | 2 => -42
  | 3 => -112
  | 4 => -43
  | 5 => -113
  | _ => -43
theorem zw_arr {s : State} {args : Array Value} {ty : FieldType} (h : (Cond.arrayClass ty).before args s = true) (hty : ∀ C, ty ≠ .object C) : ∃ cA, ArrOfT s cA ty ∧ va_RA s cA ty := by
  obtain ⟨cA, kA, comp, h1, h2, h3⟩ := Cond.arrayClass_spec h
  refine ⟨cA, fun n z => ⟨fun k h => (by cases h), kA, h2, comp, h3⟩, ?_⟩
  cases ty with
  | object C => exact absurd rfl (hty C)
  | _ => exact h1
theorem zw_arrN {s : State} {args : Array Value} {C : String} (h : (Cond.arrayOver (.object C)).before args s = true) : ∃ cA, ArrOfT s cA (.object C) ∧ va_RA s cA (.object C) := by
  obtain ⟨comp, cA, kA, h1, -, h2, h3, h4⟩ := Cond.arrayOver_spec h
  exact ⟨cA, fun n z => ⟨fun k h => (by cases h), kA, h2, comp, h3⟩, kA, comp, h2, h3, h1, h4⟩
theorem zw_eqe {args : Array Value} {s : State} {t : Term} {z : Int32} (h : (Cond.eq t (.int z)).before args s = true) : t.eval args s none [] s = some (.int z) := by
  cases hv : t.eval args s none [] s with
  | none => simp [Cond.before, Cond.holds, Cond.value, hv] at h
  | some w =>
    have hz : (Term.int z).eval args s none [] s = some (.int z) := rfl
    simp only [Cond.before, Cond.holds, Cond.value, hv, hz] at h
    cases w <;> simp_all
set_option maxHeartbeats 8000000 in
theorem whole_start {p : Program} {e : Env} {s : State} {m : MethodId} {below : List Frame} {meth : Method} {c : Code} (l : Launch) (hlt : l.stackTraces = false) {b L : Nat} {xs : Nat → Int32} (hL : L ≤ 2560) (C0 : lw_At p s m meth c b L xs) : W p l e room_1 s m #[Value.ref b] below meth c s.heap [] 0 0 (lw_Z below #[Value.ref b] s) (entryFrame m ([Value.ref b] : List Value).toArray 8) := by
  obtain ⟨hx, hb, hr, hml, hown, hts, hX, hbl, hlocks, hgv, hnm⟩ := C0
  have hG : ∀ w ∈ zz_G, w.before #[Value.ref b] s = true := fun w hw => hts w (List.mem_filter.mp hw).1
  have hs := flat_of_before _ hgv
  -- the classes
  have hcl : ∀ k : Nat, ∃ q : ClassId × (Nat → Nat), ∀ r : vw_C, zz_cl[k]? = some r → u_Kn s r.1 r.2.1 r.2.2 q.1 q.2 := fun k => by
    cases h : zz_cl[k]? with
    | none => exact ⟨(0, fun _ => 0), fun r hr => by cases hr⟩
    | some r =>
      obtain ⟨cC, iS, hk⟩ := u_known (ws := zz_G) hG (zz_clIn k r h) (hG _ (zw_inst k r h))
      exact ⟨(cC, iS), fun r' hr' => by cases hr'; exact hk⟩
  obtain ⟨D, hD⟩ := Classical.axiomOfChoice hcl
  -- the arrays' classes
  obtain ⟨c12, q12⟩ := zw_arr (hts (.arrayClass .byte) (by decide +kernel)) (fun C h => by cases h)
  obtain ⟨c13, q13⟩ := zw_arr (hts (.arrayClass .char) (by decide +kernel)) (fun C h => by cases h)
  obtain ⟨c14, q14⟩ := zw_arr (hts (.arrayClass .int) (by decide +kernel)) (fun C h => by cases h)
  obtain ⟨c15, q15⟩ := zw_arr (hts (.arrayClass .long) (by decide +kernel)) (fun C h => by cases h)
  obtain ⟨c16, q16⟩ := zw_arr (hts (.arrayClass .boolean) (by decide +kernel)) (fun C h => by cases h)
  have hAO : (Cond.arrayOver (.object "OneStageTwoPlays$Night")).before #[Value.ref b] s = true := hts _ (by decide +kernel)
  obtain ⟨c17, q17⟩ := zw_arrN hAO
  -- the plain rule
  have hA : ∀ a : Nat, a < s.heap.size → ¬ (fun q : Nat => s.heap.size ≤ q) a := fun a h => Nat.not_le.mpr h
  have hlen : (Term.length (.static "OneStageTwoPlays$Changes" "PLAIN_RULE" "[I")).eval #[Value.ref b] s none [] s = some (.int 7) := zw_eqe (hs _ (by decide +kernel))
  have hel : ∀ j : Nat, j < 7 → (Term.elem (.static "OneStageTwoPlays$Changes" "PLAIN_RULE" "[I") (.int (Int32.ofNat j))).eval #[Value.ref b] s none [] s = some (.int (zw_pl j)) := fun j hj => by
    match j, hj with
    | 0, _ => exact zw_eqe (hs _ (by decide +kernel))
    | 1, _ => exact zw_eqe (hs _ (by decide +kernel))
    | 2, _ => exact zw_eqe (hs _ (by decide +kernel))
    | 3, _ => exact zw_eqe (hs _ (by decide +kernel))
    | 4, _ => exact zw_eqe (hs _ (by decide +kernel))
    | 5, _ => exact zw_eqe (hs _ (by decide +kernel))
    | 6, _ => exact zw_eqe (hs _ (by decide +kernel))
    | j + 7, h => exact absurd h (by omega)
  obtain ⟨t0, ht0, cell0, p1, p2, p3, p4, p5, p6, p7⟩ := va_Tof (f := fun j => .int (zw_pl j)) (A := fun q : Nat => s.heap.size ≤ q) (N := 7) (by decide) (hs (.arrayOf (.static "OneStageTwoPlays$Changes" "PLAIN_RULE" "[I") .int) (by decide +kernel)) hlen hel hA
  have t0lt : t0 < s.heap.size := (Array.getElem?_eq_some_iff.mp p1).1
  have sz0 : cell0.slots.size = 7 := by
    obtain ⟨a9, cell9, g1, g2, g3⟩ := Term.length_spec hlen
    cases g1.symm.trans ht0
    obtain ⟨g4, -⟩ := State.arrayAt?_spec g2
    cases Option.some.inj (g4.symm.trans p1)
    have lt : cell0.slots.size < 2 ^ 31 := by
      have hv := hlen
      simp only [Term.eval, Option.bind_eq_bind] at hv
      by_cases w : cell0.slots.size < 2147483648
      · exact w
      · exfalso
        have ht9 := ht0
        simp only [Term.eval, Option.bind_eq_bind] at ht9
        simp [ht9, g2, w] at hv
    have : nI cell0.slots.size = nI 7 := p5
    exact (nI_eq lt (by decide)).mp this
  -- where all lies
  obtain ⟨E, hE⟩ : ∃ E : zz_E, E = ((fun k => (D k).1, fun k => (D k).2), (fun k => if k = 12 then c12 else if k = 13 then c13 else if k = 14 then c14 else if k = 15 then c15 else if k = 16 then c16 else c17), s.heap.size, t0, b) := ⟨_, rfl⟩
  have bs : zz_bs E = s.heap.size := by rw [hE]; rfl
  have a0 : zz_ad E 0 = t0 := by rw [hE]; rfl
  have a1 : zz_ad E 1 = b := by rw [hE]; rfl
  have hst : zz_stc E s := by
    refine ⟨⟨fun k q hq => ?_, fun k q hq => ?_⟩, ?_, fun w hw => ?_, va_AO.of hAO, ?_, ?_⟩
    · rw [hE]; exact hD k q hq
    · rw [hE] at hq
      match k, hq with
      | 0, hq => cases hq; exact q12
      | 1, hq => cases hq; exact q13
      | 2, hq => cases hq; exact q14
      | 3, hq => cases hq; exact q15
      | 4, hq => cases hq; exact q16
      | 5, hq => cases hq; exact q17
      | k + 6, hq => simp [zz_tys] at hq
    · rw [a0, bs]
      exact va_Zof (hts _ (by decide +kernel)) (hts _ (by decide +kernel)) ht0 hA
    · have := List.mem_filter.mp hw
      exact va_Nw.of (zz_nst_tab this.2) (hts w this.1)
    · rw [bs]
      exact vx_Zqof (hts _ (by decide +kernel)) (hts _ (by decide +kernel)) (hs _ (by decide +kernel)) hA
    · rw [bs]
      exact vx_Zqof (hts _ (by decide +kernel)) (hts _ (by decide +kernel)) (hs _ (by decide +kernel)) hA
  have hrel : zz_rel E (zS (zw_I zw_pl xs) L) s s.heap := by
    refine ⟨bs.symm ▸ rfl, rfl, rfl, by rw [a0, bs]; exact t0lt, by rw [a1, bs]; exact hbl, fun a ha => ?_, fun a => ?_⟩
    · have ha : (if a < 2 then 18 else 99) < 19 := ha
      by_cases w : a < 2
      · show a < 0 + 2
        omega
      · rw [if_neg w] at ha
        omega
    · by_cases w : a < 2
      · have k18 : zz_K (zS (zw_I zw_pl xs) L) a = 18 := if_pos w
        refine ⟨fun q => by omega, fun q1 q2 => by omega, fun _ => ?_⟩
        match a, w with
        | 0, _ => exact ⟨cell0, by rw [a0]; exact p1, p2, p3, sz0, fun i hi => p6 i hi⟩
        | 1, _ =>
          obtain ⟨scr, x1, x2, x3, x4, x5⟩ := hX
          exact ⟨scr, by rw [a1]; exact x1, x2, x3, x4, fun i hi => x5 i hi⟩
        | a + 2, h => exact absurd h (by omega)
      · have k99 : zz_K (zS (zw_I zw_pl xs) L) a = 99 := if_neg w
        exact ⟨fun q => by omega, fun q1 q2 => by omega, fun q => by omega⟩
  obtain ⟨S', hsim, hn, hsl⟩ := zg_run (l := l) (E := E) zz_all hlt (N := 200000) (Nat.le_refl _) hL (I := zw_I zw_pl xs) ⟨rfl, rfl, rfl, rfl, rfl, rfl, rfl⟩
  have hf : zz_fx p s m #[Value.ref b] meth c E 314 := ⟨hx, hb, hr, hml, hown, hG, hlocks, hnm, hst⟩
  have hlv := zz_entry E [.ref 1] (n := 8) (by decide)
  have ev : ([.ref 1] : List Value).map (zz_cv E) = [.ref b] := by
    show [Value.ref (zz_ad E 1)] = _
    rw [a1]
  rw [ev] at hlv
  have hA9 := hsim.2 p e s m #[Value.ref b] below meth c (zS (zw_I zw_pl xs) L) hf (Nat.le_refl _) (Nat.le_refl _) s.heap [] _ ⟨hrel, fun _ _ => rfl, fun x hx => by cases hx⟩ hlv
  rw [lg_entry_eq]
  rw [Nat.sub_self, Nat.sub_self] at hA9
  intro T hT X
  obtain ⟨t, st, o, b1, b2, b3, L9, b4, b5⟩ := hA9 T hT (zw_room X (R' := zz_room 301 (zS (zw_I zw_pl xs) L) S') (by show 301 ≤ 2048; decide) (by show 64 * 301 ≤ 84000; decide) (by show zz_n S' - 0 ≤ 601024; omega) (by show zz_s S' - 0 ≤ 7293034; omega))
  refine ⟨t, st, o, b1, b2, ?_, ?_⟩
  · have := b3.1
    exact this
  · obtain ⟨f1, f2, f3, f4, f5, f6, f7, f8⟩ := b4
    refine ⟨f1, f2, f3, f4, Nat.le_trans f5 (by show s.heap.size + (zz_n S' - 0) ≤ _; omega), f6, Nat.le_trans f7 (by show zz_s S' - 0 ≤ _; omega), fun a cl ha => ?_⟩
    obtain ⟨c', d1, d2, d3, d4⟩ := f8 a cl ha
    refine ⟨c', d1, d2, d3, fun i _ => d4 i (fun w => ?_)⟩
    have := b5 _ w
    rw [bs] at this
    have lt := (Array.getElem?_eq_some_iff.mp ha).1
    exact absurd lt (Nat.not_lt.mpr this)
set_option maxHeartbeats 4000000 in
theorem lw_walk (l : Launch) (hl : l.stackTraces = false) (b : Addr) (xs : List Int32) : MetFree l x (headSpec (Jvm.Cond.code x code maxLocals ret :: tables_1) room_1) (lw_P b xs) (fun _ _ _ _ _ => True) lw_Q := by
  refine MetFree.of_bodyS (code := code) (maxLocals := maxLocals) (ret := ret) (by decide) ?_ ?_
  · intro args s m h hn
    obtain ⟨meth, c, h1, h2, h3, h4, h5, h6, -, -⟩ := Cond.code_spec hn (atoms_spec (ws := Jvm.Cond.code x code maxLocals ret :: tables_1) h _ List.mem_cons_self)
    exact ⟨meth, c, h1, h2, h3, h4, h5, h6⟩
  · intro p e s m args below meth c s₁ B hml0 hP _
    obtain ⟨rfl, hx, hbd, hgv⟩ := hP
    obtain ⟨scr, harrAt, hlist, hof, hsmall⟩ := hx
    obtain ⟨hcb, hkn, -, -⟩ := State.arrayAt?_spec harrAt
    have hown : s.vm.findClass R_law = some m.cls := findClass_of_methodNamed B.named
    have hts0 : ∀ c ∈ (Jvm.Cond.code x code maxLocals ret :: tables_1), c.before #[Value.ref b] s = true := atoms_spec (ws := Jvm.Cond.code x code maxLocals ret :: tables_1) B.pre
    have hts : ∀ w ∈ lw_tbl, w.before #[Value.ref b] s = true := k2_hts_sels lw_privs (fun w hw => hts0 w (List.mem_cons_of_mem _ hw)) lw_privs_ok
    have hml : c.maxLocals = 8 := B.maxLocals_eq (hts0 _ List.mem_cons_self)
    have X₀ : Stand p l e room_1 s m #[Value.ref b] below meth c s₁ [] 0 0 := Stand.of_body B
    have hh0 : s₁.heap = s.heap := by rw [B.state]; rfl
    have hsz : scr.slots.size = xs.length := by rw [← Array.length_toList, hlist, List.length_map]
    have hval : ∀ j : Nat, j < xs.length → scr.slots[j]? = some (.int (xs.getD j 0)) := fun j hj => by
      rw [← Array.getElem?_toList, hlist]
      simp [hj]
    have hbl : b < s.heap.size := (Array.getElem?_eq_some_iff.mp hcb).1
    have hX : va_X b xs.length (fun j => xs.getD j 0) s s.heap := ⟨scr, hcb, hof, hkn, hsz, hval⟩
    have K : W p l e room_1 s m #[Value.ref b] below meth c s₁.heap [] 0 0 (lw_Z below #[Value.ref b] s) (entryFrame m ([Value.ref b] : List Value).toArray 8) := by
      rw [hh0]
      exact whole_start l hl hbd ⟨B.exec, B.bytes, B.returns, hml, hown, hts, hX, hbl, B.notSynchronized, hgv, (name_of_methodNamed B.named B.method).1⟩
    obtain ⟨t, a1, o, b1, b2, b3⟩ := K s₁ rfl X₀
    exact ⟨t, o, a1, b1, b2, b3⟩
theorem lw_pre_spec {args : Array Value} {s : State} (h : (Jvm.Cond.and given_1 narrow_1).before args s = true) (hr : rest_1_c.before args s = true) : ∃ (b : Addr) (xs : List Int32), lw_P b xs args s := by
  have hs := flat_of_before _ h
  have hq := flat_of_before _ hr
  have hc : (Cond.count 1).before args s = true := hs _ (by decide +kernel)
  have harr : (Cond.arrayOf (.arg 0) .int).before args s = true := hs _ (by decide +kernel)
  have hle : (Cond.le (.length (.arg 0)) (.int 2560)).before args s = true := hs _ (by decide +kernel)
  have hlen : (Cond.isInt (.length (.arg 0))).before args s = true := hq _ (by decide +kernel)
  have hall : (Cond.all (.arg 0) (.isInt (.elem (.arg 0) (.index 0)))).before args s = true := hq _ (by decide +kernel)
  obtain ⟨b, xs, hb, hx⟩ := State.ints_of_pre rfl harr hlen hall
  have hsm : xs.length < 2 ^ 31 := hx.choose_spec.2.2.2
  have hev : (Term.length (.arg 0)).eval args s none [] s = some (.int xs.length.toInt32) := hx.length_eval hb
  have hv := Cond.le_ints hev (show (Term.int 2560).eval args s none [] s = some (.int 2560) from rfl)
  have hd : xs.length.toInt32 ≤ 2560 := by
    simpa [Cond.before, Cond.holds, hv] using hle
  have hN : xs.length ≤ 2560 := (Int32.ofNat_le_ofNat hsm (by decide)).mp (show Int32.ofNat xs.length ≤ Int32.ofNat 2560 from hd)
  exact ⟨b, xs, Cond.one_arg hc (show args[0]? = some (.ref b) from hb), hx, hN, h⟩
theorem lw_comes (l : Launch) (hl : l.stackTraces = false) : Comes l x (Jvm.Cond.code x code maxLocals ret :: tables_1) room_1 (fun tb e args s => Calls_1 tb e args s ∧ rest_1 tb e args s ∧ Pre_1 tb e args s)
    (fun _ _ args s o t => lw_Q args s o t) := by
  intro p e ha hc hk s m args below hf hfit hheap happ hpre
  obtain ⟨b, xs, hP⟩ := lw_pre_spec hpre.2.2 hpre.2.1
  obtain ⟨k, o, h1, h2, h3, hQ⟩ := lw_walk l hl b xs p e ha hc hk s m args below hf ((Spec.applies_iff_loose hf).mp happ).1 hP trivial
  exact ⟨k, o, h1, h2, h3, hQ⟩
theorem lw_frame {s t : State} {o : Outcome} {args : Array Value} (h : Framed s o t [] 601024 7293034) :
    Framed s o t (fieldLocs frame_1_writes args s ++ arrayLocs frame_1_arrays args s ++ staticLocs frame_1_statics s) 601024 7293034 := h
theorem lw_limb (L : Cond) (hL : ∀ (args : Array Value) (s t : State), L.after args s (.returned (some (.int 1))) t = true) :
    ArmFor flags0 classFile x code maxLocals ret World_1 tables_1 room_1 Calls_1 rest_1 Pre_1
      (fun tb e a s o t => postC L tb e a s o t ∧ Framed s o t (fieldLocs frame_1_writes a s ++ arrayLocs frame_1_arrays a s ++ staticLocs frame_1_statics s) 601024 7293034) := by
  intro l hfl _ _ p e ha hc hk s m args below hf hfit hheap happ hpre
  have hl : l.stackTraces = false := by
    unfold Launch.stackTraces
    rw [hfl]
    decide
  obtain ⟨k, o, h1, h2, h3, rfl, hF⟩ := lw_comes l hl p e ha hc hk s m args below hf hfit hheap happ hpre
  exact ⟨k, _, h1, h2, h3, hL args s _, lw_frame hF⟩
theorem i_vc : Claimed_1_1 ∧ Claimed_1_2 := ⟨lw_limb limb_1_1 (fun args s t => by simp [limb_1_1, Cond.after, Cond.holds, Cond.value]), lw_limb limb_1_2 (fun args s t => Cond.after_iff.mpr (by
  first | (rw [show limb_1_2 = Cond.eq .result (.int 1) from rfl, Cond.eq_ints (x := 1) (y := 1) rfl rfl]; simp; done) | (simp [limb_1_2, Cond.value, Term.eval]; done)))⟩
