/-! A throw caught by the one row of a table, its class not yet resolved: over ThrowLaws, Cold and Stand alone. -/
section ZTA
variable {e : Env} {s : State} {f : JFrame} {a : Addr}
theorem zt_go {x : ExceptionTableEntry} {t : List ExceptionTableEntry} {k : ClassId} {cell : Cell} (hx : covers x f.pc = true) (h0 : x.catchType ≠ 0)
    (hl : s.vm.ClassLinks e.platform f.method.cls x.catchType k) (hcell : s.heap[a]? = some cell) (hobj : ∀ j, cell.vm ≠ .statics j)
    (hk : ∃ y, s.vm.classes[cell.cls]? = some y) (hfit : s.vm.assignable cell.cls k = true) (Q : Handler → Pre) (E : CtlPost) (d : Bool) (acts : List Action) :
    wp (findHandler.go f a (x :: t)) Q E e d acts s ↔ Q (.found x.handlerPc) d acts (s.setVm (s.vm.noted f.method.cls x.catchType (.cls k))) := by
  have hal : s.vm.Alike (s.vm.noted f.method.cls x.catchType (.cls k)) := Vm.Alike.noted (Vm.Alike.refl s.vm) _ _ _
  obtain ⟨_, _, _, ck, _, _, _, _, _, hck, _, _⟩ := hl.here
  obtain ⟨y1, hy1⟩ := hk
  obtain ⟨y2, hy2, -⟩ := hal.2.2 _ _ hy1
  obtain ⟨y3, hy3, -⟩ := hal.2.2 _ _ hck
  have hfit2 : (s.vm.noted f.method.cls x.catchType (.cls k)).assignable cell.cls k = true := by rw [hal.assignable]; exact hfit
  have hg := (resolveClass_links e.toSetting hl).op (op := VmOp.resolveClass f.method.cls x.catchType) rfl
  have hx2 : (decide (x.startPc ≤ f.pc) && decide (f.pc < x.endPc)) = true := hx
  simp [findHandler.go, hx2, h0, hg.1, hg.2, hcell, hobj, hy2, hy3, hfit2, VmOp.dirties, VmOp.acts]
theorem zt_step {r : List Frame} {pc : Nat} {vm' : Vm}
    (hfind : ∀ (Q : Handler → Pre) (E : CtlPost) (d : Bool) (acts : List Action), wp (findHandler f a) Q E e d acts s ↔ Q (.found pc) d acts (s.setVm vm')) :
    (stepThrowing e s a (.java f :: r)).Is ((s.setVm vm').setFrames (.java { f with pc := pc, stack := [.ref a] } :: r)) [] := by
  simp only [stepThrowing, searchFrame, vmDo]
  generalize hr : Sem.go _ e false [] s = res
  obtain ⟨as, rfl, ha⟩ := Sem.eq_ok_of hr (a := Handler.found pc) (s' := s.setVm vm') (acts' := []) (by simp [hfind _ _ _ _])
  exact ⟨rfl, ha⟩
end ZTA
section ZTB
variable {p : Program} {l : Launch} {e : Env} {R : Room} {s : State} {m : MethodId} {args : Array Value} {below : List Frame} {meth : Method} {c : Code} {T : State} {locs : List Loc} {cells slots : Nat}
theorem zt_caught (X : Stand p l e R s m args below meth c T locs cells slots) {q : Addr} {g : JFrame} (hg : g.method = m) {x : ExceptionTableEntry} (htab : c.exceptionTable.toList = [x]) (hx : covers x g.pc = true) (h0 : x.catchType ≠ 0)
    {k : ClassId} (hl : s.vm.ClassLinks e.platform m.cls x.catchType k) {cell : Cell} (hcell : T.heap[q]? = some cell) (hv : cell.vm = .none) (hk : ∃ y, s.vm.classes[cell.cls]? = some y) (hfit : s.vm.assignable cell.cls k = true) :
    ∃ vm', Stand p l e R s m args below meth c (T.setVm vm') locs cells slots ∧
      Steps p.tables e below ((T.setTop g).pushFrame (.throwing q)) ((T.setVm vm').setTop { g with pc := x.handlerPc, stack := [.ref q] }) := by
  subst hg
  have hal := X.warmed.alike
  obtain ⟨y1, hy1⟩ := hk
  obtain ⟨y2, hy2, -⟩ := hal.2.2 _ _ hy1
  obtain ⟨dk, _, _, _, hd, _, _, _, _, _, _, hopen⟩ := hl.here
  have hlT : T.vm.ClassLinks e.platform g.method.cls x.catchType k := X.warmed.classLinks hl
  have hW : s.WarmedH (T.vm.noted g.method.cls x.catchType (.cls k)) := X.warmed.noted hd hopen (State.rightAt_cls hl)
  refine ⟨_, X.noted hW, ?_⟩
  have hvm : ((T.setTop g).pushFrame (.throwing q)).vm = T.vm := Stand.throwing_vm T g q
  have hhp : ((T.setTop g).pushFrame (.throwing q)).heap = T.heap := Stand.throwing_heap T g q
  have hmeth : ((T.setTop g).pushFrame (.throwing q)).vm.method? g.method = some meth := X.method'
  have hfind : ∀ (Q : Handler → Pre) (E : CtlPost) (d : Bool) (acts : List Action), wp (findHandler g q) Q E e d acts ((T.setTop g).pushFrame (.throwing q)) ↔
      Q (.found x.handlerPc) d acts (((T.setTop g).pushFrame (.throwing q)).setVm (T.vm.noted g.method.cls x.catchType (.cls k))) := by
    intro Q E d acts
    rw [Jvm.W.findHandler_eq hmeth X.code, htab]
    exact zt_go (s := (T.setTop g).pushFrame (.throwing q)) hx h0 hlT hcell (fun j hj => by rw [hv] at hj; cases hj) ⟨y2, hy2⟩ (by rw [hvm, hal.assignable]; exact hfit) Q E d acts
  obtain ⟨hgo, hin⟩ := X.here.throwing (g := g) q
  refine Steps.head hgo hin ?_
  rw [stepThread_throwing (frames_entered X.here.top _), (zt_step (s := (T.setTop g).pushFrame (.throwing q)) hfind).1]
  obtain ⟨g0, hg0⟩ := Option.isSome_iff_exists.mp X.here.top
  obtain ⟨r, hr⟩ := State.topJava?_eq_some.mp hg0
  have hr2 : (T.setVm (T.vm.noted g.method.cls x.catchType (.cls k))).frames = .java g0 :: r := hr
  rw [State.setTop_of_frames _ hr2, State.pushFrame_setVm, State.setVm_setTop, State.setTop_of_frames _ hr2, State.pushFrame, State.setFrames_setFrames, State.setFrames_setFrames, hr]
  exact Steps.refl _
variable {H : Heap} {Q : State → Prop} {pc : Nat} {ls : Array Slot} {rest : List Value}
theorem zt_catch {own name : String} {E : String} {ce : Cell} {q : Addr} (hown : s.vm.findClass own = some m.cls) (x : ExceptionTableEntry) (htab : c.exceptionTable.toList = [x]) (hx : covers x pc = true) (h0 : x.catchType ≠ 0)
    (hlink : (Cond.classLink own x.catchType name).before args s = true) (hcast : (Cond.castable E name).before args s = true) (hcell : H[q]? = some ce) (hv : ce.vm = .none) (hcl : s.vm.findClass E = some ce.cls)
    (kk : W p l e R s m args below meth c H locs cells slots Q (F0 m x.handlerPc ls [.ref q])) : vx_W p l e R s m args below meth c H locs cells slots Q (F0 m pc ls rest) q := by
  intro T hT X
  obtain ⟨c1, c2, h1, h2, hasg⟩ := Cond.castable_spec hcast
  cases Option.some.inj (h1.symm.trans hcl)
  obtain ⟨c3, h3, hl⟩ := Cond.classLink_spec hown hlink e.platform (by rw [X.admits.platform])
  cases Option.some.inj (h2.symm.trans h3)
  obtain ⟨vm', X', st⟩ := zt_caught X (q := q) (g := F0 m pc ls rest) rfl htab hx h0 hl (by rw [hT]; exact hcell) hv (by obtain ⟨y, hy, -⟩ := Vm.findClass_spec hcl; exact ⟨y, hy⟩) hasg
  obtain ⟨t, a1, b1⟩ := kk (T.setVm vm') hT X'
  exact ⟨t, st.trans a1, b1⟩
end ZTB
