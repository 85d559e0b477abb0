/-! A throw that the one row of a method's table catches, where the class that the row names may be resolved by the search itself. -/
section ZTA
variable {e : Env} {s : State}
/-- a piece of the machine's own that answers v and leaves no action behind: the rest goes on with v -/
theorem zt_do {α : Type} {t : Sem α} {k : α → State → List Action → Out} {v : α} {u w : State}
    (ht : wp t (fun b _ as z => b = v ∧ z = u ∧ as = []) (fun _ _ _ => False) e false [] s)
    (hk : ∀ as, unmarked as = [] → (k v u as).Is w []) : (vmDo e s [] t k).Is w [] := by
  obtain ⟨as, h1, h2⟩ := Sem.go_eq_ok (acts := []) ht
  unfold vmDo
  rw [h1]
  exact hk as h2
/-- one step: from the throw to the handler -/
theorem zt_hop {f : JFrame} {q : Addr} {r : List Frame} {meth : Method} {c : Code} {x : ExceptionTableEntry} {k : ClassId} {ce : Cell}
    (hm : s.vm.method? f.method = some meth) (hc : meth.code = some c) (htab : c.exceptionTable.toList = [x]) (hlo : x.startPc ≤ f.pc) (hhi : f.pc < x.endPc) (h0 : x.catchType ≠ 0)
    (hl : s.vm.ClassLinks e.platform f.method.cls x.catchType k) (hce : s.heap[q]? = some ce) (hv : ce.vm = .none) (hfit : s.vm.assignable ce.cls k = true) :
    (stepThrowing e s q (.java f :: r)).Is ((s.setVm (s.vm.noted f.method.cls x.catchType (.cls k))).setFrames (.java { f with pc := x.handlerPc, stack := [.ref q] } :: r)) [] := by
  have al := Vm.Alike.noted (Vm.Alike.refl s.vm) f.method.cls x.catchType (.cls k)
  obtain ⟨_, _, _, _, _, _, _, _, _, hkk, _, _⟩ := hl.here
  obtain ⟨o1, ho1⟩ := Vm.classAt_of_assignable hfit ⟨_, hkk⟩
  obtain ⟨o2, ho2, _⟩ := al.2.2 _ _ ho1
  obtain ⟨o3, ho3, _⟩ := al.2.2 _ _ hkk
  have hfit2 := al.assignable ce.cls k
  rw [hfit] at hfit2
  obtain ⟨g1, g2⟩ := (resolveClass_links e.toSetting hl).op (op := VmOp.resolveClass f.method.cls x.catchType) rfl
  show (searchFrame e s [] q f f r).Is _ []
  unfold searchFrame
  refine zt_do (v := Handler.found x.handlerPc) (u := s.setVm (s.vm.noted f.method.cls x.catchType (.cls k))) ?_ (fun as has => ⟨rfl, has⟩)
  simp [W.findHandler_eq hm hc, htab, findHandler.go, hlo, hhi, h0, g1, g2, hce, hv, ho2, ho3, hfit2, VmOp.dirties, VmOp.acts]
/-- the frame on top gives way to another one: what lay over it, and what stood in it, is gone -/
theorem zt_same {T : State} {w : Vm} {g g0 h : JFrame} {F : Frame} {r : List Frame} (hr : T.frames = .java g0 :: r) :
    (((T.setTop g).pushFrame F).setVm w).setFrames (.java h :: T.frames.tail) = (T.setVm w).setTop h := by
  have hr2 : (T.setVm w).frames = .java g0 :: r := hr
  rw [State.setTop_of_frames _ hr2, State.setTop_of_frames _ hr, hr]
  show (((T.setFrames (.java g :: r)).setVm w).setFrames _).setFrames _ = _
  rw [State.setFrames_setFrames]
  show ((T.setVm w).setFrames _).setFrames _ = _
  rw [State.setFrames_setFrames]
  rfl
end ZTA
section ZTB
variable {p : Program} {l : Launch} {e : Env} {R : Room} {s : State} {m : MethodId} {args : Array Value} {below : List Frame} {meth : Method} {c : Code} {H : Heap} {locs : List Loc} {cells slots : Nat} {Q : State → Prop} {pc : Nat} {ls : Array Slot} {rest : List Value}
theorem zt_catch {own name : String} {E : String} {ce : Cell} {q : Addr} (hown : s.vm.findClass own = some m.cls) (x : ExceptionTableEntry) (htab : c.exceptionTable.toList = [x]) (hlo : x.startPc ≤ pc) (hhi : pc < x.endPc) (h0 : x.catchType ≠ 0)
    (hlink : (Cond.classLink own x.catchType name).before args s = true) (hcast : (Cond.castable E name).before args s = true) (hce : H[q]? = some ce) (hv : ce.vm = .none) (hcl : s.vm.findClass E = some ce.cls)
    (kk : W p l e R s m args below meth c H locs cells slots Q (F0 m x.handlerPc ls [.ref q])) : vx_W p l e R s m args below meth c H locs cells slots Q (F0 m pc ls rest) q := by
  intro T hT X
  obtain ⟨_, k, e1, e2, hfit⟩ := Cond.castable_spec hcast
  obtain ⟨_, e3, hl⟩ := Cond.classLink_spec hown hlink e.platform (by rw [X.admits.platform])
  rw [e2] at e3
  rw [hcl] at e1
  cases e1
  cases e3
  obtain ⟨_, _, _, _, hd, _, _, _, _, _, _, hopen⟩ := hl.here
  have XN := X.noted (X.warmed.noted hd hopen (State.rightAt_cls hl))
  obtain ⟨g0, hg0⟩ := Option.isSome_iff_exists.mp X.here.top
  obtain ⟨r, hr⟩ := State.topJava?_eq_some.mp hg0
  have hp : ((T.setTop (F0 m pc ls rest)).pushFrame (.throwing q)).vm = T.vm := Stand.throwing_vm T _ q
  have hhop := zt_hop (e := e) (s := (T.setTop (F0 m pc ls rest)).pushFrame (.throwing q)) (f := F0 m pc ls rest) (q := q) (r := T.frames.tail) (meth := meth) (c := c) (x := x) (k := k) (ce := ce)
    (by rw [hp]; exact X.method') X.code htab hlo hhi h0 (by rw [hp]; exact X.warmed.classLinks hl) (by rw [Stand.throwing_heap, hT]; exact hce) hv (by rw [hp, X.warmed.alike.assignable]; exact hfit)
  rw [hp, zt_same hr] at hhop
  obtain ⟨go, inn⟩ := X.here.throwing (g := F0 m pc ls rest) q
  obtain ⟨t, a1, b1⟩ := kk (T.setVm (T.vm.noted m.cls x.catchType (.cls k))) hT XN
  refine ⟨t, Steps.head go inn ?_, b1⟩
  rw [stepThread_throwing (frames_entered X.here.top _), hhop.1]
  exact a1
end ZTB
