/-! WHAT ANY RUN KEEPS: the two arrays that were there before; and who makes nothing -/
def zz_kp (S S' : zz_P) : Prop := zz_K S 0 = 18 → zz_K S 1 = 18 → zz_K S' 0 = 18 ∧ zz_K S' 1 = 18 ∧ zz_I S' 0 = zz_I S 0 ∧ zz_I S' 1 = zz_I S 1 ∧ zz_L S' 1 = zz_L S 1
def zz_kq (b : Bool) (S S' : zz_P) : Prop := zz_kp S S' ∧ (b = true → zz_n S' = zz_n S ∧ zz_s S' = zz_s S)
def zz_na (j : Nat) : Bool := decide (j < 318) && !([4, 15, 45, 85, 97, 112, 123, 130, 133, 159, 199, 314].contains j)
def zz_naX (q : zz_i) : Bool := match q.2.1 with
  | .new _ => !decide (q.2.2.1 < 12)
  | .newarray _ => false
  | .anewarray _ => false
  | .invokevirtual _ => zz_na q.2.2.1
  | .invokestatic _ => zz_na q.2.2.1
  | .invokespecial _ => decide (q.2.2.1 = 999) || decide (q.2.2.1 = 998) || zz_na q.2.2.1
  | _ => true
def zz_kpX (q : zz_i) : Bool := match q.2.1 with
  | .putfield _ => decide (q.2.2.1 < 12)
  | _ => true
theorem zz_na_ok : (List.range 318).all (fun j => !zz_na j || (zz_M j).2.2.2.2.all (fun z => z.2.2.all zz_naX)) = true := by decide +kernel
theorem zz_kp_ok : zz_Ms.all (fun m => m.2.2.2.2.all (fun z => z.2.2.all zz_kpX)) = true := by decide +kernel
theorem zz_M_mem (j : Nat) : zz_M j ∈ zz_Ms := by
  unfold zz_M
  rw [List.getD_eq_getElem?_getD]
  cases h : zz_Ms[j]? with
  | none => exact List.mem_of_getElem? (i := 0) rfl
  | some m => exact List.mem_of_getElem? h
theorem zz_kq_refl (b : Bool) (S : zz_P) : zz_kq b S S := ⟨fun h0 h1 => ⟨h0, h1, rfl, rfl, rfl⟩, fun _ => ⟨rfl, rfl⟩⟩
theorem zz_kq_trans {b : Bool} {A B C : zz_P} (h : zz_kq b A B) (g : zz_kq b B C) : zz_kq b A C := ⟨fun h0 h1 => by
  obtain ⟨a1, a2, a3, a4, a5⟩ := h.1 h0 h1
  obtain ⟨b1, b2, b3, b4, b5⟩ := g.1 a1 a2
  exact ⟨b1, b2, b3.trans a3, b4.trans a4, b5.trans a5⟩, fun e => ⟨(g.2 e).1.trans (h.2 e).1, (g.2 e).2.trans (h.2 e).2⟩⟩
theorem zz_kq_pI {b : Bool} {S : zz_P} {a i : Nat} {v : Int32} (h : zz_K S a ≠ 18) : zz_kq b S (zz_pI S a i v) := ⟨fun h0 h1 => by
  have n0 : (0 : Nat) ≠ a := fun e => h (e ▸ h0)
  have n1 : (1 : Nat) ≠ a := fun e => h (e ▸ h1)
  refine ⟨h0, h1, funext fun k => ?_, funext fun k => ?_, rfl⟩
  · show (if 0 = a ∧ k = i then v else S.2.2.2.2.1 0 k) = _
    rw [if_neg (fun w => n0 w.1)]; rfl
  · show (if 1 = a ∧ k = i then v else S.2.2.2.2.1 1 k) = _
    rw [if_neg (fun w => n1 w.1)]; rfl, fun _ => ⟨rfl, rfl⟩⟩
theorem zz_kq_pR {b : Bool} {S : zz_P} {a i : Nat} {v : Option Nat} : zz_kq b S (zz_pR S a i v) := ⟨fun h0 h1 => ⟨h0, h1, rfl, rfl, rfl⟩, fun _ => ⟨rfl, rfl⟩⟩
theorem zz_kq_pJ {b : Bool} {S : zz_P} {a i : Nat} {v : Int64} : zz_kq b S (zz_pJ S a i v) := ⟨fun h0 h1 => ⟨h0, h1, rfl, rfl, rfl⟩, fun _ => ⟨rfl, rfl⟩⟩
theorem zz_kp_new {S : zz_P} {k n : Nat} : zz_kp S (zz_new S k n) := fun h0 h1 => by
  have n0 : ¬ (0 : Nat) = S.1 + 2 := by omega
  have n1 : ¬ (1 : Nat) = S.1 + 2 := by omega
  refine ⟨?_, ?_, ?_, ?_, ?_⟩
  · show (if 0 = S.1 + 2 then k else S.2.2.1 0) = 18
    rw [if_neg n0]; exact h0
  · show (if 1 = S.1 + 2 then k else S.2.2.1 1) = 18
    rw [if_neg n1]; exact h1
  · show (if 0 = S.1 + 2 then (fun _ => 0) else S.2.2.2.2.1 0) = _
    rw [if_neg n0]; rfl
  · show (if 1 = S.1 + 2 then (fun _ => 0) else S.2.2.2.2.1 1) = _
    rw [if_neg n1]; rfl
  · show (if 1 = S.1 + 2 then n else S.2.2.2.1 1) = _
    rw [if_neg n1]; rfl
theorem zz_call_kq {P : zz_Pr} (hP : ∀ d j pc lv st S o S', P d j pc lv st S o S' → zz_kq (zz_na j) S S') {d a b : Nat} {bb : Bool} (hb : bb = true → zz_na a = true) {st : List Value} {S S' : zz_P} {k : Option Value → List Value → zz_P → Prop} (hk : ∀ v r S1, k v r S1 → zz_kq bb S1 S') (H : zz_call P d a b st S k) : zz_kq bb S S' := by
  cases d with
  | zero => exact False.elim H
  | succ d =>
    obtain ⟨h1, h2, h3, v, S1, h4, h5⟩ := (H : _ ∧ _)
    have g := hP _ _ _ _ _ _ _ _ h4
    exact zz_kq_trans ⟨g.1, fun e => g.2 (hb e)⟩ (hk _ _ _ h5)
theorem zz_x_kq {P : zz_Pr} (hP : ∀ d j pc lv st S o S', P d j pc lv st S o S' → zz_kq (zz_na j) S S') {d j : Nat} {o : Option Value} {S' : zz_P} {q : zz_i} {k : zz_Lv → List Value → zz_P → Prop} (hn : zz_na j = true → zz_naX q = true) (hx : zz_kpX q = true) (hk : ∀ lv st S, k lv st S → zz_kq (zz_na j) S S') (lv : zz_Lv) (st : List Value) (S : zz_P) (h : zz_x P d j o S' q k lv st S) : zz_kq (zz_na j) S S' := by
  obtain ⟨pc, i, a, b, c⟩ := q
  cases i
  case ifCond =>
    obtain ⟨x, r, rfl, h⟩ := zz_i1_inv h
    by_cases hc : zz_c ‹_› x 0
    · exact hP _ _ _ _ _ _ _ _ (h.1 hc)
    · exact hk _ _ _ (h.2 hc)
  case if_icmp =>
    obtain ⟨x, y, r, rfl, h⟩ := zz_ii_inv h
    by_cases hc : zz_c ‹_› x y
    · exact hP _ _ _ _ _ _ _ _ (h.1 hc)
    · exact hk _ _ _ (h.2 hc)
  case goto => exact hP _ _ _ _ _ _ _ _ h
  case tableswitch dflt lo hi offs =>
    obtain ⟨x, r, rfl, h⟩ := zz_i1_inv h
    by_cases hc : x.toInt < lo ∨ hi < x.toInt
    · exact hP _ _ _ _ _ _ _ _ (h.1 hc)
    · obtain ⟨off, h1, h2⟩ := h.2 hc
      exact hP _ _ _ _ _ _ _ _ h2
  case lookupswitch =>
    obtain ⟨x, r, rfl, h⟩ := zz_i1_inv h
    exact hP _ _ _ _ _ _ _ _ h
  case invokevirtual => exact zz_call_kq hP (fun e => hn e) (fun v r S1 h => hk _ _ _ h) h.2
  case invokestatic =>
    simp only [zz_x] at h
    exact zz_call_kq hP (fun e => hn e) (fun v r S1 h => hk _ _ _ h) h
  case invokespecial =>
    simp only [zz_x] at h
    split at h
    · obtain ⟨x, r, rfl, h⟩ := zz_r1_inv h
      exact hk _ _ _ h.2.2
    · next h9 =>
      have h8 := h.1
      refine zz_call_kq hP (fun e => ?_) (fun v r S1 h => hk _ _ _ h) h.2.2
      have g := hn e
      simp only [zz_naX, Bool.or_eq_true, decide_eq_true_eq] at g
      exact (g.resolve_left (fun w => w.elim h9 h8))
  case putfield =>
    have hx : decide (a < 12) = true := hx
    have ha := of_decide_eq_true hx
    simp only [zz_x] at h
    split at h
    · exact zz_kq_trans (zz_kq_pI (by have := h.1; omega)) (hk _ _ _ h.2.2.2)
    · exact zz_kq_trans zz_kq_pR (hk _ _ _ h.2.2)
    · exact h.elim
  case ireturn =>
    simp only [zz_x] at h
    split at h
    · rw [h.2.1]; exact zz_kq_refl _ _
    · exact h.elim
  case lreturn =>
    simp only [zz_x] at h
    split at h
    · rw [h.2]; exact zz_kq_refl _ _
    · exact h.elim
  case return_ =>
    simp only [zz_x] at h
    rw [h.2.2]; exact zz_kq_refl _ _
  case lstore | lstore_n =>
    simp only [zz_x] at h
    split at h
    · exact hk _ _ _ h
    · exact h.elim
  case dup | pop =>
    simp only [zz_x] at h
    split at h
    · exact hk _ _ _ h.2
    · exact h.elim
  case dup_x1 | dup2 =>
    simp only [zz_x] at h
    split at h
    · exact hk _ _ _ h.2.2
    · exact h.elim
  case lastore =>
    simp only [zz_x] at h
    split at h
    · exact zz_kq_trans zz_kq_pJ (hk _ _ _ h.2.2)
    · exact h.elim
  case aastore =>
    simp only [zz_x] at h
    split at h
    · exact zz_kq_trans zz_kq_pR (hk _ _ _ h.2.2.2)
    · exact h.elim
  case iaload | baload | caload | laload | aaload =>
    obtain ⟨i, a, r, rfl, h⟩ := zz_ir_inv h
    exact hk _ _ _ h.2.2
  case iastore =>
    obtain ⟨x, i, a, r, rfl, h⟩ := zz_iir_inv h
    exact zz_kq_trans (zz_kq_pI (by have := h.1; omega)) (hk _ _ _ h.2.2)
  case bastore =>
    obtain ⟨x, i, a, r, rfl, h⟩ := zz_iir_inv h
    exact zz_kq_trans (zz_kq_pI (by have := h.1; omega)) (hk _ _ _ h.2.2)
  case castore =>
    obtain ⟨x, i, a, r, rfl, h⟩ := zz_iir_inv h
    exact zz_kq_trans (zz_kq_pI (by have := h.1; omega)) (hk _ _ _ h.2.2)
  case arraylength =>
    obtain ⟨a, r, rfl, h⟩ := zz_r1_inv h
    exact hk _ _ _ h.2.2
  case newarray | anewarray =>
    obtain ⟨a, r, rfl, h⟩ := zz_i1_inv h
    have no : zz_na j = true → False := fun e => by have := hn e; cases this
    have g := hk _ _ _ h.2.2
    refine ⟨fun h0 h1 => ?_, fun e => (no e).elim⟩
    obtain ⟨a1, a2, a3, a4, a5⟩ := zz_kp_new (S := S) h0 h1
    obtain ⟨b1, b2, b3, b4, b5⟩ := g.1 a1 a2
    exact ⟨b1, b2, b3.trans a3, b4.trans a4, b5.trans a5⟩
  case new =>
    have no : zz_na j = true → False := fun e => by
      have g := hn e
      have h1 : a < 12 := h.1
      have g : (!decide (a < 12)) = true := g
      rw [decide_eq_true h1] at g
      cases g
    have g := hk _ _ _ h.2
    refine ⟨fun h0 h1 => ?_, fun e => (no e).elim⟩
    obtain ⟨a1, a2, a3, a4, a5⟩ := zz_kp_new (S := S) h0 h1
    obtain ⟨b1, b2, b3, b4, b5⟩ := g.1 a1 a2
    exact ⟨b1, b2, b3.trans a3, b4.trans a4, b5.trans a5⟩
  case getfield =>
    obtain ⟨a, r, rfl, h⟩ := zz_r1_inv h
    exact hk _ _ _ h.2
  case idiv | irem =>
    obtain ⟨x, y, r, rfl, h⟩ := zz_ii_inv h
    exact hk _ _ _ h.2
  case ldiv | lrem =>
    obtain ⟨x, y, r, rfl, h⟩ := zz_ll_inv h
    exact hk _ _ _ h.2
  case iload | iload_n | iinc =>
    obtain ⟨x, -, h⟩ := zz_ldI_inv h
    exact hk _ _ _ h
  case lload | lload_n =>
    obtain ⟨x, -, h⟩ := zz_ldL_inv h
    exact hk _ _ _ h
  case aload | aload_n =>
    obtain ⟨x, -, h⟩ := zz_ldR_inv h
    exact hk _ _ _ h
  case istore | istore_n | ineg | i2l | i2b | i2s | i2c =>
    obtain ⟨x, r, rfl, h⟩ := zz_i1_inv h
    exact hk _ _ _ h
  case astore | astore_n =>
    obtain ⟨x, r, rfl, h⟩ := zz_r1_inv h
    exact hk _ _ _ h
  case iadd | isub | imul | iand | ior | ixor | ishl | ishr | iushr =>
    obtain ⟨x, y, r, rfl, h⟩ := zz_ii_inv h
    exact hk _ _ _ h
  case ladd | lmul | lcmp =>
    obtain ⟨x, y, r, rfl, h⟩ := zz_ll_inv h
    exact hk _ _ _ h
  case iconst | bipush | sipush | lconst | ldc | ldc_w | ldc2_w | getstatic => exact hk _ _ _ h
  all_goals exact False.elim h
theorem zz_go_kq {P : zz_Pr} (hP : ∀ d j pc lv st S o S', P d j pc lv st S o S' → zz_kq (zz_na j) S S') {d j : Nat} {o : Option Value} {S' : zz_P} {e : Nat} : ∀ (is : List zz_i) (lv : zz_Lv) (st : List Value) (S : zz_P), (zz_na j = true → is.all zz_naX = true) → is.all zz_kpX = true → zz_go P d j o S' e is lv st S → zz_kq (zz_na j) S S'
  | [], lv, st, S, _, _, h => hP _ _ _ _ _ _ _ _ h
  | q :: is, lv, st, S, hn, hx, h => by
    have hx2 := hx
    rw [List.all_cons, Bool.and_eq_true] at hx2
    have hn2 : ∀ e : zz_na j = true, zz_naX q = true ∧ is.all zz_naX = true := fun e => by
      have g := hn e
      rw [List.all_cons, Bool.and_eq_true] at g
      exact g
    exact zz_x_kq hP (fun e => (hn2 e).1) hx2.1 (fun lv st S h => zz_go_kq hP is lv st S (fun e => (hn2 e).2) hx2.2 h) lv st S h
/-- ANY RUN keeps cells 0 and 1; one of a method that makes nothing makes nothing -/
theorem zz_run_kq {d j pc : Nat} {lv : zz_Lv} {st : List Value} {S : zz_P} {o : Option Value} {S' : zz_P} (h : zz_run d j pc lv st S o S') : zz_kq (zz_na j) S S' := by
  obtain ⟨_, h⟩ := h
  refine h (fun d j pc lv st S o S' => zz_kq (zz_na j) S S') ⟨fun d j pc lv st S o S' en is hb hg => ?_, fun d j pc lv lv' st S o S' hl hs => hs⟩
  have hm := zz_lookup_mem hb
  refine zz_go_kq (P := fun d j pc lv st S o S' => zz_kq (zz_na j) S S') (fun _ _ _ _ _ _ _ _ h => h) is lv st S (fun e => ?_) ?_ hg
  · have j318 : j < 318 := by
      have e2 := e
      unfold zz_na at e2
      rw [Bool.and_eq_true] at e2
      exact of_decide_eq_true e2.1
    have g := List.all_eq_true.mp zz_na_ok j (List.mem_range.mpr j318)
    rw [e] at g
    exact List.all_eq_true.mp g _ hm
  · exact List.all_eq_true.mp (List.all_eq_true.mp zz_kp_ok _ (zz_M_mem j)) _ hm
