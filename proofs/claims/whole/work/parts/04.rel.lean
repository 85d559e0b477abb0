/-! HOW A POOL STANDS IN THE HEAP -/
abbrev zz_E : Type := va_G × (Nat → ClassId) × Nat × Nat × Nat
def zz_bs (E : zz_E) : Nat := E.2.2.1
/-- where an address of the pool lies: 0 and 1 are arrays that were there before, the others lie in a row from bs on -/
def zz_ad (E : zz_E) (a : Nat) : Nat := match a with
  | 0 => E.2.2.2.1
  | 1 => E.2.2.2.2
  | a + 2 => E.2.2.1 + a
def zz_cv (E : zz_E) (v : Value) : Value := match v with
  | .ref a => .ref (zz_ad E a)
  | v => v
theorem zz_cv_cat (E : zz_E) (v : Value) : (zz_cv E v).category = v.category := by cases v <;> rfl
theorem zz_cv_cats (E : zz_E) (l : List Value) : ((l.map (zz_cv E)).map Value.category) = l.map Value.category := by
  rw [List.map_map]
  exact List.map_congr_left (fun v _ => zz_cv_cat E v)
/-- element i of an array of kind k at a -/
def zz_el (S : zz_P) (a k i : Nat) : Value := if k = 15 then .long (zz_J S a i) else if k = 17 then zz_rv (zz_R S a i) else .int (zz_I S a i)
def zz_cell (E : zz_E) (U : State) (H : Heap) (S : zz_P) (a : Nat) : Prop :=
  (zz_K S a < 12 → t_OB (zz_ad E a) (E.1.1 (zz_K S a)) (zz_N (zz_K S a)) (E.1.2 (zz_K S a)) H (fun i => zz_cv E (zz_fv S a (zz_K S a) i))) ∧
  (12 ≤ zz_K S a → zz_K S a < 18 → H[zz_ad E a]? = some (arrV (E.2.1 (zz_K S a)) (zz_L S a) (fun i => zz_cv E (zz_el S a (zz_K S a) i)))) ∧
  (zz_K S a = 18 → ∃ cell : Cell, H[zz_ad E a]? = some cell ∧ U.isArrayOf cell .int ∧ cell.vm ≠ .unknown ∧ cell.slots.size = zz_L S a ∧ ∀ i : Nat, i < zz_L S a → cell.slots[i]? = some (.int (zz_I S a i)))
def zz_rel (E : zz_E) (S : zz_P) (U : State) (H : Heap) : Prop :=
  H.size = zz_bs E + zz_n S ∧ zz_K S 0 = 18 ∧ zz_K S 1 = 18 ∧ zz_ad E 0 < zz_bs E ∧ zz_ad E 1 < zz_bs E ∧ (∀ a, zz_K S a < 19 → a < zz_n S + 2) ∧ ∀ a, zz_cell E U H S a
/-- the arrays' classes by their kinds -/
def zz_tys (cy : Nat → ClassId) : List (ClassId × FieldType) := [(cy 12, .byte), (cy 13, .char), (cy 14, .int), (cy 15, .long), (cy 16, .boolean), (cy 17, .object "OneStageTwoPlays$Night")]
/-- the words that stay though they aren't good ones: nest mates' links, what is declared -/
def zz_nst (w : Cond) : Bool := match w with
  | .fieldLinkNest _ _ _ _ _ _ => true
  | .methodLinkNest _ _ _ _ => true
  | .declares _ => true
  | _ => false
def zz_G2 : List Cond := lw_tbl.filter zz_nst
theorem zz_nw_warm {w : Cond} (h : zz_nst w = true) {s U : State} (hW : s.WarmedH U.vm) (hz : va_Nw w s) : va_Nw w U := by
  cases w
  case fieldLinkNest => exact va_Nw.warmF hW hz
  case methodLinkNest => exact va_Nw.warmM hW hz
  case declares => exact va_Nw.warmD hW hz
  all_goals exact absurd h (by simp [zz_nst])
theorem zz_nst_tab {w : Cond} (h : zz_nst w = true) : w.onTables = true := by
  cases w
  case fieldLinkNest => rfl
  case methodLinkNest => rfl
  case declares => rfl
  all_goals exact absurd h (by simp [zz_nst])
/-- what holds of the tables of every state, and of the one static -/
def zz_stc (E : zz_E) (U : State) : Prop := va_K E.1 zz_cl (zz_tys E.2.1) U ∧ va_Z "OneStageTwoPlays$Changes" "PLAIN_RULE" "[I" (.ref (zz_ad E 0)) (fun q => zz_bs E ≤ q) U U.heap ∧ (∀ w ∈ zz_G2, va_Nw w U) ∧ va_AO "OneStageTwoPlays$Night" U ∧ vx_Zq Bundle.tN "UNASSIGNED_STACK" Bundle.steD (fun q => zz_bs E ≤ q) U U.heap ∧ vx_Zq Bundle.tN "SUPPRESSED_SENTINEL" Bundle.listD (fun q => zz_bs E ≤ q) U U.heap
theorem zz_stc_moved {E : zz_E} {u U : State} (hW : u.WarmedH U.vm) (hh : ∀ q, q < zz_bs E → U.heap[q]? = u.heap[q]?) (h : zz_stc E u) : zz_stc E U := by
  refine ⟨va_K.moved hW.alike h.1, ?_, fun w hw => zz_nw_warm (List.mem_filter.mp hw).2 hW (h.2.2.1 w hw), va_AO.moved hW.alike h.2.2.2.1, vx_Zq.kept (vx_Zq.moved hW.alike h.2.2.2.2.1) (fun a _ ha => hh a (Nat.not_le.mp ha)), vx_Zq.kept (vx_Zq.moved hW.alike h.2.2.2.2.2) (fun a _ ha => hh a (Nat.not_le.mp ha))⟩
  have h2 := va_Z.moved hW.alike h.2.1
  obtain ⟨cf, kf, fi, f, a, cell, h1, h2, h3, h4, h5, h6, h7, h8⟩ := h2
  exact ⟨cf, kf, fi, f, a, cell, h1, h2, h3, h4, by rw [hh a (Nat.not_le.mp h8)]; exact h5, h6, h7, h8⟩
theorem zz_stc_same {E : zz_E} {u U : State} (hv : u.vm = U.vm) (hh : U.heap = u.heap) (h : zz_stc E u) : zz_stc E U := by
  have ha : u.vm.Alike U.vm := by rw [hv]; exact Vm.Alike.refl U.vm
  refine ⟨va_K.moved ha h.1, ?_, fun w hw => va_Nw.same (zz_nst_tab (List.mem_filter.mp hw).2) hv (h.2.2.1 w hw), va_AO.moved ha h.2.2.2.1, by rw [hh]; exact vx_Zq.moved ha h.2.2.2.2.1, by rw [hh]; exact vx_Zq.moved ha h.2.2.2.2.2⟩
  have h2 := va_Z.moved ha h.2.1
  rw [hh]
  exact h2
theorem zz_ad_big {E : zz_E} {a : Nat} (h : 2 ≤ a) : zz_ad E a = zz_bs E + (a - 2) := by
  obtain ⟨b, rfl⟩ : ∃ b, a = b + 2 := ⟨a - 2, by omega⟩
  simp [zz_ad, zz_bs]
theorem zz_dyn {E : zz_E} {S : zz_P} {U : State} {H : Heap} (h : zz_rel E S U H) {a : Nat} (ha : zz_K S a < 18) : 2 ≤ a := by
  rcases Nat.lt_or_ge a 2 with q | q
  · have : a = 0 ∨ a = 1 := by omega
    rcases this with rfl | rfl
    · rw [h.2.1] at ha; omega
    · rw [h.2.2.1] at ha; omega
  · exact q
theorem zz_apart {E : zz_E} {S : zz_P} {U : State} {H : Heap} (h : zz_rel E S U H) {a b : Nat} (ha : zz_K S a < 18) (hb : zz_K S b < 19) (hn : b ≠ a) : zz_ad E b ≠ zz_ad E a := by
  have h2 := zz_dyn h ha
  rw [zz_ad_big h2]
  rcases Nat.lt_or_ge b 2 with q | q
  · have : b = 0 ∨ b = 1 := by omega
    rcases this with rfl | rfl
    · have := h.2.2.2.1; omega
    · have := h.2.2.2.2.1; omega
  · rw [zz_ad_big q]; omega
theorem zz_cell_kept {E : zz_E} {U : State} {H H' : Heap} {S S2 : zz_P} {a : Nat} (h : zz_cell E U H S a) (hK : zz_K S2 a = zz_K S a) (hL : zz_L S2 a = zz_L S a) (hI : ∀ i, zz_I S2 a i = zz_I S a i) (hR : ∀ i, zz_R S2 a i = zz_R S a i) (hJ : ∀ i, zz_J S2 a i = zz_J S a i) (hH : zz_K S a < 19 → H'[zz_ad E a]? = H[zz_ad E a]?) : zz_cell E U H' S2 a := by
  have e1 : ∀ k, (fun i => zz_cv E (zz_fv S2 a k i)) = fun i => zz_cv E (zz_fv S a k i) := fun k => by funext i; simp only [zz_fv, hI, hR]
  have e2 : ∀ k, (fun i => zz_cv E (zz_el S2 a k i)) = fun i => zz_cv E (zz_el S a k i) := fun k => by funext i; simp only [zz_el, hI, hR, hJ]
  refine ⟨fun q => ?_, fun q1 q2 => ?_, fun q => ?_⟩
  · rw [hK] at q ⊢
    rw [e1]
    exact (h.1 q).kept (hH (by omega))
  · rw [hK] at q1 q2 ⊢
    rw [e2, hL, hH (by omega)]
    exact h.2.1 q1 q2
  · rw [hK] at q
    obtain ⟨cell, h1, h2, h3, h4, h5⟩ := h.2.2 q
    exact ⟨cell, by rw [hH (by omega)]; exact h1, h2, h3, by rw [hL]; exact h4, fun i hi => by rw [hI]; exact h5 i (by rw [← hL]; exact hi)⟩
/-- one cell of the pool is written -/
theorem zz_rel_set {E : zz_E} {S S2 : zz_P} {U : State} {H H' : Heap} (h : zz_rel E S U H) {a : Nat} (ha : zz_K S a < 18) (hn : zz_n S2 = zz_n S) (hK : ∀ b, zz_K S2 b = zz_K S b) (hL : ∀ b, zz_L S2 b = zz_L S b) (hI : ∀ b i, b ≠ a → zz_I S2 b i = zz_I S b i) (hR : ∀ b i, b ≠ a → zz_R S2 b i = zz_R S b i) (hJ : ∀ b i, b ≠ a → zz_J S2 b i = zz_J S b i)
    (hz : H'.size = H.size) (ho : ∀ q, q ≠ zz_ad E a → H'[q]? = H[q]?) (hc : zz_cell E U H' S2 a) : zz_rel E S2 U H' := by
  refine ⟨by rw [hz, hn]; exact h.1, by rw [hK]; exact h.2.1, by rw [hK]; exact h.2.2.1, h.2.2.2.1, h.2.2.2.2.1, fun b hb => by rw [hn]; exact h.2.2.2.2.2.1 b (by rw [← hK]; exact hb), fun b => ?_⟩
  by_cases e : b = a
  · subst e; exact hc
  · exact zz_cell_kept (h.2.2.2.2.2.2 b) (hK b) (hL b) (fun i => hI b i e) (fun i => hR b i e) (fun i => hJ b i e) (fun hb => ho _ (zz_apart h ha hb e))
/-- one cell is made -/
theorem zz_rel_new {E : zz_E} {S : zz_P} {U : State} {H H' : Heap} (h : zz_rel E S U H) {k n : Nat} (hz : H'.size = H.size + 1) (ho : ∀ q, q < H.size → H'[q]? = H[q]?) (hc : zz_cell E U H' (zz_new S k n) (zz_n S + 2)) : zz_rel E (zz_new S k n) U H' := by
  have hu : ∀ {α : Type} (f : Nat → α) (v : α) (b : Nat), b ≠ S.1 + 2 → va_up f (S.1 + 2) v b = f b := fun f v b hb => by simp [va_up, hb]
  have hus : ∀ {α : Type} (f : Nat → α) (v : α), va_up f (S.1 + 2) v (S.1 + 2) = v := fun f v => by simp [va_up]
  have hK : ∀ b, b ≠ zz_n S + 2 → zz_K (zz_new S k n) b = zz_K S b := fun b hb => hu _ _ _ hb
  refine ⟨by rw [hz, h.1]; show _ = _ + (S.1 + 1); show _ + S.1 + 1 = _; omega, by rw [hK 0 (by omega)]; exact h.2.1, by rw [hK 1 (by omega)]; exact h.2.2.1, h.2.2.2.1, h.2.2.2.2.1, fun b hb => ?_, fun b => ?_⟩
  · show b < S.1 + 1 + 2
    by_cases e : b = zz_n S + 2
    · have : b = S.1 + 2 := e
      omega
    · rw [hK b e] at hb
      have := h.2.2.2.2.2.1 b hb
      have : b < S.1 + 2 := this
      omega
  · by_cases e : b = zz_n S + 2
    · subst e; exact hc
    · refine zz_cell_kept (h.2.2.2.2.2.2 b) (hK b e) (hu _ _ _ e) (fun i => by show va_up S.2.2.2.2.1 _ _ b i = _; rw [hu _ _ _ e]; rfl) (fun i => by show va_up S.2.2.2.2.2.1 _ _ b i = _; rw [hu _ _ _ e]; rfl) (fun i => by show va_up S.2.2.2.2.2.2 _ _ b i = _; rw [hu _ _ _ e]; rfl) (fun hb => ho _ ?_)
      have hb2 := h.2.2.2.2.2.1 b hb
      rcases Nat.lt_or_ge b 2 with q | q
      · have : b = 0 ∨ b = 1 := by omega
        have h1 := h.1
        rcases this with rfl | rfl
        · have := h.2.2.2.1; omega
        · have := h.2.2.2.2.1; omega
      · rw [zz_ad_big q, h.1]; omega
/-- the tables of another state that is alike -/
theorem zz_rel_moved {E : zz_E} {S : zz_P} {u U : State} {H : Heap} (hvm : u.vm.Alike U.vm) (h : zz_rel E S u H) : zz_rel E S U H := by
  refine ⟨h.1, h.2.1, h.2.2.1, h.2.2.2.1, h.2.2.2.2.1, h.2.2.2.2.2.1, fun a => ⟨(h.2.2.2.2.2.2 a).1, (h.2.2.2.2.2.2 a).2.1, fun q => ?_⟩⟩
  obtain ⟨cell, h1, h2, h3⟩ := (h.2.2.2.2.2.2 a).2.2 q
  exact ⟨cell, h1, State.isArrayOf_alike hvm h2, h3⟩
/-! LOCALS -/
def zz_lvok (E : zz_E) (ls : Array Slot) (n : Nat) (lv : zz_Lv) : Prop := ls.size = n ∧ lv_wf ls ∧ ∀ (i : Nat) (v : Value), lv[i]? = some (some v) → ls[i]? = some (.val (zz_cv E v))
theorem zz_lv_get {E : zz_E} {ls : Array Slot} {n : Nat} {lv : zz_Lv} (h : zz_lvok E ls n lv) {i : Nat} {v : Value} (hv : lv.getD i none = some v) : ls[i]? = some (.val (zz_cv E v)) := by
  refine h.2.2 i v ?_
  rw [List.getD_eq_getElem?_getD] at hv
  cases hq : lv[i]? with
  | none => rw [hq] at hv; cases hv
  | some x => rw [hq] at hv; exact congrArg some hv
theorem zz_kill_get {lv : zz_Lv} {i m : Nat} {w : Value} (h : (zz_kill lv i)[m]? = some (some w)) : lv[m]? = some (some w) ∧ ¬ (m + 1 = i ∧ w.category = 2) := by
  cases i with
  | zero => exact ⟨h, fun q => by omega⟩
  | succ i =>
    simp only [zz_kill] at h
    split at h
    · next v hv =>
      split at h
      · rw [List.getElem?_set] at h
        split at h
        · split at h <;> simp at h
        · exact ⟨h, fun q => by omega⟩
      · next hc =>
        refine ⟨h, fun q => ?_⟩
        have e : m = i := by omega
        subst e
        rw [List.getD_eq_getElem?_getD, h] at hv
        have : w = v := by simpa using hv
        subst this
        exact hc q.2
    · next hv =>
      refine ⟨h, fun q => ?_⟩
      have e : m = i := by omega
      subst e
      rw [List.getD_eq_getElem?_getD, h] at hv
      simp at hv
def zz_al (E : zz_E) (lv : zz_Lv) (n : Nat) : List (Nat × Value) := (List.range n).filterMap fun i => (lv.getD i none).map fun v => (i, zz_cv E v)
theorem zz_al_has {E : zz_E} {ls : Array Slot} {n : Nat} {lv : zz_Lv} (h : zz_lvok E ls n lv) : lv_has ls n (zz_al E lv n) := by
  refine ⟨h.1, h.2.1, fun q hq => ?_⟩
  obtain ⟨i, -, hi⟩ := List.mem_filterMap.mp hq
  cases hv : lv.getD i none with
  | none => rw [hv] at hi; cases hi
  | some v =>
    rw [hv] at hi
    cases hi
    exact zz_lv_get h hv
theorem zz_al_in {E : zz_E} {n : Nat} {lv : zz_Lv} {i : Nat} {v : Value} (hi : i < n) (h : lv[i]? = some (some v)) : (i, zz_cv E v) ∈ zz_al E lv n := by
  refine List.mem_filterMap.mpr ⟨i, List.mem_range.mpr hi, ?_⟩
  rw [List.getD_eq_getElem?_getD, h]
  rfl
theorem zz_lv_st {E : zz_E} {ls ls' : Array Slot} {n i : Nat} {lv : zz_Lv} {v : Value} (h : zz_lvok E ls n lv) (h' : lv_has ls' n ((i, zz_cv E v) :: (zz_al E lv n).filter (fun q => !(q.1 == i) && !(q.1 + 1 == i && q.2.category == 2)))) : zz_lvok E ls' n (zz_st lv i v) := by
  refine ⟨h'.1, h'.2.1, fun m w hw => ?_⟩
  unfold zz_st at hw
  rw [List.getElem?_set] at hw
  split at hw
  · next e =>
    subst e
    split at hw
    · cases hw; exact h'.2.2 _ List.mem_cons_self
    · cases hw
  · next e =>
    obtain ⟨h1, h2⟩ := zz_kill_get hw
    have hm : m < n := by
      have := h.2.2 m w h1
      have := (Array.getElem?_eq_some_iff.mp this).1
      rw [h.1] at this; exact this
    refine h'.2.2 (m, zz_cv E w) (List.mem_cons_of_mem _ (List.mem_filter.mpr ⟨zz_al_in hm h1, ?_⟩))
    have e1 : (m == i) = false := by simpa using fun q => e q.symm
    have e2 : (m + 1 == i && (zz_cv E w).category == 2) = false := by
      rw [zz_cv_cat]
      cases hq : (m + 1 == i && w.category == 2) with
      | false => rfl
      | true => exact absurd (by simpa using hq) h2
    simp only [e1, e2]
    rfl
theorem zz_lv_st2 {E : zz_E} {ls ls' : Array Slot} {n i : Nat} {lv : zz_Lv} {v : Value} (h : zz_lvok E ls n lv) (h' : lv_has ls' n ((i, zz_cv E v) :: (zz_al E lv n).filter (fun q => !(q.1 == i) && (!(q.1 == i + 1) && !(q.1 + 1 == i && q.2.category == 2))))) : zz_lvok E ls' n (zz_st2 lv i v) := by
  refine ⟨h'.1, h'.2.1, fun m w hw => ?_⟩
  unfold zz_st2 at hw
  rw [List.getElem?_set] at hw
  split at hw
  · split at hw <;> simp at hw
  · next e0 =>
    rw [List.getElem?_set] at hw
    split at hw
    · next e =>
      subst e
      split at hw
      · cases hw; exact h'.2.2 _ List.mem_cons_self
      · cases hw
    · next e =>
      obtain ⟨h1, h2⟩ := zz_kill_get hw
      have hm : m < n := by
        have := h.2.2 m w h1
        have := (Array.getElem?_eq_some_iff.mp this).1
        rw [h.1] at this; exact this
      refine h'.2.2 (m, zz_cv E w) (List.mem_cons_of_mem _ (List.mem_filter.mpr ⟨zz_al_in hm h1, ?_⟩))
      have e1 : (m == i) = false := by simpa using fun q => e q.symm
      have e3 : (m == i + 1) = false := by simpa using fun q => e0 q.symm
      have e2 : (m + 1 == i && (zz_cv E w).category == 2) = false := by
        rw [zz_cv_cat]
        cases hq : (m + 1 == i && w.category == 2) with
        | false => rfl
        | true => exact absurd (by simpa using hq) h2
      simp only [e1, e2, e3]
      rfl
/-! WHAT THE SMALL WORDS SAY -/
theorem zz_ii_inv {st : List Value} {f : Int32 → Int32 → List Value → Prop} (h : zz_ii st f) : ∃ x y r, st = .int y :: .int x :: r ∧ f x y r := by
  unfold zz_ii at h
  split at h
  · exact ⟨_, _, _, rfl, h⟩
  · exact h.elim
theorem zz_i1_inv {st : List Value} {f : Int32 → List Value → Prop} (h : zz_i1 st f) : ∃ x r, st = .int x :: r ∧ f x r := by
  unfold zz_i1 at h
  split at h
  · exact ⟨_, _, rfl, h⟩
  · exact h.elim
theorem zz_ll_inv {st : List Value} {f : Int64 → Int64 → List Value → Prop} (h : zz_ll st f) : ∃ x y r, st = .long y :: .long x :: r ∧ f x y r := by
  unfold zz_ll at h
  split at h
  · exact ⟨_, _, _, rfl, h⟩
  · exact h.elim
theorem zz_r1_inv {st : List Value} {f : Nat → List Value → Prop} (h : zz_r1 st f) : ∃ a r, st = .ref a :: r ∧ f a r := by
  unfold zz_r1 at h
  split at h
  · exact ⟨_, _, rfl, h⟩
  · exact h.elim
theorem zz_ir_inv {st : List Value} {f : Int32 → Nat → List Value → Prop} (h : zz_ir st f) : ∃ i a r, st = .int i :: .ref a :: r ∧ f i a r := by
  unfold zz_ir at h
  split at h
  · exact ⟨_, _, _, rfl, h⟩
  · exact h.elim
theorem zz_iir_inv {st : List Value} {f : Int32 → Int32 → Nat → List Value → Prop} (h : zz_iir st f) : ∃ x i a r, st = .int x :: .int i :: .ref a :: r ∧ f x i a r := by
  unfold zz_iir at h
  split at h
  · exact ⟨_, _, _, _, rfl, h⟩
  · exact h.elim
theorem zz_ldI_inv {lv : zz_Lv} {n : Nat} {f : Int32 → Prop} (h : zz_ldI lv n f) : ∃ x, lv.getD n none = some (.int x) ∧ f x := by
  unfold zz_ldI at h
  split at h
  · next x e => exact ⟨x, e, h⟩
  · exact h.elim
theorem zz_ldL_inv {lv : zz_Lv} {n : Nat} {f : Int64 → Prop} (h : zz_ldL lv n f) : ∃ x, lv.getD n none = some (.long x) ∧ f x := by
  unfold zz_ldL at h
  split at h
  · next x e => exact ⟨x, e, h⟩
  · exact h.elim
theorem zz_ldR_inv {lv : zz_Lv} {n : Nat} {f : Nat → Prop} (h : zz_ldR lv n f) : ∃ x, lv.getD n none = some (.ref x) ∧ f x := by
  unfold zz_ldR at h
  split at h
  · next x e => exact ⟨x, e, h⟩
  · exact h.elim
