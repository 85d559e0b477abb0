/-! BEHIND THE CONSTRUCTORS: the pool has its shape, and what holds between both begins -/
theorem zz_rel_like {E : zz_E} {S S2 : zz_P} {U : State} {H : Heap} (hn : zz_n S2 = zz_n S) (hK : ∀ a, zz_K S2 a = zz_K S a) (hL : ∀ a, zz_L S2 a = zz_L S a) (hI : ∀ a i, zz_I S2 a i = zz_I S a i) (hJ : ∀ a i, zz_J S2 a i = zz_J S a i) (hR : ∀ a i, zz_K S a < 12 → i < zz_N (zz_K S a) → zz_R S2 a i = zz_R S a i) (hR2 : ∀ a i, zz_K S a = 17 → i < zz_L S a → zz_R S2 a i = zz_R S a i) (h : zz_rel E S U H) : zz_rel E S2 U H := by
  refine ⟨by rw [hn]; exact h.1, by rw [hK]; exact h.2.1, by rw [hK]; exact h.2.2.1, h.2.2.2.1, h.2.2.2.2.1, fun a ha => by rw [hn]; exact h.2.2.2.2.2.1 a (by rw [← hK]; exact ha), fun a => ?_⟩
  obtain ⟨c1, c2, c3⟩ := h.2.2.2.2.2.2 a
  refine ⟨fun q => ?_, fun q1 q2 => ?_, fun q => ?_⟩
  · rw [hK] at q ⊢
    refine t_OB.to (c1 q) (fun k hk => ?_)
    unfold zz_fv
    rw [hI, hR a k q hk]
  · rw [hK] at q1 q2 ⊢
    rw [hL]
    have e := c2 q1 q2
    rw [e]
    unfold arrV
    congr 2
    refine congrArg _ (funext fun j => ?_)
    unfold zz_el
    dsimp only
    rw [hI, hJ]
    by_cases k17 : zz_K S a = 17
    · rw [hR2 a j.val k17 j.isLt]
    · rw [if_neg k17, if_neg k17]
  · rw [hK] at q
    obtain ⟨cell, d1, d2, d3, d4, d5⟩ := c3 q
    exact ⟨cell, d1, d2, d3, by rw [hL]; exact d4, fun i hi => by rw [hI]; exact d5 i (by rw [← hL]; exact hi)⟩
section STA
variable {l : Launch} {E : zz_E}
theorem zg_like {d j pc : Nat} {lv : zz_Lv} {st : List Value} {S S2 : zz_P} {o : Option Value} {S' : zz_P} (hn : zz_n S2 = zz_n S) (hs : zz_s S2 = zz_s S) (hr : ∀ U H, zz_rel E S U H → zz_rel E S2 U H) (h : zz_sim l E d j pc lv st S2 o S') : zz_sim l E d j pc lv st S o S' := by
  refine ⟨⟨by rw [← hn]; exact h.1.1, by rw [← hs]; exact h.1.2⟩, fun p e s m args below meth c S0 hf a1 a2 H locs ls hh hl => ?_⟩
  have g := h.2 p e s m args below meth c S0 hf (by rw [hn]; exact a1) (by rw [hs]; exact a2) H locs ls ⟨hr s H hh.1, hh.2⟩ hl
  rw [hn, hs] at g
  exact g
end STA
def zF_0 (I : Nat → Nat → Int32) (n1 : Nat) : zz_F := (82, 7170, zz_K (zT_201 I n1), zz_L (zT_201 I n1), n1, 48, none, 58)
def zI_0 (I : Nat → Nat → Int32) (n1 : Nat) : Nat → Nat → Int32 := zz_I (zT_201 I n1)
def zJ_0 (I : Nat → Nat → Int32) (n1 : Nat) : Nat → Nat → Int64 := zz_J (zT_201 I n1)
theorem zO_same (I I' : Nat → Nat → Int32) (n1 n1' : Nat) : ∀ l, zz_n (zO I n1 l) = zz_n (zO I' n1' l) ∧ zz_s (zO I n1 l) = zz_s (zO I' n1' l) ∧ zz_K (zO I n1 l) = zz_K (zO I' n1' l) ∧ zz_R (zO I n1 l) = zz_R (zO I' n1' l) ∧ ∀ a, a ≠ 1 → zz_L (zO I n1 l) a = zz_L (zO I' n1' l) a
  | [] => ⟨rfl, rfl, rfl, rfl, fun a ha => by
    show (if a = 0 then 7 else if a = 1 then n1 else 0) = (if a = 0 then 7 else if a = 1 then n1' else 0)
    rw [if_neg ha, if_neg ha]⟩
  | q :: l => by
    obtain ⟨h1, h2, h3, h4, h5⟩ := zO_same I I' n1 n1' l
    rw [zO_s, zO_s]
    generalize zO I n1 l = A at *
    generalize zO I' n1' l = B at *
    obtain ⟨t, a, i, r, k, v⟩ := q
    have h1 : A.1 = B.1 := h1
    have h2 : A.2.1 = B.2.1 := h2
    have h3 : A.2.2.1 = B.2.2.1 := h3
    have h4 : A.2.2.2.2.2.1 = B.2.2.2.2.2.1 := h4
    have h5 : ∀ a, a ≠ 1 → A.2.2.2.1 a = B.2.2.2.1 a := h5
    match t with
    | 0 =>
      refine ⟨?_, ?_, ?_, ?_, fun c hc => ?_⟩
      · show A.1 + 1 = B.1 + 1
        rw [h1]
      · show A.2.1 + i = B.2.1 + i
        rw [h2]
      · show va_up A.2.2.1 (A.1 + 2) a = va_up B.2.2.1 (B.1 + 2) a
        rw [h1, h3]
      · show va_up A.2.2.2.2.2.1 (A.1 + 2) (fun _ => none) = va_up B.2.2.2.2.2.1 (B.1 + 2) (fun _ => none)
        rw [h1, h4]
      · show (if c = A.1 + 2 then i else A.2.2.2.1 c) = (if c = B.1 + 2 then i else B.2.2.2.1 c)
        rw [h1, h5 c hc]
    | 1 => exact ⟨h1, h2, h3, h4, h5⟩
    | t + 2 =>
      refine ⟨h1, h2, h3, ?_, h5⟩
      show zz_u A.2.2.2.2.2.1 a i (some r) = zz_u B.2.2.2.2.2.1 a i (some r)
      rw [h4]
/-- what was made, by kinds, lengths and references alone -/
def zT_K : Nat → Nat := zz_K (zO (fun _ _ => 0) 0 zo_201)
def zT_R : Nat → Nat → Option Nat := zz_R (zO (fun _ _ => 0) 0 zo_201)
def zT_L : Nat → Nat := zz_L (zO (fun _ _ => 0) 0 zo_201)
theorem zT_Kok : (List.range 84).all (fun a => zT_K a == zz_XK (fun _ => 99) a) = true := by decide +kernel
theorem zT_Rok : (List.range 84).all (fun a => (List.range 50).all (fun i => zT_R a i == zz_XR 48 none 58 a i)) = true := by decide +kernel
theorem zT_Lok : (List.range 84).all (fun a => a == 1 || zT_L a == zz_XL 0 (fun _ => 0) a) = true := by decide +kernel
theorem zT_L17 : (List.range 84).all (fun a => !(zT_K a == 17) || decide (zT_L a ≤ 50)) = true := by decide +kernel
theorem zT_n : zz_n (zO (fun _ _ => 0) 0 zo_201) = 82 ∧ zz_s (zO (fun _ _ => 0) 0 zo_201) = 7170 := by decide +kernel
theorem zT_N50 (k : Nat) : zz_N k ≤ 50 := by
  unfold zz_N
  split <;> omega
/-- nothing lies beyond -/
theorem zO_far (I : Nat → Nat → Int32) (n1 : Nat) : ∀ l a, zz_n (zO I n1 l) + 2 ≤ a → zz_K (zO I n1 l) a = 99
  | [], a, h => by
    have h : 0 + 2 ≤ a := h
    show (if a < 2 then 18 else 99) = 99
    rw [if_neg (by omega)]
  | q :: l, a, h => by
    have ih := zO_far I n1 l a
    rw [zO_s] at h ⊢
    generalize zO I n1 l = A at *
    obtain ⟨t, b, i, r, k, v⟩ := q
    match t with
    | 0 =>
      have h : A.1 + 1 + 2 ≤ a := h
      show (if a = A.1 + 2 then b else A.2.2.1 a) = 99
      rw [if_neg (by omega)]
      exact ih (show A.1 + 2 ≤ a by omega)
    | 1 => exact ih h
    | t + 2 => exact ih h
/-- the pool behind the constructors has the shape -/
theorem zT_rel {E : zz_E} {I : Nat → Nat → Int32} {n1 : Nat} {U : State} {H : Heap} (h : zz_rel E (zT_201 I n1) U H) : zz_rel E (zz_S (zF_0 I n1) (zI_0 I n1) (zJ_0 I n1)) U H := by
  obtain ⟨s1, s2, s3, s4, s5⟩ := zO_same I (fun _ _ => 0) n1 0 zo_201
  rw [← zTo_201] at s1 s2 s3 s4 s5
  have e3 : zz_K (zT_201 I n1) = zT_K := s3
  have e4 : zz_R (zT_201 I n1) = zT_R := s4
  have far : ∀ a, 84 ≤ a → zz_K (zT_201 I n1) a = 99 := fun a ha => by
    rw [zTo_201]
    refine zO_far I n1 zo_201 a ?_
    rw [← zTo_201, s1, zT_n.1]; omega
  have K : ∀ a, zz_K (zz_S (zF_0 I n1) (zI_0 I n1) (zJ_0 I n1)) a = zz_K (zT_201 I n1) a := fun a => by
    show zz_XK (zz_K (zT_201 I n1)) a = _
    by_cases q : a < 84
    · have := List.all_eq_true.mp zT_Kok a (List.mem_range.mpr q)
      rw [e3, eq_of_beq this]
      unfold zz_XK
      exact zz_c1 q rfl
    · rw [zc_XK (by omega)]
  have L1 : zz_L (zT_201 I n1) 1 = n1 := by
    have : ∀ l, zz_L (zO I n1 l) 1 = n1 := by
      intro l
      induction l with
      | nil => rfl
      | cons q l ih =>
        rw [zO_s]
        generalize zO I n1 l = A at *
        obtain ⟨t, b, i, r, k, v⟩ := q
        match t with
        | 0 =>
          show (if 1 = A.1 + 2 then i else A.2.2.2.1 1) = n1
          rw [if_neg (by omega)]
          exact ih
        | 1 => exact ih
        | t + 2 => exact ih
    rw [zTo_201]
    exact this zo_201
  have L : ∀ a, zz_L (zz_S (zF_0 I n1) (zI_0 I n1) (zJ_0 I n1)) a = zz_L (zT_201 I n1) a := fun a => by
    show zz_XL n1 (zz_L (zT_201 I n1)) a = _
    by_cases q : a < 84
    · by_cases a1 : a = 1
      · subst a1; rw [L1]; rfl
      · have w := List.all_eq_true.mp zT_Lok a (List.mem_range.mpr q)
        rw [Bool.or_eq_true] at w
        have w := w.resolve_left (fun z => a1 (eq_of_beq z))
        rw [show zz_L (zT_201 I n1) a = zT_L a from s5 a a1, eq_of_beq w]
        have far1 : ∀ (m m' : Nat) (f f' : Nat → Nat) (a : Nat), a < 84 → a ≠ 1 → zz_XL m f a = zz_XL m' f' a := by
          intro m m' f f' a ha h1
          have : ∀ m, zz_XL m f a = zz_XL m f' a := fun m => by
            unfold zz_XL
            exact zz_c1 ha rfl
          rw [this]
          by_cases a0 : a = 0
          · subst a0; rfl
          · unfold zz_XL
            rw [zz_blt1 ha]
            have b2 : Nat.blt a 2 = false := zz_blt0 (by omega)
            rw [b2]
            rfl
        exact far1 _ _ _ _ a q a1
    · rw [zc_XL (by omega)]
  refine zz_rel_like ?_ K L (fun _ _ => rfl) (fun _ _ => rfl) (fun a i hk hi => ?_) (fun a i hk hi => ?_) h
  · show 82 = _
    rw [s1, zT_n.1]
  · have a84 : a < 84 := Nat.lt_of_not_le (fun w => by rw [far a w] at hk; omega)
    have i50 : i < 50 := Nat.lt_of_lt_of_le hi (zT_N50 _)
    have := List.all_eq_true.mp (List.all_eq_true.mp zT_Rok a (List.mem_range.mpr a84)) i (List.mem_range.mpr i50)
    rw [e4, eq_of_beq this]
    rfl
  · have a84 : a < 84 := Nat.lt_of_not_le (fun w => by rw [far a w] at hk; omega)
    have a1 : a ≠ 1 := fun w => by
      subst w
      rw [e3] at hk
      exact absurd hk (by decide +kernel)
    have w := List.all_eq_true.mp zT_L17 a (List.mem_range.mpr a84)
    rw [← e3, hk] at w
    have i50 : i < 50 := by
      have : zT_L a ≤ 50 := by simpa using w
      rw [show zz_L (zT_201 I n1) a = zT_L a from s5 a a1] at hi
      omega
    have := List.all_eq_true.mp (List.all_eq_true.mp zT_Rok a (List.mem_range.mpr a84)) i (List.mem_range.mpr i50)
    rw [e4, eq_of_beq this]
    rfl
theorem zT_ns (I : Nat → Nat → Int32) (n1 : Nat) : zz_n (zT_201 I n1) = 82 ∧ zz_s (zT_201 I n1) = 7170 := by
  obtain ⟨s1, s2, -⟩ := zO_same I (fun _ _ => 0) n1 0 zo_201
  rw [← zTo_201] at s1 s2
  exact ⟨s1.trans zT_n.1, s2.trans zT_n.2⟩
set_option maxRecDepth 100000 in
set_option maxHeartbeats 8000000 in
theorem zT_zi {I : Nat → Nat → Int32} {n1 : Nat} (h0 : zi_pl I) : zi 0 (zI_0 I n1) (zJ_0 I n1) (zF_0 I n1) := by
  refine ⟨⟨by omega, rfl, rfl, fun k hk => by omega, fun s hs => by omega, rfl, rfl⟩, ⟨rfl, rfl, rfl, rfl, rfl, rfl, rfl, rfl, rfl, fun s hs => by omega, .inl rfl⟩, ⟨⟨0, by omega, rfl, rfl⟩, fun k hk => ⟨by rw [show zI_0 I n1 3 k = 0 from rfl, show zI_0 I n1 55 k = 0 from rfl]; decide, 0, by omega, by rw [show zI_0 I n1 55 k = 0 from rfl]; decide⟩⟩, ⟨0, by omega, rfl, rfl, fun t ht => by omega⟩, ⟨rfl, rfl, fun i hi => hi, fun i hi => ?_⟩, ⟨0, 0, by omega, by omega, rfl, rfl, rfl, fun k hk => by omega⟩, ⟨0, by omega, rfl, fun i hi => ?_⟩, ⟨0, 7, by omega, by omega, rfl, rfl, ⟨.inl rfl, fun k hk => by omega⟩, fun e => ?_, .inl rfl, fun q => ?_⟩, ?_⟩
  · show bt 0 i = false
    exact b_0 i
  · have a : zI_0 I n1 12 i = 0 := rfl
    have b : zI_0 I n1 81 i = 0 := rfl
    have c : zI_0 I n1 82 i = nI 0 := rfl
    refine ⟨.inl a, .inl b, ⟨0, by omega, c⟩, ?_, fun w => ?_⟩
    · rw [a, b]
      exact ⟨fun w => absurd w (by decide), fun w => absurd w.1 (by decide)⟩
    · rw [a] at w; exact absurd w (by decide)
  · obtain ⟨p0, p1, p2, p3, p4, p5, p6⟩ := h0
    exact zc_plain (show I 0 0 = _ from p0) (show I 0 1 = _ from p1) (show I 0 2 = _ from p2) (show I 0 3 = _ from p3) (show I 0 4 = _ from p4) (show I 0 5 = _ from p5) (show I 0 6 = _ from p6)
  · have a : zI_0 I n1 28 4 = 0 := rfl
    rw [a] at q; exact absurd q (by decide)
  · refine ⟨by show 82 ≤ 82; omega, rfl, rfl, .inl rfl, ?_⟩
    show zz_XL n1 _ 48 ≤ 4096
    exact Nat.zero_le _
theorem zT_01 (I : Nat → Nat → Int32) (n1 : Nat) : zI_0 I n1 0 = I 0 ∧ zI_0 I n1 1 = I 1 := by
  have : ∀ l : List (Nat × Nat × Nat × Nat × Nat × Int32), l.all (fun q => decide (q.1 ≠ 1 ∨ 2 ≤ q.2.1)) = true → zz_I (zO I n1 l) 0 = I 0 ∧ zz_I (zO I n1 l) 1 = I 1 := by
    intro l
    induction l with
    | nil => intro _; exact ⟨rfl, rfl⟩
    | cons q l ih =>
      intro hq
      rw [List.all_cons, Bool.and_eq_true] at hq
      have ih := ih hq.2
      have hq := of_decide_eq_true hq.1
      rw [zO_s]
      generalize zO I n1 l = A at *
      obtain ⟨t, b, i, r, k, v⟩ := q
      match t with
      | 0 => exact ⟨(show va_up A.2.2.2.2.1 (A.1 + 2) (fun _ => 0) 0 = _ from if_neg (by omega)).trans ih.1, (show va_up A.2.2.2.2.1 (A.1 + 2) (fun _ => 0) 1 = _ from if_neg (by omega)).trans ih.2⟩
      | 1 =>
        have hb : 2 ≤ b := hq.resolve_left (fun w => w rfl)
        refine ⟨Eq.trans (funext fun j => ?_) ih.1, Eq.trans (funext fun j => ?_) ih.2⟩
        · exact if_neg (fun w => by omega)
        · exact if_neg (fun w => by omega)
      | t + 2 => exact ih
  show zz_I (zT_201 I n1) 0 = _ ∧ zz_I (zT_201 I n1) 1 = _
  rw [zTo_201]
  exact this zo_201 (by decide +kernel)
