/-! THE CLASS'S READER OF A RULE IN MEMORY -/
def zg_M (I : Nat → Nat → Int32) (s : zg_S) : Prop := I 37 2 = nI s.1.length ∧ I 37 3 = nI s.2.1.length ∧ I 37 4 = nI s.2.2.1 ∧ (∀ k, k ≤ 4 → bt (I 37 5) k = s.2.2.2.1 k) ∧ I 37 6 = nI s.2.2.2.2.1 ∧ I 37 7 = (if s.2.2.2.2.2 = true then 1 else 0) ∧ zc_ar (I 38) s.1 ∧ zc_ar (I 39) s.2.1 ∧ s.2.2.1 ≤ 4 ∧ s.2.2.2.2.1 ≤ 3
theorem zg_rank {N : Nat} (hN : 100000 ≤ N) (x : Int32) (I : Nat → Nat → Int32) (J : Nat → Nat → Int64) : zf_X8_rankOf N x I J = some (nI (zg_rk x), I, J) := by
  obtain ⟨M, rfl⟩ := zu_one N hN
  rw [zo_X8_rankOf]
  unfold zb_X8_rankOf_0 zg_rk
  by_cases c1 : x = 42
  · rw [if_pos c1, if_pos (.inl c1)]; rfl
  by_cases c2 : x = 43
  · subst c2; rfl
  by_cases c3 : x = 45
  · subst c3; rfl
  by_cases c4 : x = 47
  · subst c4; rfl
  by_cases c5 : x = 60
  · subst c5; rfl
  by_cases c6 : x = 61
  · subst c6; rfl
  by_cases c7 : x = 62
  · subst c7; rfl
  by_cases c8 : x = 256
  · subst c8; rfl
  rw [if_neg c1, if_neg c2, if_neg c3, if_neg c4, if_neg c5, if_neg c6, if_neg c7, if_neg c8, if_neg (fun w => w.elim c1 c4), if_neg (fun w => w.elim c2 c3), if_neg (fun w => w.elim c5 (fun w => w.elim c6 c7)), if_neg c8]
  rfl
theorem zg_hold {I : Nat → Nat → Int32} {k : Nat} (h : I 37 3 = nI k) (hk : k < 40) (x : Int32) : zw_X8_hold I x = zz_u (zz_u I 39 k x) 37 3 (nI (k + 1)) := by
  unfold zw_X8_hold
  rw [h, if_neg (nI_pos (by omega)), if_neg (nI_ge hk (by omega)), nI_clamp (by omega), nI_1]
theorem zg_emit {I : Nat → Nat → Int32} {k : Nat} (h : I 37 2 = nI k) (hk : k < 40) (x : Int32) : zw_X8_emit I x = zz_u (zz_u I 38 k x) 37 2 (nI (k + 1)) := by
  unfold zw_X8_emit
  rw [h, if_neg (nI_pos (by omega)), if_neg (nI_ge hk (by omega)), nI_clamp (by omega), nI_1]
theorem zg_ar_up {X : Nat → Nat → Int32} {a k : Nat} {st : List Int32} (h : zc_ar (X a) st) (hk : k = st.length) (v : Int32) : zc_ar (zz_u X a k v a) (v :: st) := by
  subst hk
  rw [zu_r53]
  exact zc_push h v
theorem zg_relM {N : Nat} (hN : 100000 ≤ N) {J : Nat → Nat → Int64} {r : Nat} (hr : r ≤ 4) : ∀ (w cs : List Int32) (u : Nat) (I : Nat → Nat → Int32), w.length < u → cs.length + w.length ≤ 40 → I 37 2 = nI cs.length → I 37 3 = nI w.length → zc_ar (I 38) cs → zc_ar (I 39) w → ∃ I', zl_X8_release N u 15 (nI r) (nI w.length - 1) I J = some (0, I', J) ∧ I' 37 2 = nI (zg_rel r w cs).1.length ∧ I' 37 3 = nI (zg_rel r w cs).2.length ∧ zc_ar (I' 38) (zg_rel r w cs).1 ∧ zc_ar (I' 39) (zg_rel r w cs).2 ∧ (∀ x, x ≠ 37 → x ≠ 38 → I' x = I x) ∧ (∀ i, i ≠ 2 → i ≠ 3 → I' 37 i = I 37 i) ∧ (zg_rel r w cs).1.length + (zg_rel r w cs).2.length = cs.length + w.length := by
  intro w
  induction w with
  | nil =>
    intro cs u I hu hl h2 h3 a38 a39
    obtain ⟨u', rfl⟩ : ∃ u', u = u' + 1 := ⟨u - 1, by omega⟩
    refine ⟨I, ?_, h2, h3, a38, a39, fun _ _ _ => rfl, fun _ _ _ => rfl, rfl⟩
    rw [zo_X8_release_15]
    unfold zb_X8_release_15
    rw [if_pos (show nI ([] : List Int32).length - 1 < 0 by decide)]
  | cons x w ih =>
    intro cs u I hu hl h2 h3 a38 a39
    simp only [List.length_cons] at hu hl h3
    obtain ⟨u', rfl⟩ : ∃ u', u = u' + 1 := ⟨u - 1, by omega⟩
    have top : I 39 w.length = x := zc_top a39
    have stop : (x = 40 ∨ zg_rk x < r) → zg_rel r (x :: w) cs = (cs, x :: w) := fun q => if_pos q
    have l2 : nI (x :: w).length - 1 = nI w.length := nI_pred _
    rw [l2, zo_X8_release_15]
    unfold zb_X8_release_15
    rw [if_neg (nI_pos (by omega)), if_pos (nI_in (show w.length < 40 by omega) (by omega)), nI_clamp (by omega), top]
    by_cases c : x = 40
    · rw [if_pos c, stop (.inl c)]
      exact ⟨I, rfl, h2, h3, a38, a39, fun _ _ _ => rfl, fun _ _ _ => rfl, rfl⟩
    rw [if_neg c, zg_rank hN, Option.bind_some]
    dsimp only
    have r5 : zg_rk x ≤ 4 := by
      unfold zg_rk
      repeat' split
      all_goals omega
    by_cases d : zg_rk x < r
    · rw [if_neg (nI_ge d (by omega)), stop (.inr d)]
      exact ⟨I, rfl, h2, h3, a38, a39, fun _ _ _ => rfl, fun _ _ _ => rfl, rfl⟩
    · rw [if_pos (nI_le (by omega) (by omega)), zg_emit h2 (by omega), show nI w.length + -1 = nI w.length - 1 from (Int32.sub_eq_add_neg _ _).symm]
      have rl : zg_rel r (x :: w) cs = zg_rel r w (-x :: cs) := if_neg (fun q => q.elim c d)
      rw [rl]
      obtain ⟨I', g1, g2, g3, g4, g5, g6, g7, g8⟩ := ih (-x :: cs) u' (zz_u (zz_u (zz_u I 38 cs.length (-x)) 37 2 (nI (cs.length + 1))) 37 3 (nI w.length)) (by omega) (by simp only [List.length_cons]; omega) (by rw [zz_un (by omega), zz_us]; rfl) (zz_us _ _ _ _) (by
        rw [zu_ux (by omega), zu_ux (by omega)]
        exact zg_ar_up a38 rfl (-x)) (by
        rw [zu_ux (by omega), zu_ux (by omega), zu_ux (by omega)]
        exact zc_pop a39)
      refine ⟨I', g1, g2, g3, g4, g5, fun y y1 y2 => (g6 y y1 y2).trans (by rw [zu_ux y1, zu_ux y1, zu_ux y2]), fun i i1 i2 => (g7 i i1 i2).trans (by rw [zz_un (fun q => i2 q.2), zz_un (fun q => i1 q.2), zu_ux (by omega)]), ?_⟩
      rw [g8]
      simp only [List.length_cons]
      omega
theorem zg_release {N : Nat} (hN : 100000 ≤ N) {J : Nat → Nat → Int64} {r : Nat} (hr : r ≤ 4) (w cs : List Int32) (I : Nat → Nat → Int32) (hl : cs.length + w.length ≤ 40) (h2 : I 37 2 = nI cs.length) (h3 : I 37 3 = nI w.length) (a38 : zc_ar (I 38) cs) (a39 : zc_ar (I 39) w) : ∃ I', zf_X8_release N (nI r) I J = some (0, I', J) ∧ I' 37 2 = nI (zg_rel r w cs).1.length ∧ I' 37 3 = nI (zg_rel r w cs).2.length ∧ zc_ar (I' 38) (zg_rel r w cs).1 ∧ zc_ar (I' 39) (zg_rel r w cs).2 ∧ (∀ x, x ≠ 37 → x ≠ 38 → I' x = I x) ∧ (∀ i, i ≠ 2 → i ≠ 3 → I' 37 i = I 37 i) ∧ (zg_rel r w cs).1.length + (zg_rel r w cs).2.length = cs.length + w.length := by
  obtain ⟨M, rfl⟩ := zu_one N hN
  rw [zo_X8_release]
  unfold zb_X8_release_0
  have mn : zz_min (I 37 3) (nI 40) = nI w.length := by
    rw [h3]
    unfold zz_min
    rw [if_neg (nI_nlt (by omega) (by omega))]
  rw [mn]
  exact zg_relM hN hr w cs M I (by omega) hl h2 h3 a38 a39
theorem zg_isD (x : Int32) : zv_X8_isDigit x = if zq_dig x = true then 1 else 0 := by
  unfold zv_X8_isDigit zq_dig
  by_cases q1 : x < 48
  · rw [if_pos q1, if_neg (fun w => Int32.not_le.mpr q1 (of_decide_eq_true w).1)]
  · rw [if_neg q1]
    by_cases q2 : 57 < x
    · rw [if_pos q2, if_neg (fun w => Int32.not_le.mpr q2 (of_decide_eq_true w).2)]
    · rw [if_neg q2, if_pos (decide_eq_true ⟨Int32.not_lt.mp q1, Int32.not_lt.mp q2⟩)]
theorem zg_isT (x : Int32) : zv_X8_isThing x = if zq_let x = 6 then 0 else 1 := by
  unfold zv_X8_isThing zq_let
  by_cases q1 : x = 111
  · subst q1; rfl
  by_cases q2 : x = 112
  · subst q2; rfl
  by_cases q3 : x = 113
  · subst q3; rfl
  by_cases q4 : x = 109
  · subst q4; rfl
  by_cases q5 : x = 108
  · subst q5; rfl
  by_cases q6 : x = 115
  · subst q6; rfl
  rw [if_neg q1, if_neg q2, if_neg q3, if_neg q4, if_neg q5, if_pos q6, if_neg q1, if_neg q2, if_neg q3, if_neg q4, if_neg q5, if_neg q6, if_pos rfl]
def zg_fr (I I' : Nat → Nat → Int32) : Prop := ∀ x, x ≠ 37 → x ≠ 38 → x ≠ 39 → I' x = I x
/-- what is taken ahead of a thing -/
theorem zg_ahM {I : Nat → Nat → Int32} {s : zg_S} (h : zg_M I s) (hw : s.2.2.2.2.2 = true) {a : Nat} (ha : a < 40) (hl : s.1.length + s.2.1.length ≤ a) (c : Int32) : (zg_ah s c = none ∧ zv_X8_takesAhead I c = 0 ∧ zg_fr I (zw_X8_takesAhead I c)) ∨ ∃ s', zg_ah s c = some s' ∧ zv_X8_takesAhead I c = 1 ∧ zg_fr I (zw_X8_takesAhead I c) ∧ zg_M (zw_X8_takesAhead I c) s' ∧ s'.1.length + s'.2.1.length ≤ a + 1 := by
  obtain ⟨h2, h3, h4, h5, h6, h7, a38, a39, hd, hg⟩ := h
  obtain ⟨cs, w, d, mk, dg, wt⟩ := s
  dsimp only at h2 h3 h4 h5 h6 h7 a38 a39 hd hg hw hl
  subst hw
  unfold zg_ah zv_X8_takesAhead zw_X8_takesAhead
  dsimp only
  by_cases c1 : c = 45
  · right
    rw [if_pos c1, if_neg (fun q => q c1), if_neg (fun q => q c1), zg_hold h3 (by omega)]
    exact ⟨_, rfl, rfl, fun x x1 x2 x3 => by rw [zu_ux x1, zu_ux x3], ⟨h2, rfl, h4, h5, h6, h7, a38, zg_ar_up a39 rfl 256, hd, hg⟩, by simp only [List.length_cons]; omega⟩
  rw [if_neg c1, if_pos c1, if_pos c1]
  by_cases c2 : c = 40
  · rw [if_pos c2, if_neg (show ¬ ¬ c = 40 from fun q => q c2), if_neg (show ¬ ¬ c = 40 from fun q => q c2)]
    unfold zv_X8_opens zw_X8_opens
    rw [h4]
    by_cases d4 : d < 4
    · right
      rw [if_pos d4, if_pos (show nI d < 4 from nI_lt (b := 4) d4 (by omega)), if_pos (show nI d < 4 from nI_lt (b := 4) d4 (by omega)), zg_hold (I := zz_u (zz_u I 37 4 (nI d + 1)) 37 5 (I 37 5 &&& (((1 : Int32) <<< (nI d + 1 &&& 31)) ^^^ (-1)))) (k := w.length) h3 (by omega)]
      refine ⟨_, rfl, rfl, fun x x1 x2 x3 => by rw [zu_ux x1, zu_ux x3, zu_ux x1, zu_ux x1], ⟨h2, rfl, ?_, fun k hk => ?_, h6, h7, a38, zg_ar_up (X := zz_u (zz_u I 37 4 (nI d + 1)) 37 5 _) (a := 39) a39 rfl 40, by show d + 1 ≤ 4; omega, hg⟩, by simp only [List.length_cons]; omega⟩
      · show nI d + 1 = nI (d + 1)
        exact nI_1 d
      · show bt (I 37 5 &&& (((1 : Int32) <<< ((nI d + 1) &&& 31)) ^^^ (-1))) k = if k = d + 1 then false else mk k
        rw [nI_1, b_and, b_not (by omega), b_bit (d + 1) (by omega) (by omega), h5 k hk]
        by_cases q : k = d + 1
        · simp [q]
        · simp [q]
    · left
      have nd : ¬ nI d < 4 := nI_nlt (b := 4) (by omega) (by omega)
      rw [if_neg d4, if_neg nd, if_neg nd]
      exact ⟨rfl, rfl, fun _ _ _ _ => rfl⟩
  rw [if_neg c2, if_pos c2, if_pos c2, zg_isD, zg_isT]
  by_cases c3 : zq_dig c = true
  · right
    rw [if_pos c3, if_pos c3, if_neg (show ¬ (1 : Int32) = 0 by decide), if_neg (show ¬ (1 : Int32) = 0 by decide), zg_emit h2 (by omega)]
    exact ⟨_, rfl, rfl, fun x x1 x2 x3 => by rw [zu_ux x1, zu_ux x1, zu_ux x1, zu_ux x2], ⟨rfl, h3, h4, h5, rfl, rfl, zg_ar_up a38 rfl _, a39, hd, by show 1 ≤ 3; omega⟩, by simp only [List.length_cons]; omega⟩
  rw [if_neg c3, if_neg c3, if_pos rfl, if_pos rfl]
  by_cases c4 : zq_let c = 6
  · left
    rw [if_pos c4, if_pos c4, if_pos rfl, if_pos rfl]
    exact ⟨rfl, rfl, fun _ _ _ _ => rfl⟩
  · right
    rw [if_neg c4, if_neg c4, if_neg (show ¬ (1 : Int32) = 0 by decide), if_neg (show ¬ (1 : Int32) = 0 by decide), zg_emit h2 (by omega)]
    exact ⟨_, rfl, rfl, fun x x1 x2 x3 => by rw [zu_ux x1, zu_ux x1, zu_ux x1, zu_ux x2], ⟨rfl, h3, h4, h5, rfl, rfl, zg_ar_up a38 rfl _, a39, hd, by show 0 ≤ 3; omega⟩, by simp only [List.length_cons]; omega⟩
/-- what is taken behind one -/
theorem zg_bhM {N : Nat} (hN : 100000 ≤ N) {I : Nat → Nat → Int32} {J : Nat → Nat → Int64} {s : zg_S} (h : zg_M I s) (hw : s.2.2.2.2.2 = false) {a : Nat} (ha : a < 40) (hl : s.1.length + s.2.1.length ≤ a) {c : Int32} (hc : ¬ c = 256) : ∃ v I', zf_X8_takesBehind N c I J = some (v, I', J) ∧ zg_fr I I' ∧ ((zg_bh s c = none ∧ v = 0) ∨ ∃ s', zg_bh s c = some s' ∧ v = 1 ∧ zg_M I' s' ∧ s'.1.length + s'.2.1.length ≤ a + 1) := by
  obtain ⟨h2, h3, h4, h5, h6, h7, a38, a39, hd, hg⟩ := h
  obtain ⟨cs, w, d, mk, dg, wt⟩ := s
  dsimp only at h2 h3 h4 h5 h6 h7 a38 a39 hd hg hw hl
  subst hw
  rw [if_neg Bool.false_ne_true] at h7
  obtain ⟨M, rfl⟩ : ∃ M, N = M + 3 + 1 := ⟨N - 4, by omega⟩
  rw [zo_X8_takesBehind]
  unfold zb_X8_takesBehind_0 zg_bh
  dsimp only
  have r67 : ∀ u v, zl_X8_takesBehind (M + 3 + 1) (M + 3) 67 u v I J = some (0, I, J) := fun u v => by rw [zo_X8_takesBehind_67]; rfl
  rw [zg_isD]
  by_cases c1 : zq_dig c = true
  · rw [if_pos c1, if_pos c1, if_neg (show ¬ (1 : Int32) = 0 by decide)]
    have lv : zv_X8_lengthens I (c - 48) = if dg = 1 ∨ dg = 2 then (if cs = [] then 0 else 1) else 0 := by
      unfold zv_X8_lengthens
      rw [h6, h2]
      by_cases q : dg = 1 ∨ dg = 2
      · rw [if_pos q, if_neg (show ¬ nI dg < 1 from nI_nlt (b := 1) (by omega) (by omega)), if_neg (show ¬ (3 : Int32) ≤ nI dg from nI_ge (b := 3) (by omega) (by omega))]
        cases cs with
        | nil => rw [if_pos rfl, if_pos (by decide)]
        | cons k r =>
          rw [if_neg (show ¬ (k :: r) = [] by simp), show nI (k :: r).length - 1 = nI r.length from nI_pred _, if_neg (nI_pos (by simp only [List.length_cons] at hl; omega)), if_pos (nI_lt (by simp only [List.length_cons] at hl; omega) (by omega))]
      · rw [if_neg q]
        by_cases q0 : dg = 0
        · subst q0
          rw [if_pos (by decide)]
        · obtain rfl : dg = 3 := by omega
          rw [if_neg (by decide), if_pos (by decide)]
    have lw : zw_X8_lengthens I (c - 48) = if dg = 1 ∨ dg = 2 then (if cs = [] then I else zz_u (zz_u I 38 (cs.length - 1) (I 38 (cs.length - 1) * 10 + (c - 48))) 37 6 (nI dg + 1)) else I := by
      unfold zw_X8_lengthens
      rw [h6, h2]
      by_cases q : dg = 1 ∨ dg = 2
      · rw [if_pos q, if_neg (show ¬ nI dg < 1 from nI_nlt (b := 1) (by omega) (by omega)), if_neg (show ¬ (3 : Int32) ≤ nI dg from nI_ge (b := 3) (by omega) (by omega))]
        cases cs with
        | nil => rw [if_pos rfl, if_pos (by decide)]
        | cons k r =>
          rw [if_neg (show ¬ (k :: r) = [] by simp), show nI (k :: r).length - 1 = nI r.length from nI_pred _, if_neg (nI_pos (by simp only [List.length_cons] at hl; omega)), if_pos (nI_lt (by simp only [List.length_cons] at hl; omega) (by omega)), nI_clamp (by simp only [List.length_cons] at hl; omega)]
          rfl
      · rw [if_neg q]
        by_cases q0 : dg = 0
        · subst q0
          rw [if_pos (by decide)]
        · obtain rfl : dg = 3 := by omega
          rw [if_neg (by decide), if_pos (by decide)]
    rw [lv, lw]
    by_cases q : dg = 1 ∨ dg = 2
    · rw [if_pos q, if_pos q, if_pos q]
      cases cs with
      | nil =>
        rw [if_pos rfl, if_pos rfl, if_pos (.inl rfl)]
        exact ⟨_, _, rfl, fun _ _ _ _ => rfl, .inl ⟨rfl, rfl⟩⟩
      | cons k r =>
        rw [if_neg (show ¬ (k :: r) = [] by simp), if_neg (show ¬ (k :: r) = [] by simp), if_pos (.inr rfl)]
        have top : I 38 r.length = k := zc_top a38
        refine ⟨_, _, rfl, fun x x1 x2 x3 => by rw [zu_ux x1, zu_ux x2], .inr ⟨_, rfl, rfl, ⟨?_, h3, h4, h5, nI_1 dg, ?_, ?_, a39, hd, by show dg + 1 ≤ 3; omega⟩, by simp only [List.length_cons] at hl ⊢; omega⟩⟩
        · exact h2
        · exact h7
        · show zc_ar (zz_u (zz_u I 38 r.length (I 38 r.length * 10 + (c - 48))) 37 6 (nI dg + 1) 38) _
          rw [zu_ux (by omega), top]
          exact zg_ar_up (zc_pop a38) rfl _
    · rw [if_neg q, if_neg q, if_neg q, if_pos (.inl rfl)]
      exact ⟨_, _, rfl, fun _ _ _ _ => rfl, .inl ⟨rfl, rfl⟩⟩
  rw [if_neg c1, if_neg c1, if_pos rfl]
  by_cases c2 : c = 41
  · rw [if_pos c2, if_neg (fun q => q c2)]
    by_cases d0 : 0 < d
    · rw [if_pos d0]
      obtain ⟨I', g1, g2, g3, g4, g5, g6, g7, g8⟩ := zg_release hN (J := J) (r := 1) (by omega) w cs (zz_u (zz_u I 37 4 (nI d - 1)) 37 6 0) (by omega) h2 h3 a38 a39
      have ec : zf_X8_closes (M + 3 + 1) I J = some (1, zz_u I' 37 3 (zz_max 0 (I' 37 3 - 1)), J) := by
        rw [zo_X8_closes]
        unfold zb_X8_closes_0
        rw [h4]
        exact zu_gd (show (0 : Int32) < nI d from nI_lt (a := 0) d0 (by omega)) (zu_bd g1 rfl)
      rw [ec, Option.bind_some, if_pos (.inr rfl)]
      generalize zg_rel 1 w cs = q at g2 g3 g4 g5 g8 ⊢
      obtain ⟨q1, q2⟩ := q
      dsimp only at g2 g3 g4 g5 g8 ⊢
      refine ⟨_, _, rfl, fun x x1 x2 x3 => by rw [zu_ux x1, g6 x x1 x2, zu_ux x1, zu_ux x1], .inr ⟨_, rfl, rfl, ⟨?_, ?_, ?_, fun k hk => ?_, ?_, ?_, ?_, ?_, by show d - 1 ≤ 4; omega, by show 0 ≤ 3; omega⟩, ?_⟩⟩
      · rw [zz_un (by omega)]; exact g2
      · rw [zz_us, g3]
        cases q2 with
        | nil => exact (by decide : zz_max 0 (nI 0 - 1) = nI 0)
        | cons y q2 =>
          rw [show nI (y :: q2).length - 1 = nI q2.length from nI_pred _]
          unfold zz_max
          by_cases z : q2.length = 0
          · rw [if_neg (by rw [z]; decide)]
            show (0 : Int32) = nI q2.length
            rw [z]; rfl
          · rw [if_pos (show (0 : Int32) < nI q2.length from nI_lt (a := 0) (by omega) (by simp only [List.length_cons] at g8; omega))]
            rfl
      · rw [zz_un (by omega), g7 4 (by omega) (by omega)]
        show nI d - 1 = nI (d - 1)
        rw [show d = d - 1 + 1 by omega, nI_pred]; rfl
      · rw [zz_un (by omega), g7 5 (by omega) (by omega)]
        exact h5 k hk
      · rw [zz_un (by omega), g7 6 (by omega) (by omega)]; rfl
      · rw [zz_un (by omega), g7 7 (by omega) (by omega)]
        exact h7
      · rw [zu_ux (by omega)]; exact g4
      · rw [zu_ux (by omega)]
        cases q2 with
        | nil => exact g5
        | cons y q2 => exact zc_pop g5
      · show q1.length + q2.tail.length ≤ a + 1
        have : q2.tail.length ≤ q2.length := by rw [List.length_tail]; omega
        omega
    · rw [if_neg d0]
      have ec : zf_X8_closes (M + 3 + 1) I J = some (0, I, J) := by
        rw [zo_X8_closes]
        unfold zb_X8_closes_0
        rw [h4]
        exact zu_gn (show ¬ (0 : Int32) < nI d from nI_nlt (a := 0) (by omega) (by omega)) rfl
      rw [ec, Option.bind_some, if_pos (.inl rfl)]
      exact ⟨_, _, rfl, fun _ _ _ _ => rfl, .inl ⟨rfl, rfl⟩⟩
  rw [if_neg c2, if_pos c2, if_pos hc, zg_rank hN, Option.bind_some]
  dsimp only
  by_cases z0 : zg_rk c = 0
  · rw [z0, if_pos (show nI 0 = 0 from rfl), if_pos (.inl rfl), r67]
    exact ⟨_, _, rfl, fun _ _ _ _ => rfl, .inl ⟨rfl, rfl⟩⟩
  have r3 : zg_rk c ≤ 3 := by
    unfold zg_rk
    rw [if_neg hc]
    repeat' split
    all_goals omega
  rw [if_neg (show ¬ nI (zg_rk c) = 0 from fun q => z0 ((nI_eq (a := zg_rk c) (b := 0) (by omega) (by omega)).mp q)), if_neg (show ¬ (zg_rk c = 0 ∨ c = 256) from fun q => q.elim z0 hc), h4]
  have bd : (((I 37 5) >>> (nI d &&& 31)) &&& 1 = 1) = (mk d = true) := by rw [zu_b1 (by omega), h5 d (by omega)]
  -- the sign is taken
  have tk : ∀ X : Nat → Nat → Int32, (∀ x, x ≠ 37 → X x = I x) → (∀ i, i ≠ 5 → X 37 i = I 37 i) → ∀ mk2 : Nat → Bool, (∀ k, k ≤ 4 → bt (X 37 5) k = mk2 k) → ∃ I', zl_X8_takesBehind (M + 3 + 1) (M + 2) 89 c (nI (zg_rk c)) X J = some (1, I', J) ∧ zg_fr I I' ∧ zg_M I' ((zg_rel (zg_rk c) w cs).1, c :: (zg_rel (zg_rk c) w cs).2, d, mk2, dg, true) ∧ (zg_rel (zg_rk c) w cs).1.length + (c :: (zg_rel (zg_rk c) w cs).2).length ≤ a + 1 := fun X X1 X2 mk2 hm2 => by
    obtain ⟨I', g1, g2, g3, g4, g5, g6, g7, g8⟩ := zg_release hN (J := J) (r := zg_rk c) (by omega) w cs X (by omega) (by rw [X2 2 (by omega)]; exact h2) (by rw [X2 3 (by omega)]; exact h3) (by rw [X1 38 (by omega)]; exact a38) (by rw [X1 39 (by omega)]; exact a39)
    generalize zg_rel (zg_rk c) w cs = q at g2 g3 g4 g5 g8 ⊢
    obtain ⟨q1, q2⟩ := q
    dsimp only at g2 g3 g4 g5 g8 ⊢
    refine ⟨zz_u (zz_u (zz_u I' 39 q2.length c) 37 3 (nI (q2.length + 1))) 37 7 1, ?_, fun x x1 x2 x3 => by rw [zu_ux x1, zu_ux x1, zu_ux x3, g6 x x1 x2, X1 x x1], ⟨?_, rfl, ?_, fun k hk => ?_, ?_, rfl, ?_, zg_ar_up g5 rfl c, hd, hg⟩, by simp only [List.length_cons]; omega⟩
    · rw [zo_X8_takesBehind_89]
      unfold zb_X8_takesBehind_89
      refine zu_bd g1 ?_
      dsimp only
      rw [zg_hold g3 (by omega)]
    · exact g2
    · show I' 37 4 = _
      rw [g7 4 (by omega) (by omega), X2 4 (by omega)]; exact h4
    · show bt (I' 37 5) k = _
      rw [g7 5 (by omega) (by omega)]; exact hm2 k hk
    · show I' 37 6 = _
      rw [g7 6 (by omega) (by omega), X2 6 (by omega)]; exact h6
    · exact g4
  have r69 : ∀ X : Nat → Nat → Int32, zl_X8_takesBehind (M + 3 + 1) (M + 3) 69 c (nI (zg_rk c)) X J = if ¬ nI (zg_rk c) = 1 then zl_X8_takesBehind (M + 3 + 1) (M + 2) 89 c (nI (zg_rk c)) X J else zl_X8_takesBehind (M + 3 + 1) (M + 2) 89 c (nI (zg_rk c)) (zz_u X 37 5 ((X 37 5) ||| ((1 : Int32) <<< ((X 37 4) &&& 31)))) J := fun X => by
    rw [zo_X8_takesBehind_69]; rfl
  have one : (nI (zg_rk c) = 1) ↔ zg_rk c = 1 := nI_eq (b := 1) (by omega) (by omega)
  by_cases z1 : zg_rk c = 1
  · have n1 := one.mpr z1
    by_cases mb : mk d = true
    · rw [if_pos (show zg_rk c = 1 ∧ mk d = true from ⟨z1, mb⟩), if_neg (show ¬ ¬ nI (zg_rk c) = 1 from fun q => q n1), if_neg (show ¬ ¬ ((I 37 5 >>> (nI d &&& 31)) &&& 1 = 1) from fun q => q (by rw [bd]; exact mb)), r67]
      exact ⟨_, _, rfl, fun _ _ _ _ => rfl, .inl ⟨rfl, rfl⟩⟩
    · rw [if_neg (show ¬ (zg_rk c = 1 ∧ mk d = true) from fun q => mb q.2), if_neg (show ¬ ¬ nI (zg_rk c) = 1 from fun q => q n1), if_pos (show ¬ ((I 37 5 >>> (nI d &&& 31)) &&& 1 = 1) by rw [bd]; exact mb), r69, if_neg (show ¬ ¬ nI (zg_rk c) = 1 from fun q => q n1), h4, if_pos z1]
      obtain ⟨I', k1, k2, k3, k4⟩ := tk (zz_u I 37 5 (I 37 5 ||| (1 : Int32) <<< (nI d &&& 31))) (fun x hx => zu_ux hx) (fun i hi => zz_un (fun q => hi q.2)) (fun k => if k = d then true else mk k) (fun k hk => by
        rw [zz_us, b_or, b_bit d (by omega) (by omega), h5 k hk]
        by_cases q : k = d <;> simp [q])
      exact ⟨1, I', k1, k2, .inr ⟨_, rfl, rfl, k3, k4⟩⟩
  · have n1 : ¬ nI (zg_rk c) = 1 := fun q => z1 (one.mp q)
    rw [if_neg (show ¬ (zg_rk c = 1 ∧ mk d = true) from fun q => z1 q.1), if_pos n1, r69, if_pos n1, if_neg z1]
    obtain ⟨I', k1, k2, k3, k4⟩ := tk I (fun x _ => rfl) (fun i _ => rfl) mk h5
    exact ⟨1, I', k1, k2, .inr ⟨_, rfl, rfl, k3, k4⟩⟩
theorem zg_takes {N : Nat} (hN : 100000 ≤ N) {I : Nat → Nat → Int32} {J : Nat → Nat → Int64} {s : zg_S} (h : zg_M I s) {a : Nat} (ha : a < 40) (hl : s.1.length + s.2.1.length ≤ a) {c : Int32} (hc : ¬ c = 256) : ∃ v I', zf_X8_takes N c I J = some (v, I', J) ∧ zg_fr I I' ∧ ((zg_step s c = none ∧ v = 0) ∨ ∃ s', zg_step s c = some s' ∧ v = 1 ∧ zg_M I' s' ∧ s'.1.length + s'.2.1.length ≤ a + 1) := by
  have h7 := h.2.2.2.2.2.1
  unfold zg_step
  cases hw : s.2.2.2.2.2 with
  | true =>
    rw [hw, if_pos rfl] at h7
    rw [if_pos rfl]
    obtain ⟨M, rfl⟩ := zu_one N hN
    rw [zo_X8_takes]
    unfold zb_X8_takes_0
    rw [h7, if_neg (show ¬ (1 : Int32) = 0 by decide)]
    rcases zg_ahM h hw ha hl c with ⟨q1, q2, q3⟩ | ⟨s', q1, q2, q3, q4, q5⟩
    · rw [q2, if_pos (.inl rfl)]
      exact ⟨_, _, rfl, q3, .inl ⟨q1, rfl⟩⟩
    · rw [q2, if_pos (.inr rfl)]
      exact ⟨_, _, rfl, q3, .inr ⟨s', q1, rfl, q4, q5⟩⟩
  | false =>
    rw [hw, if_neg Bool.false_ne_true] at h7
    rw [if_neg Bool.false_ne_true]
    obtain ⟨v, I', g1, g2, g3⟩ := zg_bhM hN (J := J) h hw ha hl hc
    refine ⟨v, I', ?_, g2, g3⟩
    obtain ⟨M, rfl⟩ := zu_one N hN
    rw [zo_X8_takes]
    unfold zb_X8_takes_0
    rw [h7, if_pos rfl, g1, Option.bind_some]
    have : v = 0 ∨ v = 1 := by
      rcases g3 with ⟨_, q⟩ | ⟨_, _, q, _⟩
      · exact .inl q
      · exact .inr q
    rw [if_pos this]
