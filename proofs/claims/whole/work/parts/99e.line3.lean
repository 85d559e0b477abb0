/-! A LINE IN THE CLASS, READ -/
theorem zn_put {X : Nat → Nat → Int32} {L w : Nat} (hL : L < 12) (hw : w < 7) (v : Int32) : zz_putm X (nI L) (nI w) v = zz_u X 6 (7 * L + w) v := by
  unfold zz_putm
  rw [show nI L * 7 + nI w = nI (7 * L + w) by rw [show nI L * 7 = nI (L * 7) from pk_mul L 7, nI_add, Nat.mul_comm], if_neg (nI_pos (by omega)), if_neg (nI_ge (by omega) (by omega)), nI_clamp (by omega)]
theorem zn_num {X : Nat → Nat → Int32} {L w st : Nat} (hL : L < 12) (hw : w < 7) (h1 : X 36 1 = nI st) (h2 : X 36 2 = nI L) (c lo hi z : Int32) : zv_X3_takesNumber X c lo hi (nI w) z = (if lo ≤ c ∧ c ≤ hi then 1 else 0) ∧ zw_X3_takesNumber X c lo hi (nI w) z = if lo ≤ c ∧ c ≤ hi then zz_u (zz_u X 6 (7 * L + w) (c - z)) 36 1 (nI (st + 1)) else X := by
  unfold zv_X3_takesNumber zw_X3_takesNumber
  rw [h2, zn_put hL hw]
  by_cases q1 : c < lo
  · rw [if_pos q1, if_pos q1, if_neg (fun w => Int32.not_le.mpr q1 w.1), if_neg (fun w => Int32.not_le.mpr q1 w.1)]
    exact ⟨rfl, rfl⟩
  · rw [if_neg q1, if_neg q1]
    by_cases q2 : c ≤ hi
    · rw [if_pos q2, if_pos q2, if_pos ⟨Int32.not_lt.mp q1, q2⟩, if_pos ⟨Int32.not_lt.mp q1, q2⟩, show zz_u X 6 (7 * L + w) (c - z) 36 1 = nI st by rw [zu_ux (by omega)]; exact h1, nI_1]
      exact ⟨rfl, rfl⟩
    · rw [if_neg q2, if_neg q2, if_neg (fun w => q2 w.2), if_neg (fun w => q2 w.2)]
      exact ⟨rfl, rfl⟩
theorem zn_ris {X : Nat → Nat → Int32} {L w b j : Nat} (hL : L < 12) (hw : w < 7) (h2 : X 36 2 = nI L) (hb : b < 64) (hj : j < 6) (hX : X 6 (7 * L + w) = nI b) : zv_X3_rises X (nI w) (nI j) = (if b < 2 ^ j then 1 else 0) ∧ zw_X3_rises X (nI w) (nI j) = if b < 2 ^ j then zz_u X 6 (7 * L + w) (nI (b ||| 2 ^ j)) else X := by
  unfold zv_X3_rises zw_X3_rises
  rw [h2, zn_put hL hw, zu_cfw hL hw, hX, (zn_or b hb j hj).1]
  by_cases q : b < 2 ^ j
  · rw [if_pos ((zn_sh b hb j hj).mpr q), if_pos ((zn_sh b hb j hj).mpr q), if_pos q, if_pos q]
    exact ⟨rfl, rfl⟩
  · rw [if_neg (fun w => q ((zn_sh b hb j hj).mp w)), if_neg (fun w => q ((zn_sh b hb j hj).mp w)), if_neg q, if_neg q]
    exact ⟨rfl, rfl⟩
theorem zn_mk {X : Nat → Nat → Int32} {st : Nat} (h1 : X 36 1 = nI st) (hs : st ≤ 7) (c : Int32) : zv_X3_takesMark X c = (if (c = 62 ∧ st ≤ 3) ∨ (c = 60 ∧ st ≤ 5) ∨ c = 61 then 1 else 0) ∧ zw_X3_takesMark X c = if c = 62 ∧ st ≤ 3 then zz_u X 36 1 4 else if c = 60 ∧ st ≤ 5 then zz_u X 36 1 6 else if c = 61 then zz_u X 36 1 8 else X := by
  unfold zv_X3_takesMark zw_X3_takesMark
  rw [h1, if_neg (show ¬ (7 : Int32) < nI st from nI_nlt (a := 7) (by omega) (by omega))]
  have h7 : ¬ (7 : Int32) < nI st := nI_nlt (a := 7) (by omega) (by omega)
  have h5 : ((5 : Int32) < nI st) ↔ ¬ st ≤ 5 := by
    constructor
    · intro w q; exact nI_nlt (a := 5) q (by omega) w
    · intro w; exact nI_lt (a := 5) (by omega) (by omega)
  have h3 : ((3 : Int32) < nI st) ↔ ¬ st ≤ 3 := by
    constructor
    · intro w q; exact nI_nlt (a := 3) q (by omega) w
    · intro w; exact nI_lt (a := 3) (by omega) (by omega)
  by_cases c1 : c = 62
  · subst c1
    by_cases s3 : st ≤ 3
    · simp [s3, h3, h5, h7]
    · simp [s3, h3, h5, h7]
  by_cases c2 : c = 60
  · subst c2
    by_cases s5 : st ≤ 5
    · simp [s5, h5, h7]
    · simp [s5, h5, h7]
  by_cases c3 : c = 61
  · subst c3
    simp [h7]
  · simp [c1, c2, c3]
/-- what is taken, by the step -/
theorem zn_T2p {N : Nat} (hN : 100000 ≤ N) {X : Nat → Nat → Int32} {J : Nat → Nat → Int64} {L b j : Nat} (hL : L < 12) (h1 : X 36 1 = nI 2) (h2 : X 36 2 = nI L) (hb : b < 64) (hj : j ≤ 5) (hX : X 6 (7 * L + 2) = nI b) {c : Int32} (hc : nI 65 ≤ c ∧ c ≤ nI 70) (ec : c - nI 65 = nI j) : zf_X3_takes N c X J = if b < 2 ^ j then some (1, zz_u X 6 (7 * L + 2) (nI (b ||| 2 ^ j)), J) else some (0, X, J) := by
  obtain ⟨M, rfl⟩ : ∃ M, N = M + 1 + 1 := ⟨N - 2, by omega⟩
  have r := zn_ris hL (show 2 < 7 by omega) h2 hb (show j < 6 by omega) hX
  have pv : zv_X3_takesPerson X c = if b < 2 ^ j then 1 else 0 := by
    unfold zv_X3_takesPerson
    rw [if_neg (show ¬ c < 65 from Int32.not_lt.mpr hc.1), if_neg (show ¬ (70 : Int32) < c from Int32.not_lt.mpr hc.2), show c - 65 = nI j from ec, show (2 : Int32) = nI 2 from rfl, r.1]
    by_cases q : b < 2 ^ j
    · rw [if_pos q]; rfl
    · rw [if_neg q]; rfl
  have pw : zw_X3_takesPerson X c = if b < 2 ^ j then zz_u X 6 (7 * L + 2) (nI (b ||| 2 ^ j)) else X := by
    unfold zw_X3_takesPerson
    rw [if_neg (show ¬ c < 65 from Int32.not_lt.mpr hc.1), if_neg (show ¬ (70 : Int32) < c from Int32.not_lt.mpr hc.2), show c - 65 = nI j from ec, show (2 : Int32) = nI 2 from rfl, r.2]
  have n52 : (52 : Int32) < c := Int32.lt_of_lt_of_le (by decide) hc.1
  have n49 : ¬ c < 49 := Int32.not_lt.mpr (Int32.le_trans (by decide) hc.1)
  have n61 : ∀ x : Int32, x < 65 → ¬ c = x := fun x hx q => by
    subst q
    exact Int32.not_lt.mpr hc.1 hx
  rw [zo_X3_takes]
  unfold zb_X3_takes_0
  rw [h1, if_neg (by decide), if_neg (by decide), if_pos (show nI 2 = 2 from rfl), pv, pw]
  by_cases q : b < 2 ^ j
  · rw [if_pos q, if_pos q, if_pos (show ¬ (1 : Int32) = 0 by decide), if_pos q, zo_X3_takes_103]
    rfl
  · have qv : zv_X3_takesProp X c = 0 := by
      unfold zv_X3_takesProp
      rw [if_neg n49, if_pos n52]
    have qw : zw_X3_takesProp X c = X := by
      unfold zw_X3_takesProp
      rw [if_neg n49, if_pos n52]
    have mk := zn_mk h1 (by omega) c
    have mv : zv_X3_takesMark X c = 0 := by
      rw [mk.1, if_neg (fun w => by
        rcases w with w | w | w
        · exact n61 62 (by decide) w.1
        · exact n61 60 (by decide) w.1
        · exact n61 61 (by decide) w)]
    have mw : zw_X3_takesMark X c = X := by
      rw [mk.2, if_neg (fun w => n61 62 (by decide) w.1), if_neg (fun w => n61 60 (by decide) w.1), if_neg (n61 61 (by decide))]
    rw [if_neg q, if_neg q, if_neg (fun w => w rfl), qv, qw, if_neg (fun w => w rfl), mv, mw, if_pos rfl, if_neg q]
def zn_per (c : Int32) : Prop := nI 65 ≤ c ∧ c ≤ nI 70
def zn_pro (c : Int32) : Prop := nI 49 ≤ c ∧ c ≤ nI 52
theorem zn_noP {X : Nat → Nat → Int32} {c : Int32} (h : ¬ zn_per c) : zv_X3_takesPerson X c = 0 ∧ zw_X3_takesPerson X c = X := by
  unfold zv_X3_takesPerson zw_X3_takesPerson
  by_cases q : c < 65
  · rw [if_pos q, if_pos q]; exact ⟨rfl, rfl⟩
  · by_cases q2 : 70 < c
    · rw [if_neg q, if_neg q, if_pos q2, if_pos q2]; exact ⟨rfl, rfl⟩
    · exact absurd ⟨Int32.not_lt.mp q, Int32.not_lt.mp q2⟩ h
theorem zn_noR {X : Nat → Nat → Int32} {c : Int32} (h : ¬ zn_pro c) : zv_X3_takesProp X c = 0 ∧ zw_X3_takesProp X c = X := by
  unfold zv_X3_takesProp zw_X3_takesProp
  by_cases q : c < 49
  · rw [if_pos q, if_pos q]; exact ⟨rfl, rfl⟩
  · by_cases q2 : 52 < c
    · rw [if_neg q, if_neg q, if_pos q2, if_pos q2]; exact ⟨rfl, rfl⟩
    · exact absurd ⟨Int32.not_lt.mp q, Int32.not_lt.mp q2⟩ h
theorem zn_Tpr {N : Nat} (hN : 100000 ≤ N) {X : Nat → Nat → Int32} {J : Nat → Nat → Int64} {L b j st : Nat} (hL : L < 12) (hst : st = 2 ∨ st = 3) (h1 : X 36 1 = nI st) (h2 : X 36 2 = nI L) (hb : b < 64) (hj : j ≤ 3) (hX : X 6 (7 * L + 3) = nI b) {c : Int32} (hc : zn_pro c) (ec : c - nI 49 = nI j) : zf_X3_takes N c X J = if b < 2 ^ j then some (1, zz_u (zz_u X 6 (7 * L + 3) (nI (b ||| 2 ^ j))) 36 1 3, J) else some (0, X, J) := by
  obtain ⟨M, rfl⟩ : ∃ M, N = M + 1 + 1 := ⟨N - 2, by omega⟩
  have r := zn_ris hL (show 3 < 7 by omega) h2 hb (show j < 6 by omega) hX
  have nP := zn_noP (X := X) (c := c) (fun w => Int32.not_lt.mpr (Int32.le_trans w.1 hc.2) (by decide))
  have pv : zv_X3_takesProp X c = if b < 2 ^ j then 1 else 0 := by
    unfold zv_X3_takesProp
    rw [if_neg (show ¬ c < 49 from Int32.not_lt.mpr hc.1), if_neg (show ¬ (52 : Int32) < c from Int32.not_lt.mpr hc.2), show c - 49 = nI j from ec, show (3 : Int32) = nI 3 from rfl, r.1]
    by_cases q : b < 2 ^ j
    · rw [if_pos q]; rfl
    · rw [if_neg q]; rfl
  have pw : zw_X3_takesProp X c = if b < 2 ^ j then zz_u (zz_u X 6 (7 * L + 3) (nI (b ||| 2 ^ j))) 36 1 3 else X := by
    unfold zw_X3_takesProp
    rw [if_neg (show ¬ c < 49 from Int32.not_lt.mpr hc.1), if_neg (show ¬ (52 : Int32) < c from Int32.not_lt.mpr hc.2), show c - 49 = nI j from ec, show zv_X3_rises X 3 (nI j) = _ from r.1, show zw_X3_rises X 3 (nI j) = _ from r.2]
    by_cases q : b < 2 ^ j
    · rw [if_pos q, if_pos q, if_pos q]; rfl
    · rw [if_neg q, if_neg q, if_neg q]; rfl
  have n61 : ∀ x : Int32, 52 < x → ¬ c = x := fun x hx q => by
    subst q
    exact Int32.not_lt.mpr hc.2 hx
  have mk := zn_mk h1 (by omega) c
  have mv : zv_X3_takesMark X c = 0 := by
    rw [mk.1, if_neg (fun w => by
      rcases w with w | w | w
      · exact n61 62 (by decide) w.1
      · exact n61 60 (by decide) w.1
      · exact n61 61 (by decide) w)]
  have mw : zw_X3_takesMark X c = X := by
    rw [mk.2, if_neg (fun w => n61 62 (by decide) w.1), if_neg (fun w => n61 60 (by decide) w.1), if_neg (n61 61 (by decide))]
  rw [zo_X3_takes]
  unfold zb_X3_takes_0
  rcases hst with rfl | rfl
  · rw [h1, if_neg (by decide), if_neg (by decide), if_pos (show nI 2 = 2 from rfl), nP.1, nP.2, if_neg (fun w => w rfl), pv, pw]
    by_cases q : b < 2 ^ j
    · rw [if_pos q, if_pos q, if_pos (show ¬ (1 : Int32) = 0 by decide), if_pos q, zo_X3_takes_103]
      rfl
    · rw [if_neg q, if_neg q, if_neg (fun w => w rfl), mv, mw, if_pos rfl, if_neg q]
  · rw [h1, if_neg (by decide), if_neg (by decide), if_neg (by decide), if_pos (show nI 3 = 3 from rfl), pv, pw]
    by_cases q : b < 2 ^ j
    · rw [if_pos q, if_pos q, if_pos (show ¬ (1 : Int32) = 0 by decide), if_pos q, zo_X3_takes_125]
      rfl
    · rw [if_neg q, if_neg q, if_neg (fun w => w rfl), mv, mw, if_pos rfl, if_neg q]
theorem zn_Tmk {N : Nat} (hN : 100000 ≤ N) {X : Nat → Nat → Int32} {J : Nat → Nat → Int64} {st : Nat} (hst : st = 2 ∨ st = 3 ∨ st = 5 ∨ st = 7) (h1 : X 36 1 = nI st) {c : Int32} (hp : st = 2 → ¬ zn_per c) (hr : st ≤ 3 → ¬ zn_pro c) : zf_X3_takes N c X J = if c = 62 ∧ st ≤ 3 then some (1, zz_u X 36 1 4, J) else if c = 60 ∧ st ≤ 5 then some (1, zz_u X 36 1 6, J) else if c = 61 then some (1, zz_u X 36 1 8, J) else some (0, X, J) := by
  obtain ⟨M, rfl⟩ : ∃ M, N = M + 1 + 1 := ⟨N - 2, by omega⟩
  have mk := zn_mk h1 (by omega) c
  -- by what the mark says
  have fin : (if zv_X3_takesMark X c = 0 then some ((0 : Int32), zw_X3_takesMark X c, J) else some (1, zw_X3_takesMark X c, J)) = if c = 62 ∧ st ≤ 3 then some (1, zz_u X 36 1 4, J) else if c = 60 ∧ st ≤ 5 then some (1, zz_u X 36 1 6, J) else if c = 61 then some (1, zz_u X 36 1 8, J) else some (0, X, J) := by
    by_cases a1 : c = 62 ∧ st ≤ 3
    · have v : zv_X3_takesMark X c = 1 := by rw [mk.1, if_pos (.inl a1)]
      rw [v, mk.2, if_pos a1, if_pos a1, if_neg (show ¬ (1 : Int32) = 0 by decide)]
    by_cases a2 : c = 60 ∧ st ≤ 5
    · have v : zv_X3_takesMark X c = 1 := by rw [mk.1, if_pos (.inr (.inl a2))]
      rw [v, mk.2, if_neg a1, if_pos a2, if_neg a1, if_pos a2, if_neg (show ¬ (1 : Int32) = 0 by decide)]
    by_cases a3 : c = 61
    · have v : zv_X3_takesMark X c = 1 := by rw [mk.1, if_pos (.inr (.inr a3))]
      rw [v, mk.2, if_neg a1, if_neg a2, if_pos a3, if_neg a1, if_neg a2, if_pos a3, if_neg (show ¬ (1 : Int32) = 0 by decide)]
    · have v : zv_X3_takesMark X c = 0 := by rw [mk.1, if_neg (fun w => w.elim a1 (fun w => w.elim a2 a3))]
      rw [v, mk.2, if_neg a1, if_neg a2, if_neg a3, if_neg a1, if_neg a2, if_neg a3, if_pos rfl]
  have m01 : zv_X3_takesMark X c = 0 ∨ zv_X3_takesMark X c = 1 := by
    rw [mk.1]
    split
    · exact .inr rfl
    · exact .inl rfl
  have r169 : zl_X3_takes (M + 1 + 1) (M + 1) 169 c X J = if zv_X3_takesMark X c = 0 then some ((0 : Int32), zw_X3_takesMark X c, J) else some (1, zw_X3_takesMark X c, J) := by
    rw [zo_X3_takes_169]
    unfold zb_X3_takes_169
    rw [if_pos m01]
    rcases m01 with w | w
    · rw [w, if_pos rfl]
    · rw [w, if_neg (by decide)]
  rw [← fin, zo_X3_takes]
  unfold zb_X3_takes_0
  rcases hst with rfl | rfl | rfl | rfl
  · have nP := zn_noP (X := X) (hp rfl)
    have nR := zn_noR (X := X) (hr (by omega))
    rw [h1, if_neg (by decide), if_neg (by decide), if_pos (show nI 2 = 2 from rfl), nP.1, nP.2, if_neg (fun w => w rfl), nR.1, nR.2, if_neg (fun w => w rfl), zo_X3_takes_103]
    rfl
  · have nR := zn_noR (X := X) (hr (by omega))
    rw [h1, if_neg (by decide), if_neg (by decide), if_neg (by decide), if_pos (show nI 3 = 3 from rfl), nR.1, nR.2, if_neg (fun w => w rfl), zo_X3_takes_125]
    rfl
  · rw [h1, if_neg (by decide), if_neg (by decide), if_neg (by decide), if_neg (by decide), if_neg (by decide), if_pos (show nI 5 = 5 from rfl), r169]
  · rw [h1, if_neg (by decide), if_neg (by decide), if_neg (by decide), if_neg (by decide), if_neg (by decide), if_neg (by decide), if_neg (by decide), if_pos (show nI 7 = 7 from rfl), r169]
theorem zn_Tnm {N : Nat} (hN : 100000 ≤ N) {X : Nat → Nat → Int32} {J : Nat → Nat → Int64} {L : Nat} (hL : L < 12) (h2 : X 36 2 = nI L) (c : Int32) : (X 36 1 = nI 1 → zf_X3_takes N c X J = if 49 ≤ c ∧ c ≤ 57 then some (1, zz_u (zz_u X 6 (7 * L + 1) (c - 48)) 36 1 (nI 2), J) else some (0, X, J)) ∧ (X 36 1 = nI 4 → zf_X3_takes N c X J = if 97 ≤ c ∧ c ≤ 104 then some (1, zz_u (zz_u X 6 (7 * L + 4) (c - 97)) 36 1 (nI 5), J) else some (0, X, J)) ∧ (X 36 1 = nI 6 → zf_X3_takes N c X J = if 97 ≤ c ∧ c ≤ 104 then some (1, zz_u (zz_u X 6 (7 * L + 5) (c - 97)) 36 1 (nI 7), J) else some (0, X, J)) := by
  obtain ⟨M, rfl⟩ := zu_one N hN
  refine ⟨fun h1 => ?_, fun h1 => ?_, fun h1 => ?_⟩
  · have r := zn_num hL (show 1 < 7 by omega) h1 h2 c 49 57 48
    rw [zo_X3_takes]
    unfold zb_X3_takes_0
    rw [h1, if_neg (by decide), if_pos (show nI 1 = 1 from rfl), show zv_X3_takesNumber X c 49 57 1 48 = _ from r.1, show zw_X3_takesNumber X c 49 57 1 48 = _ from r.2]
    by_cases q : 49 ≤ c ∧ c ≤ 57
    · rw [if_pos q, if_pos q, if_pos (.inr rfl), if_pos q]
    · rw [if_neg q, if_neg q, if_pos (.inl rfl), if_neg q]
  · have r := zn_num hL (show 4 < 7 by omega) h1 h2 c 97 104 97
    rw [zo_X3_takes]
    unfold zb_X3_takes_0
    rw [h1, if_neg (by decide), if_neg (by decide), if_neg (by decide), if_neg (by decide), if_pos (show nI 4 = 4 from rfl), show zv_X3_takesNumber X c 97 104 4 97 = _ from r.1, show zw_X3_takesNumber X c 97 104 4 97 = _ from r.2]
    by_cases q : 97 ≤ c ∧ c ≤ 104
    · rw [if_pos q, if_pos q, if_pos (.inr rfl), if_pos q]
    · rw [if_neg q, if_neg q, if_pos (.inl rfl), if_neg q]
  · have r := zn_num hL (show 5 < 7 by omega) h1 h2 c 97 104 97
    rw [zo_X3_takes]
    unfold zb_X3_takes_0
    rw [h1, if_neg (by decide), if_neg (by decide), if_neg (by decide), if_neg (by decide), if_neg (by decide), if_neg (by decide), if_pos (show nI 6 = 6 from rfl), show zv_X3_takesNumber X c 97 104 5 97 = _ from r.1, show zw_X3_takesNumber X c 97 104 5 97 = _ from r.2]
    by_cases q : 97 ≤ c ∧ c ≤ 104
    · rw [if_pos q, if_pos q, if_pos (.inr rfl), if_pos q]
    · rw [if_neg q, if_neg q, if_pos (.inl rfl), if_neg q]
theorem zn_T8 {N : Nat} (hN : 100000 ≤ N) {X : Nat → Nat → Int32} {J : Nat → Nat → Int64} {L k : Nat} (hL : L < 12) (h1 : X 36 1 = nI 8) (h2 : X 36 2 = nI L) (h3 : X 36 3 = nI k) (c : Int32) : zf_X3_takes N c X J = if 48 ≤ c ∧ c ≤ 57 then some (1, zz_u (zz_u (zz_u (zz_u X 6 (7 * L + 6) (c - 48)) 36 1 (nI 9)) 36 2 (nI (L + 1))) 36 3 (nI (k + 1)), J) else some (0, X, J) := by
  obtain ⟨M, rfl⟩ := zu_one N hN
  have r := zn_num hL (show 6 < 7 by omega) h1 h2 c 48 57 48
  rw [zo_X3_takes]
  unfold zb_X3_takes_0
  rw [h1, if_neg (by decide), if_neg (by decide), if_neg (by decide), if_neg (by decide), if_neg (by decide), if_neg (by decide), if_neg (by decide), if_neg (by decide), if_pos (show nI 8 = 8 from rfl)]
  have r1 : zv_X3_takesNumber X c 48 57 6 48 = _ := r.1
  have r2 : zw_X3_takesNumber X c 48 57 6 48 = _ := r.2
  unfold zv_X3_takesCheer zw_X3_takesCheer
  rw [r1, r2]
  by_cases q : 48 ≤ c ∧ c ≤ 57
  · rw [if_pos q, if_pos q, if_pos q]
    simp only [show ¬ (1 : Int32) = 0 by decide, not_false_eq_true, if_true, or_true]
    rw [show zz_u (zz_u X 6 (7 * L + 6) (c - 48)) 36 1 (nI (8 + 1)) 36 2 = nI L by rw [zz_un (by omega), zu_ux (by omega)]; exact h2, show zz_u (zz_u X 6 (7 * L + 6) (c - 48)) 36 1 (nI (8 + 1)) 36 3 = nI k by rw [zz_un (by omega), zu_ux (by omega)]; exact h3, nI_1, nI_1]
  · rw [if_neg q, if_neg q, if_neg q]
    simp
theorem zn_T9 {N : Nat} (hN : 100000 ≤ N) {X : Nat → Nat → Int32} {J : Nat → Nat → Int64} (h1 : X 36 1 = nI 9) (c : Int32) : zf_X3_takes N c X J = if c = 59 then some (1, zz_u X 36 1 0, J) else some (0, X, J) := by
  obtain ⟨M, rfl⟩ := zu_one N hN
  rw [zo_X3_takes]
  unfold zb_X3_takes_0
  rw [h1, if_neg (by decide), if_neg (by decide), if_neg (by decide), if_neg (by decide), if_neg (by decide), if_neg (by decide), if_neg (by decide), if_neg (by decide), if_neg (by decide), if_pos (show nI 9 = 9 from rfl)]
  unfold zv_X3_takesNextLine zw_X3_takesNextLine
  by_cases q : c = 59
  · rw [if_pos q, if_pos q, if_pos (.inr rfl), if_pos q]
  · rw [if_neg q, if_neg q, if_pos (.inl rfl), if_neg q]
theorem zn_T0 {N : Nat} (hN : 100000 ≤ N) {X : Nat → Nat → Int32} {J : Nat → Nat → Int64} {L : Nat} (h1 : X 36 1 = nI 0) (h2 : X 36 2 = nI L) (hL : L ≤ 12) (c : Int32) : zf_X3_takes N c X J = if L < 12 ∧ (c = 48 ∨ c = 49) then some (1, zz_u (zz_u (zz_u (zz_u (zz_u (zz_u X 6 (7 * L + 0) (c - 48)) 6 (7 * L + 2) 0) 6 (7 * L + 3) 0) 6 (7 * L + 4) (-1)) 6 (7 * L + 5) (-1)) 36 1 1, J) else some (0, X, J) := by
  have tp : zf_X3_takesPlay N c X J = if L < 12 ∧ (c = 48 ∨ c = 49) then some (1, zz_u (zz_u (zz_u (zz_u (zz_u (zz_u X 6 (7 * L + 0) (c - 48)) 6 (7 * L + 2) 0) 6 (7 * L + 3) 0) 6 (7 * L + 4) (-1)) 6 (7 * L + 5) (-1)) 36 1 1, J) else some (0, X, J) := by
    obtain ⟨M, rfl⟩ := zu_one N hN
    rw [zo_X3_takesPlay]
    unfold zb_X3_takesPlay_0
    rw [h2]
    by_cases l12 : L < 12
    · rw [if_neg (show ¬ (12 : Int32) ≤ nI L from nI_ge (b := 12) l12 (by omega))]
      have p0 : ∀ v, zz_putm X (nI L) 0 v = zz_u X 6 (7 * L + 0) v := fun v => zn_put l12 (show 0 < 7 by omega) v
      have e : ∀ (Y : Nat → Nat → Int32) (w : Nat) (v : Int32), w < 7 → Y 36 2 = nI L → zz_putm Y (Y 36 2) (nI w) v = zz_u Y 6 (7 * L + w) v := fun Y w v hw hY => by rw [hY, zn_put l12 hw]
      have k2 : ∀ (Y : Nat → Nat → Int32) (i : Nat) (v : Int32), Y 36 2 = nI L → zz_u Y 6 i v 36 2 = nI L := fun Y i v hY => by rw [zu_ux (by omega)]; exact hY
      have go : ((some (zz_putm (zz_putm (zz_putm X (nI L) 0 (c - 48)) ((zz_putm X (nI L) 0 (c - 48)) 36 2) 2 0) ((zz_putm (zz_putm X (nI L) 0 (c - 48)) ((zz_putm X (nI L) 0 (c - 48)) 36 2) 2 0) 36 2) 3 0)).bind fun i1 => some ((1 : Int32), zz_u (zz_putm (zz_putm i1 (i1 36 2) 4 ((-1))) ((zz_putm i1 (i1 36 2) 4 ((-1))) 36 2) 5 ((-1))) 36 1 1, J)) = some (1, zz_u (zz_u (zz_u (zz_u (zz_u (zz_u X 6 (7 * L + 0) (c - 48)) 6 (7 * L + 2) 0) 6 (7 * L + 3) 0) 6 (7 * L + 4) (-1)) 6 (7 * L + 5) (-1)) 36 1 1, J) := by
        rw [p0, Option.bind_some]
        rw [show (2 : Int32) = nI 2 from rfl, e _ 2 0 (by omega) (k2 _ _ _ h2), show (3 : Int32) = nI 3 from rfl, e _ 3 0 (by omega) (k2 _ _ _ (k2 _ _ _ h2)), show (4 : Int32) = nI 4 from rfl, e _ 4 (-1) (by omega) (k2 _ _ _ (k2 _ _ _ (k2 _ _ _ h2))), show (5 : Int32) = nI 5 from rfl, e _ 5 (-1) (by omega) (k2 _ _ _ (k2 _ _ _ (k2 _ _ _ (k2 _ _ _ h2))))]
      rw [go]
      by_cases q1 : c = 48
      · rw [if_pos q1, if_pos ⟨l12, .inl q1⟩]
      · rw [if_neg q1]
        by_cases q2 : c = 49
        · rw [if_pos q2, if_pos ⟨l12, .inr q2⟩]
        · rw [if_neg q2, if_neg (fun w => w.2.elim q1 q2)]
    · rw [if_pos (show (12 : Int32) ≤ nI L from nI_le (a := 12) (by omega) (by omega)), if_neg (fun w => l12 w.1)]
  obtain ⟨M, rfl⟩ := zu_one N hN
  rw [zo_X3_takes]
  unfold zb_X3_takes_0
  rw [h1, if_pos (show nI 0 = 0 from rfl), tp]
  by_cases q : L < 12 ∧ (c = 48 ∨ c = 49)
  · rw [if_pos q, Option.bind_some, if_pos (.inr rfl)]
  · rw [if_neg q, Option.bind_some, if_pos (.inl rfl)]
