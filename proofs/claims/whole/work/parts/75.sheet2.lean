/-! SHEET -/
def zh_en (k v : Int32) : Int32 := if k = 0 then v.toInt8.toInt32 else if k = 1 then v.toInt16.toInt32 else v
def zh_mn (k nn f st : Int32) (s : Nat) : Int32 := if nn ≤ nI s then 1 else zz_max 1 (zz_min 9 (zh_en k (f + nI s * st)))
/-- the minutes of the first s scenes are others -/
def zh_ms (g w : Nat → Int32) : Nat → Nat → Int32
  | 0 => g
  | s + 1 => zh_up (zh_ms g w s) (7 * s + 1) (w s)
theorem zh_ms_in {g w : Nat → Int32} : ∀ {n s : Nat}, s < n → zh_ms g w n (7 * s + 1) = w s
  | n + 1, s, h => by
    unfold zh_ms zh_up
    by_cases e : s = n
    · subst e; rw [if_pos rfl]
    · rw [if_neg (by omega)]
      exact zh_ms_in (by omega)
theorem zh_ms_out {g w : Nat → Int32} : ∀ {n j : Nat}, (∀ s, s < n → j ≠ 7 * s + 1) → zh_ms g w n j = g j
  | 0, _, _ => rfl
  | n + 1, j, h => by
    unfold zh_ms zh_up
    rw [if_neg (h n (by omega))]
    exact zh_ms_out (fun s hs => h s (by omega))
theorem zh_mn_in (k nn f st : Int32) (s : Nat) : ∃ v, 1 ≤ v ∧ v ≤ 9 ∧ zh_mn k nn f st s = nI v := by
  unfold zh_mn
  split
  · exact ⟨1, by omega, by omega, rfl⟩
  · generalize zh_en k (f + nI s * st) = x
    unfold zz_max zz_min
    by_cases a : x < 9
    · rw [if_pos a]
      by_cases b : (1 : Int32) < x
      · rw [if_pos b]
        obtain ⟨v, hv, rfl⟩ := nI_of (x := x) (Int32.not_lt.mpr (Int32.le_of_lt (Int32.lt_trans (by decide) b)))
        have a' : v < 9 := (nI_ltI (b := 9) hv (by omega)).mp a
        have b' : 1 < v := (nI_ltI (a := 1) (by omega) hv).mp b
        exact ⟨v, by omega, by omega, rfl⟩
      · rw [if_neg b]
        exact ⟨1, by omega, by omega, rfl⟩
    · rw [if_neg a, if_pos (by decide)]
      exact ⟨9, by omega, by omega, rfl⟩
theorem zs_entry {N : Nat} (hN : 100000 ≤ N) {I : Nat → Nat → Int32} {J : Nat → Nat → Int64} (k v : Int32) : zf_X11_entry N k v I J = some (zh_en k v, I, J) := by
  obtain ⟨M, rfl⟩ := zu_one N hN
  rw [zo_X11_entry]
  unfold zb_X11_entry_0 zh_en
  by_cases a : k = 0
  · rw [if_pos a, if_pos a]
  · by_cases b : k = 1
    · rw [if_neg a, if_neg a, if_pos b, if_pos b]
    · rw [if_neg a, if_neg a, if_neg b, if_neg b]
theorem zs_put {X : Nat → Nat → Int32} {s : Nat} (hs : s < 12) (v : Int32) : zz_putm X (nI s) 1 v = zz_u X 6 (7 * s + 1) v := by
  unfold zz_putm
  rw [show (nI s * (7 : Int32) + 1) = nI (s * 7 + 1) from (congrArg (· + nI 1) (pk_mul s 7)).trans (nI_add _ _), if_neg (nI_pos (by omega)), if_neg (nI_ge (by omega) (by omega)), nI_clamp (by omega), Nat.mul_comm s 7]
theorem zs_set_l {N n : Nat} (hN : 100000 ≤ N) (hn : n ≤ 12) {I : Nat → Nat → Int32} {J : Nat → Nat → Int64} (h5 : I 5 2 = nI n) (k nn f st : Int32) : ∀ q s u, s + q = n → q < u → zl_X11_setMinutes N u 6 k nn f st (zz_sum (zh_mn k nn f st) s) (nI s) (zh_r I 6 (zh_ms (I 6) (zh_mn k nn f st) s)) J = some (zz_sum (zh_mn k nn f st) n, zz_u (zh_r I 6 (zh_ms (I 6) (zh_mn k nn f st) n)) 28 4 0, J) := by
  intro q
  induction q with
  | zero =>
    intro s u hs hu
    obtain ⟨m, rfl⟩ : ∃ m, u = m + 1 := ⟨u - 1, by omega⟩
    obtain rfl : s = n := by omega
    rw [zo_X11_setMinutes_6]
    unfold zb_X11_setMinutes_6
    rw [zu_rx (by omega), h5, if_pos (nI_le (Nat.le_refl s) (by omega))]
    rfl
  | succ q ih =>
    intro s u hs hu
    obtain ⟨m, rfl⟩ : ∃ m, u = m + 1 := ⟨u - 1, by omega⟩
    refine Eq.trans ?_ (ih (s + 1) m (by omega) (by omega))
    rw [zo_X11_setMinutes_6]
    unfold zb_X11_setMinutes_6
    rw [zu_rx (by omega), h5, if_neg (nI_ge (show s < n by omega) (by omega)), zs_entry hN, Option.bind_some, zs_put (by omega), zs_put (by omega), zh_ru, zh_ru, nI_1]
    have e : zh_ms (I 6) (zh_mn k nn f st) (s + 1) = zh_up (zh_ms (I 6) (zh_mn k nn f st) s) (7 * s + 1) (zh_mn k nn f st s) := rfl
    have e2 : zz_sum (zh_mn k nn f st) (s + 1) = zz_sum (zh_mn k nn f st) s + zh_mn k nn f st s := rfl
    rw [e, e2]
    by_cases c : nn ≤ nI s
    · rw [if_pos c, show zh_mn k nn f st s = 1 from if_pos c]
    · rw [if_neg c, show zh_mn k nn f st s = zz_max 1 (zz_min 9 (zh_en k (f + nI s * st))) from if_neg c]
theorem zm_sheet_l {N n : Nat} (hn : n ≤ 12) {I : Nat → Nat → Int32} {J : Nat → Nat → Int64} (h1 : I 52 1 = nI n) (k nn f st : Int32) (w : Nat → Int32) (hw : ∀ s, s < n → w s = if k = 3 then 1 else zh_mn k nn f st s) : ∀ q s u, s + q = n → 2 * q < u → zl_X12_sheet N u 43 k nn 0 st (zz_sum w s) (f + nI s * st) (nI s) (zh_r I 54 (zh_ms (I 54) w s)) J = some (if k = 3 then -3 else zz_sum w n, zh_r I 54 (zh_ms (I 54) w n), J) := by
  intro q
  induction q with
  | zero =>
    intro s u hs hu
    obtain ⟨m, rfl⟩ : ∃ m, u = m + 1 := ⟨u - 1, by omega⟩
    obtain rfl : s = n := by omega
    rw [zo_X12_sheet_43]
    unfold zb_X12_sheet_43
    rw [zu_rx (by omega), h1, if_pos (nI_le (Nat.le_refl s) (by omega))]
    by_cases e : k = 3
    · rw [if_neg (fun w => w e), if_pos e]
    · rw [if_pos e, if_neg e]
  | succ q ih =>
    intro s u hs hu
    obtain ⟨m, rfl⟩ : ∃ m, u = m + 1 + 1 := ⟨u - 2, by omega⟩
    have nx := ih (s + 1) m (by omega) (by omega)
    have nx1 := ih (s + 1) (m + 1) (by omega) (by omega)
    have sv : f + nI (s + 1) * st = f + nI s * st + st := by
      rw [nI_succ, Int32.add_mul, Int32.one_mul, Int32.add_assoc]
    have e : zh_ms (I 54) w (s + 1) = zh_up (zh_ms (I 54) w s) (7 * s + 1) (w s) := rfl
    have e2 : zz_sum w (s + 1) = zz_sum w s + w s := rfl
    rw [e, e2, sv] at nx nx1
    rw [zo_X12_sheet_43]
    unfold zb_X12_sheet_43
    rw [zu_rx (by omega), h1, if_neg (nI_ge (show s < n by omega) (by omega))]
    have g : (nI (7 * s + 1) < 0 ∨ 84 ≤ (nI (7 * s + 1)).toNatClampNeg) = False := zu_gi (by omega) (by omega)
    simp only [zo_X12_sheet_88, zb_X12_sheet_88, zu_71, g, not_false_eq_true, if_true]
    simp only [nI_clamp (show 7 * s + 1 < 2 ^ 31 by omega), nI_1, zh_ru]
    have ws := hw s (by omega)
    by_cases k3 : k = 3
    · rw [if_pos k3] at ws
      subst k3
      rw [if_pos (by decide), if_pos (by decide), if_pos rfl]
      rw [ws] at nx
      exact nx
    · rw [if_neg k3] at ws nx nx1
      rw [if_neg k3]
      unfold zh_mn at ws
      by_cases c : nn ≤ nI s
      · rw [if_pos c] at ws
        rw [ws] at nx
        have lt : ¬ nI s < nn := Int32.not_lt.mpr c
        simp only [if_neg k3, if_neg lt, ite_self]
        exact nx
      · rw [if_neg c] at ws
        rw [ws] at nx1
        have lt : nI s < nn := Int32.not_le.mp c
        simp only [if_neg k3, if_pos lt]
        by_cases a : k = 0
        · rw [show zh_en k (f + nI s * st) = (f + nI s * st).toInt8.toInt32 from if_pos a] at nx1
          rw [if_neg (fun w => w a)]
          exact nx1
        · by_cases b : k = 1
          · rw [show zh_en k (f + nI s * st) = (f + nI s * st).toInt16.toInt32 from (if_neg a).trans (if_pos b)] at nx1
            rw [if_pos a, if_neg (fun w => w b)]
            exact nx1
          · rw [show zh_en k (f + nI s * st) = f + nI s * st from (if_neg a).trans (if_neg b)] at nx1
            rw [if_pos a, if_pos b]
            exact nx1
/-- other minutes in both -/
theorem zi_minutes {n : Nat} {I : Nat → Nat → Int32} {J : Nat → Nat → Int64} {F : zz_F} (h : zi n I J F) (w : Nat → Int32) (hw : ∀ s, ∃ v, 1 ≤ v ∧ v ≤ 9 ∧ w s = nI v) : zi n (zh_r (zz_u (zz_u (zh_r I 6 (zh_ms (I 6) w n)) 28 4 0) 52 7 0) 54 (zh_ms (I 54) w n)) J F := by
  have hn := h.1.1
  have k0 : ∀ (g : Nat → Int32) s, zh_ms g w n (7 * s) = g (7 * s) := fun g s => zh_ms_out (fun o _ => by omega)
  obtain ⟨m, cs, m40, c40, m16, c3, ok, ev, f01, tb⟩ := h.2.2.2.2.2.2.2.1
  refine ⟨⟨hn, h.1.2.1, h.1.2.2.1, fun k hk => ?_, fun s hs => ?_, ?_, ?_⟩, h.2.1, h.2.2.1, h.2.2.2.1, h.2.2.2.2.1, zc_rng h.2.2.2.2.2.1 rfl rfl rfl rfl (fun k hk => by simp (disch := omega) only [zu_ux, zu_cpn, zu_rx]), zc_shl h.2.2.2.2.2.2.1 rfl rfl rfl rfl rfl (fun k hk => by simp (disch := omega) only [zu_ux, zu_cpn, zu_rx]), ⟨m, cs, m40, c40, m16, c3, ok, ev, .inl rfl, fun q => absurd q (show ¬ ((0 : Int32) = 1) by decide)⟩, h.2.2.2.2.2.2.2.2⟩
  · show zh_ms (I 6) w n k = zh_ms (I 54) w n k
    by_cases c : ∃ s, s < n ∧ k = 7 * s + 1
    · obtain ⟨s, hs, rfl⟩ := c
      rw [zh_ms_in hs, zh_ms_in hs]
    · rw [zh_ms_out (fun s hs e => c ⟨s, hs, e⟩), zh_ms_out (fun s hs e => c ⟨s, hs, e⟩)]
      exact h.1.2.2.2.1 k hk
  · show zi_fd (fun j => zh_ms (I 54) w n (7 * s + j))
    obtain ⟨f0, f1, f2, f3, f4, f5, f6⟩ := h.1.2.2.2.2.1 s hs
    have e : ∀ j, j < 7 → j ≠ 1 → zh_ms (I 54) w n (7 * s + j) = I 54 (7 * s + j) := fun j hj h1 => zh_ms_out (fun o _ => by omega)
    refine ⟨?_, ?_, ?_, ?_, ?_, ?_, ?_⟩
    · show ∃ v, v < 2 ∧ zh_ms (I 54) w n (7 * s + 0) = nI v
      rw [e 0 (by omega) (by omega)]; exact f0
    · show ∃ v, 1 ≤ v ∧ v ≤ 9 ∧ zh_ms (I 54) w n (7 * s + 1) = nI v
      rw [zh_ms_in hs]; exact hw s
    · show ∃ v, v < 64 ∧ zh_ms (I 54) w n (7 * s + 2) = nI v
      rw [e 2 (by omega) (by omega)]; exact f2
    · show ∃ v, v < 16 ∧ zh_ms (I 54) w n (7 * s + 3) = nI v
      rw [e 3 (by omega) (by omega)]; exact f3
    · show zh_ms (I 54) w n (7 * s + 4) = -1 ∨ ∃ v, v < 8 ∧ zh_ms (I 54) w n (7 * s + 4) = nI v
      rw [e 4 (by omega) (by omega)]; exact f4
    · show zh_ms (I 54) w n (7 * s + 5) = -1 ∨ ∃ v, v < 8 ∧ zh_ms (I 54) w n (7 * s + 5) = nI v
      rw [e 5 (by omega) (by omega)]; exact f5
    · show ∃ v, v < 10 ∧ zh_ms (I 54) w n (7 * s + 6) = nI v
      rw [e 6 (by omega) (by omega)]; exact f6
  · show I 7 0 = zu_set (fun s => decide (zh_ms (I 54) w n (7 * s) = 0)) n
    rw [h.1.2.2.2.2.2.1]
    exact zu_set_cong fun i hi => by rw [k0]
  · show I 7 1 = zu_set (fun s => decide (zh_ms (I 54) w n (7 * s) = 1)) n
    rw [h.1.2.2.2.2.2.2]
    exact zu_set_cong fun i hi => by rw [k0]
theorem zy_sheet {N n : Nat} (hN : 100000 ≤ N) {I : Nat → Nat → Int32} {J : Nat → Nat → Int64} {F : zz_F} (h : zi n I J F) (k nn f st : Int32) : ∃ v I1 J1 I2 J2, zf_X11_sheet N k nn f st I J = some (v, I1, J1) ∧ zf_X12_sheet N k nn f st I1 J1 = some (v, I2, J2) ∧ zi n I2 J2 F := by
  have hn := h.1.1
  obtain ⟨M, rfl⟩ := zu_one N hN
  obtain ⟨L, rfl⟩ : ∃ L, M = L + 1 := ⟨M - 1, by omega⟩
  have no : zf_X11_sheet (L + 1 + 1) k nn f st I J = some (-1, I, J) → zf_X12_sheet (L + 1 + 1) k nn f st I J = some (-1, zz_u I 52 7 0, J) → ∃ v I1 J1 I2 J2, zf_X11_sheet (L + 1 + 1) k nn f st I J = some (v, I1, J1) ∧ zf_X12_sheet (L + 1 + 1) k nn f st I1 J1 = some (v, I2, J2) ∧ zi n I2 J2 F := fun a b => ⟨_, _, _, _, _, a, b, zi_q0 h⟩
  have set : ∀ k nn f st : Int32, zf_X11_setMinutes (L + 1 + 1) k nn f st I J = some (zz_sum (zh_mn k nn f st) n, zz_u (zh_r I 6 (zh_ms (I 6) (zh_mn k nn f st) n)) 28 4 0, J) := fun k nn f st => by
    rw [zo_X11_setMinutes]
    have := zs_set_l hN hn (J := J) h.1.2.2.1 k nn f st n 0 (L + 1) (by omega) (by omega)
    rw [show zh_ms (I 6) (zh_mn k nn f st) 0 = I 6 from rfl, zh_rs] at this
    exact this
  have ref : ∀ (w : Nat → Int32), (∀ s, s < n → w s = if k = 3 then 1 else zh_mn k nn f st s) → ∀ X : Nat → Nat → Int32, X 52 1 = nI n → zl_X12_sheet (L + 1 + 1) (L + 1) 34 k nn f st 0 0 0 X J = some (if k = 3 then -3 else zz_sum w n, zh_r X 54 (zh_ms (X 54) w n), J) := fun w hw X hX => by
    rw [zo_X12_sheet_34]
    have := zm_sheet_l (N := L + 1 + 1) hn (J := J) hX k nn f st w hw n 0 L (by omega) (by omega)
    rw [show zh_ms (X 54) w 0 = X 54 from rfl, zh_rs, show f + nI 0 * st = f by rw [show nI 0 * st = 0 from Int32.zero_mul, Int32.add_zero]] at this
    exact this
  rcases zu_bet k 3 (by omega) with q | ⟨v, hv, rfl⟩
  · refine no ?_ ?_
    · rw [zo_X11_sheet]
      unfold zb_X11_sheet_0
      by_cases z : k < 0
      · rw [if_pos z]
      · rw [if_neg z, if_pos (show (3 : Int32) < k from q.elim (fun w => absurd w z) id)]
    · rw [zo_X12_sheet]
      unfold zb_X12_sheet_0
      rw [if_pos (show zv_X12_in k 0 3 = 0 from zu_inN 3 q), zo_X12_sheet_20]
      rfl
  · have p1 : ¬ nI v < 0 := nI_pos (by omega)
    have p2 : ¬ (3 : Int32) < nI v := nI_nlt (a := 3) hv (by omega)
    have p3 : ¬ zv_X12_in (nI v) 0 3 = 0 := by rw [show (3 : Int32) = nI 3 from rfl, zu_inY (by omega) hv]; decide
    by_cases c : nn ≤ 12
    · by_cases v3 : v = 3
      · subst v3
        have a : zf_X11_sheet (L + 1 + 1) (nI 3) nn f st I J = some (-3, zz_u (zh_r I 6 (zh_ms (I 6) (zh_mn 2 0 1 0) n)) 28 4 0, J) := by
          rw [zo_X11_sheet]
          unfold zb_X11_sheet_0
          refine zu_gn p1 (zu_gn p2 (zu_gd c (zu_gn (fun w => w rfl) (zu_bd (set 2 0 1 0) rfl))))
        have b := ref (zh_mn 2 0 1 0) (fun s hs => by rw [if_pos (show nI 3 = 3 from rfl)]; exact if_pos (nI_pos' (n := s) (by omega))) (zz_u (zz_u (zh_r I 6 (zh_ms (I 6) (zh_mn 2 0 1 0) n)) 28 4 0) 52 7 0) h.1.2.1
        rw [if_pos (show nI 3 = 3 from rfl)] at b
        have b2 : zf_X12_sheet (L + 1 + 1) (nI 3) nn f st (zz_u (zh_r I 6 (zh_ms (I 6) (zh_mn 2 0 1 0) n)) 28 4 0) J = some (-3, zh_r (zz_u (zz_u (zh_r I 6 (zh_ms (I 6) (zh_mn 2 0 1 0) n)) 28 4 0) 52 7 0) 54 (zh_ms (I 54) (zh_mn 2 0 1 0) n), J) := by
          rw [zo_X12_sheet]
          unfold zb_X12_sheet_0
          exact zu_gn p3 (zu_gd c (zu_gd (by decide) b))
        exact ⟨_, _, _, _, _, a, b2, zi_minutes h _ (fun s => zh_mn_in _ _ _ _ s)⟩
      · have k3 : ¬ nI v = 3 := fun w => v3 ((nI_eq (b := 3) (by omega) (by omega)).mp w)
        have lt : ¬ (3 : Int32) ≤ nI v := nI_ge (b := 3) (by omega) (by omega)
        by_cases d : 0 ≤ nn
        · have a : zf_X11_sheet (L + 1 + 1) (nI v) nn f st I J = some (zz_sum (zh_mn (nI v) nn f st) n, zz_u (zh_r I 6 (zh_ms (I 6) (zh_mn (nI v) nn f st) n)) 28 4 0, J) := by
            rw [zo_X11_sheet]
            unfold zb_X11_sheet_0
            exact zu_gn p1 (zu_gn p2 (zu_gd c (zu_gd k3 (zu_gd d (zu_bd (set (nI v) nn f st) rfl)))))
          have b := ref (zh_mn (nI v) nn f st) (fun s hs => by rw [if_neg k3]) (zz_u (zz_u (zh_r I 6 (zh_ms (I 6) (zh_mn (nI v) nn f st) n)) 28 4 0) 52 7 0) h.1.2.1
          rw [if_neg k3] at b
          have b2 : zf_X12_sheet (L + 1 + 1) (nI v) nn f st (zz_u (zh_r I 6 (zh_ms (I 6) (zh_mn (nI v) nn f st) n)) 28 4 0) J = some (zz_sum (zh_mn (nI v) nn f st) n, zh_r (zz_u (zz_u (zh_r I 6 (zh_ms (I 6) (zh_mn (nI v) nn f st) n)) 28 4 0) 52 7 0) 54 (zh_ms (I 54) (zh_mn (nI v) nn f st) n), J) := by
            rw [zo_X12_sheet]
            unfold zb_X12_sheet_0
            exact zu_gn p3 (zu_gd c (zu_gn lt (zu_gd d b)))
          exact ⟨_, _, _, _, _, a, b2, zi_minutes h _ (fun s => zh_mn_in _ _ _ _ s)⟩
        · have a : zf_X11_sheet (L + 1 + 1) (nI v) nn f st I J = some (-2, I, J) := by
            rw [zo_X11_sheet]
            unfold zb_X11_sheet_0
            exact zu_gn p1 (zu_gn p2 (zu_gd c (zu_gd k3 (zu_gn d rfl))))
          have b : zf_X12_sheet (L + 1 + 1) (nI v) nn f st I J = some (-2, zz_u I 52 7 0, J) := by
            rw [zo_X12_sheet]
            unfold zb_X12_sheet_0
            exact zu_gn p3 (zu_gd c (zu_gn lt (zu_gn d rfl)))
          exact ⟨_, _, _, _, _, a, b, zi_q0 h⟩
    · refine no ?_ ?_
      · rw [zo_X11_sheet]
        unfold zb_X11_sheet_0
        exact zu_gn p1 (zu_gn p2 (zu_gn c rfl))
      · rw [zo_X12_sheet]
        unfold zb_X12_sheet_0
        refine zu_gn p3 (zu_gn c ?_)
        rw [zo_X12_sheet_20]
        rfl
