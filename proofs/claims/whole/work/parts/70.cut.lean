/-! CUT, PUTS, COUNT -/
/-- a scene's number, or not, for both -/
theorem zu_scn {n : Nat} {I : Nat → Nat → Int32} (h : zi_sc n I) (x : Int32) : (zv_X9_has I x = 0 ∧ ∀ X : Nat → Nat → Int32, X 52 1 = I 52 1 → zv_X12_isScene X x = 0) ∨ ∃ s, s < n ∧ x = nI s ∧ zv_X9_has I x = 1 ∧ ∀ X : Nat → Nat → Int32, X 52 1 = I 52 1 → zv_X12_isScene X x = 1 := by
  have hn := h.1
  unfold zv_X9_has zv_X12_isScene
  rw [h.2.2.1, h.2.1]
  by_cases z : x < 0
  · refine .inl ⟨if_pos z, fun X _ => zu_in0 z⟩
  · obtain ⟨s, hs, rfl⟩ := nI_of z
    by_cases q : s < n
    · refine .inr ⟨s, q, rfl, by rw [if_neg z, if_neg (nI_ge q (by omega))], fun X hX => ?_⟩
      rw [hX, show nI n - 1 = nI (n - 1) by rw [show n = n - 1 + 1 by omega, nI_pred]; rfl]
      exact zu_inY (by omega) (by omega)
    · refine .inl ⟨by rw [if_neg z, if_pos (nI_le (by omega) hs)], fun X hX => zu_in1 ?_⟩
      rw [hX]
      by_cases e : n = 0
      · subst e
        have : (nI 0 - 1 : Int32) = -1 := by decide
        rw [this]
        exact Int32.lt_of_lt_of_le (by decide) (nI_pos' hs)
      · rw [show nI n - 1 = nI (n - 1) by rw [show n = n - 1 + 1 by omega, nI_pred]; rfl]
        exact nI_lt (by omega) hs
theorem zu_upS {a : Nat → Int32} {s : Nat} {w : Int32} {n : Nat} (hn : n ≤ 12) (hs : s < n) : zu_set (fun i => decide (zh_up a s w i = w)) n = zu_set (fun i => decide (a i = w)) n ||| ((1 : Int32) <<< (nI s &&& 31)) := by
  rw [zu_set_add (by omega) hs]
  refine zu_set_cong fun i hi => ?_
  unfold zh_up
  by_cases e : i = s <;> simp [e]
theorem zu_upD {a : Nat → Int32} {s : Nat} {w v : Int32} {n : Nat} (hn : n ≤ 12) (hs : s < n) (hv : w ≠ v) : zu_set (fun i => decide (zh_up a s w i = v)) n = zu_set (fun i => decide (a i = v)) n &&& (((1 : Int32) <<< (nI s &&& 31)) ^^^ (-1)) := by
  rw [zu_set_del (by omega) (by omega)]
  refine zu_set_cong fun i hi => ?_
  unfold zh_up
  by_cases e : i = s <;> simp [e, hv]
theorem zu_upN {a : Nat → Int32} {s : Nat} {w v : Int32} {n : Nat} (hv : w ≠ v) (ha : a s ≠ v) : zu_set (fun i => decide (zh_up a s w i = v)) n = zu_set (fun i => decide (a i = v)) n := by
  refine zu_set_cong fun i hi => ?_
  unfold zh_up
  by_cases e : i = s
  · subst e; simp [hv, ha]
  · simp [e]
/-- how many are to come beside a scene -/
theorem zs_beside {n : Nat} {I : Nat → Nat → Int32} (h : zi_sc n I) {s : Nat} (hs : s < n) : zv_X11_comingBeside I (nI s) = zv_J6_bitCount (zh_P n (I 54) (I 8 2) (I 54 (7 * s))) := by
  have hn := h.1
  unfold zv_X11_comingBeside
  obtain ⟨⟨v, hv, e⟩, -⟩ := h.2.2.2.2.1 s hs
  have e : I 54 (7 * s) = nI v := e
  rw [zu_cf0 (by omega), h.2.2.2.1 _ (by omega), show I 54 (7 * s + 0) = nI v from e, zs_ofp h _ (by omega), e]
theorem zm_left {N n : Nat} (hN : 100000 ≤ N) (hn : n ≤ 12) {I : Nat → Nat → Int32} {J : Nat → Nat → Int64} (h1 : I 52 1 = nI n) (p : Int32) : zf_X12_left N p I J = some (zv_J6_bitCount (zh_P n (I 54) (zh_W n (I 53) 0) p), I, J) := by
  obtain ⟨M, rfl⟩ := zu_one N hN
  rw [zo_X12_left]
  exact zu_bd (zm_where hN hn h1 _) (zu_bd (zm_ofPlay hN hn h1 _ _) rfl)
theorem zy_cut {N n : Nat} (hN : 100000 ≤ N) {I : Nat → Nat → Int32} {J : Nat → Nat → Int64} {F : zz_F} (h : zi n I J F) (x : Int32) : ∃ v I1 J1 I2 J2, zf_X11_cut N x I J = some (v, I1, J1) ∧ zf_X12_cut N x I1 J1 = some (v, I2, J2) ∧ zi n I2 J2 F := by
  have hn := h.1.1
  obtain ⟨m, t, hm, ht, h5, h20, h4, hk⟩ := h.2.2.2.2.2.1
  obtain ⟨M, rfl⟩ := zu_one N hN
  rcases zu_scn h.1 x with ⟨q1, q2⟩ | ⟨s, hs, rfl, q1, q2⟩
  · have a : zf_X11_cut (M + 1) x I J = some (-1, I, J) := by
      rw [zo_X11_cut]
      unfold zb_X11_cut_0 zv_X11_refusalToDrop
      rw [q1]
      rfl
    have b : zf_X12_cut (M + 1) x I J = some (-1, zz_u I 52 7 0, J) := by
      rw [zo_X12_cut]
      exact zu_gn (fun w => w (q2 _ rfl)) rfl
    exact ⟨_, _, _, _, _, a, b, zi_q0 h⟩
  · have hb : bt (I 8 2) s = decide (I 53 s = 0) := by
      rw [h.2.1.2.2.1]
      exact zu_set_at (by omega) hs
    have sc : ¬ zv_X12_isScene (zz_u I 52 7 0) (nI s) = 0 := by rw [q2 (zz_u I 52 7 0) rfl]; decide
    by_cases c : I 53 s = 0
    · have rf : zv_X11_refusalToDrop I (nI s) = 0 := by
        unfold zv_X11_refusalToDrop
        rw [q1, if_pos (by decide), if_pos (by rw [zu_bz (by omega), hb]; simp [c])]
      obtain ⟨C, ec, c1, c4, c5, c8⟩ := zs_push hN (I := I) (J := J) ht hm h4 h5
      have C8 : C 8 = I 8 := c1 8 (by omega) (by omega)
      have C52 : C 52 = I 52 := c1 52 (by omega) (by omega)
      have C53 : C 53 = I 53 := c1 53 (by omega) (by omega)
      have C54 : C 54 = I 54 := c1 54 (by omega) (by omega)
      have D8 : zz_dropm C (nI s) 8 2 = zh_W n (zh_up (I 53) s 2) 0 := by
        show C 8 2 &&& (((1 : Int32) <<< (nI s &&& 31)) ^^^ (-1)) = _
        rw [C8, h.2.1.2.2.1]
        exact (zu_upD hn hs (by decide)).symm
      have D84 : zz_dropm C (nI s) 8 4 = zh_W n (zh_up (I 53) s 2) 2 := by
        show C 8 4 ||| ((1 : Int32) <<< (nI s &&& 31)) = _
        rw [C8, h.2.1.2.2.2.2.1]
        exact (zu_upS hn hs).symm
      have sD : zi_sc n (zz_dropm C (nI s)) := zc_sc h.1 (congrFun (c1 5 (by omega) (by omega)) 2) (c1 6 (by omega) (by omega)) (c1 7 (by omega) (by omega)) (congrFun C52 1) C54
      have a : zf_X11_cut (M + 1) (nI s) I J = some (zv_J6_bitCount (zh_P n (I 54) (zh_W n (zh_up (I 53) s 2) 0) (I 54 (7 * s))), zz_dropm C (nI s), J) := by
        rw [zo_X11_cut]
        unfold zb_X11_cut_0
        refine zu_gd rf (zu_bd ec ?_)
        simp only [zs_beside sD hs, D8]
        rw [show zz_dropm C (nI s) 54 = I 54 from C54]
      obtain ⟨R, er, r1, r61, r20, r52⟩ := zm_rem hN (I := zz_u (zz_dropm C (nI s)) 52 7 0) (J := J) hm (show C 52 20 = nI m by rw [C52]; exact h20)
      have R53 : R 53 = I 53 := by rw [r1 53 (by omega) (by omega)]; exact C53
      have R54 : R 54 = I 54 := by rw [r1 54 (by omega) (by omega)]; exact C54
      have R521 : R 52 1 = nI n := by rw [r52 1 (by omega)]; show C 52 1 = _; rw [C52]; exact h.1.2.1
      have b : zf_X12_cut (M + 1) (nI s) (zz_dropm C (nI s)) J = some (zv_J6_bitCount (zh_P n (I 54) (zh_W n (zh_up (I 53) s 2) 0) (I 54 (7 * s))), zz_u R 53 s 2, J) := by
        rw [zo_X12_cut]
        unfold zb_X12_cut_0
        refine zu_gd (by rw [q2 (zz_u (zz_dropm C (nI s)) 52 7 0) (congrFun C52 1)]; decide) (zu_gd (nI_in (show s < 18 by omega) (by omega)) ?_)
        rw [nI_clamp (by omega)]
        refine zu_gd (show C 53 s = 0 by rw [C53]; exact c) (zu_bd er ?_)
        rw [zu_70, if_pos (nI_in (show 7 * s + 0 < 84 by omega) (by omega))]
        refine zu_bd (zm_left hN hn (by exact R521) _) ?_
        simp only [zu_play (I := zz_u R 53 s 2) (s := s) (by omega)]
        rw [show zz_u R 53 s 2 54 = I 54 by rw [zu_ux (by omega), R54], zu_r53, R53]
      refine ⟨_, _, _, _, _, a, b, zi_step h ht hm hk c1 c4 c5 c8 (X := zz_u (zz_dropm C (nI s)) 52 7 0) (fun a ha1 ha2 ha3 => by rw [zu_ux ha3]; unfold zz_dropm; rw [zu_ux ha1, zu_ux ha1]) (fun i _ => rfl) (fun i hi => by rw [zz_un (fun w => hi w.2)]; rfl) r1 r61 r20 r52 (fun a ha1 ha2 _ => zu_ux ha1) (fun i _ => by rw [zu_ux (by omega)]) ?_ ?_ h.2.2.2.2.2.2.2.2⟩
      · rw [zu_r53, R53, zu_ux (by omega)]
        obtain ⟨a0, a1, a2, a3, a4, a5, a6, a7, a8, a9, a10⟩ := h.2.1
        have nd : ∀ i, 12 ≤ i → zh_up (I 53) s 2 i = I 53 i := fun i hi => if_neg (by omega)
        refine ⟨?_, ?_, D8, ?_, D84, ?_, ?_, ?_, ?_, fun i hi => ?_, ?_⟩
        · rw [nd 12 (by omega), ← a0, ← C8]; rfl
        · rw [nd 13 (by omega), ← a1, ← C8]; rfl
        · rw [zu_upN (by decide) (by rw [c]; decide), ← a3, ← C8]; rfl
        · rw [nd 14 (by omega), ← a5, ← C8]; rfl
        · rw [nd 15 (by omega), ← a6, ← C8]; rfl
        · rw [nd 16 (by omega), ← a7, ← C8]; rfl
        · rw [nd 17 (by omega), ← a8, ← C8]; rfl
        · unfold zh_up
          split
          · exact .inr (.inr rfl)
          · exact a9 i hi
        · rw [nd 13 (by omega)]; exact a10
      · refine zc_tol h.2.2.2.1 ?_ ?_ rfl rfl
        · rw [zu_ux (by omega), r1 2 (by omega) (by omega)]
          exact congrFun (c1 2 (by omega) (by omega)) 3
        · rw [zu_ux (by omega), r52 6 (by omega)]
          exact congrFun C52 6
    · have rf : zv_X11_refusalToDrop I (nI s) = -2 := by
        unfold zv_X11_refusalToDrop
        rw [q1, if_pos (by decide), if_neg (by rw [zu_bz (by omega), hb]; simp [c])]
      have a : zf_X11_cut (M + 1) (nI s) I J = some (-2, I, J) := by
        rw [zo_X11_cut]
        unfold zb_X11_cut_0
        rw [rf]
        rfl
      have b : zf_X12_cut (M + 1) (nI s) I J = some (-2, zz_u I 52 7 0, J) := by
        rw [zo_X12_cut]
        unfold zb_X12_cut_0
        refine zu_gd sc (zu_gd (nI_in (show s < 18 by omega) (by omega)) ?_)
        rw [nI_clamp (by omega), if_neg c]
      exact ⟨_, _, _, _, _, a, b, zi_q0 h⟩
