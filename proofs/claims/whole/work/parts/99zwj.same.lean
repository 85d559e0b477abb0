/-! THE CALLS THAT WRITE NO LONG: their proofs again, with that said -/
theorem zj_sign {N n : Nat} (hN : 100000 ≤ N) {I : Nat → Nat → Int32} {J : Nat → Nat → Int64} {F : zz_F} (h : zi n I J F) (x : Int32) : ∃ v I1 I2, zf_X11_sign N x I J = some (v, I1, J) ∧ zf_X12_sign N x I1 J = some (v, I2, J) ∧ zi n I2 J F := by
  obtain ⟨⟨t, ht, t1, t2⟩, tx⟩ := h.2.2.1
  obtain ⟨M, rfl⟩ := zu_one N hN
  have le : (nI t + 4 ≤ 80) = (t + 4 ≤ 80) := by
    rw [show nI t + 4 = nI (t + 4) from nI_add t 4]
    exact propext (nI_leI (b := 80) (by omega) (by omega))
  by_cases c : t + 4 ≤ 80
  · have a : zf_X11_sign (M + 1) x I J = some (nI (t + 4), zz_u (zh_r I 3 (zh_pt (I 3) (zh_sg x) t 4)) 2 1 (nI (t + 4)), J) := by
      rw [zo_X11_sign]
      unfold zb_X11_sign_0
      rw [t1, if_pos (by rw [le]; exact c)]
      refine zs_sign_l x t c 4 0 M I (by omega) (by omega) ?_
      rw [zh_pt_0, zh_rs]
      funext b j
      unfold zz_u
      split
      · next e => rw [e.1, e.2, t1]; rfl
      · rfl
    have b : ∀ X : Nat → Nat → Int32, X 52 4 = nI t → zf_X12_sign (M + 1) x X J = some (nI (t + 4), zh_r (zz_u (zz_u X 52 7 0) 52 4 (nI (t + 4))) 55 (zh_pt (X 55) (zh_sb x) t 4), J) := by
      intro X hX
      rw [zo_X12_sign]
      unfold zb_X12_sign_0
      rw [hX, if_pos (by rw [le]; exact c)]
      refine zm_sign_l (I := zz_u X 52 7 0) x t c 4 0 M _ (by omega) (by omega) ?_
      rw [zh_pt_0]
      funext b j
      unfold zh_r zz_u
      by_cases q : b = 55
      · subst q; simp
      · by_cases w : b = 52 ∧ j = 4
        · simp [w.1, w.2, hX]
        · simp [q, w]
    refine ⟨_, _, _, a, b _ t2, h.1, h.2.1, ⟨⟨t + 4, c, rfl, rfl⟩, fun k hk => ?_⟩, h.2.2.2.1, h.2.2.2.2.1, zc_rng h.2.2.2.2.2.1 rfl rfl rfl rfl (fun k hk => by simp (disch := omega) only [zu_ux, zu_cpn, zu_rx]), zc_shl h.2.2.2.2.2.2.1 rfl rfl rfl rfl rfl (fun k hk => by simp (disch := omega) only [zu_ux, zu_cpn, zu_rx]), h.2.2.2.2.2.2.2.1, h.2.2.2.2.2.2.2.2⟩
    show zh_pt (I 3) (zh_sg x) t 4 k = zh_pt (I 55) (zh_sb x) t 4 k &&& 255 ∧ ∃ b, b < 256 ∧ zh_pt (I 55) (zh_sb x) t 4 k = (nI b).toInt8.toInt32
    unfold zh_pt
    by_cases q : t ≤ k ∧ k < t + 4
    · rw [if_pos q, if_pos q]
      refine ⟨zu_byte x (by omega), ?_⟩
      unfold zh_sb
      rw [vp_nar_byte]
      exact zu_isb _
    · rw [if_neg q, if_neg q]
      exact tx k hk
  · have a : zf_X11_sign (M + 1) x I J = some (-1, I, J) := by
      rw [zo_X11_sign]
      unfold zb_X11_sign_0
      rw [t1, if_neg (by rw [le]; exact c)]
    have b : zf_X12_sign (M + 1) x I J = some (-1, zz_u I 52 7 0, J) := by
      rw [zo_X12_sign]
      unfold zb_X12_sign_0
      rw [t2, if_neg (by rw [le]; exact c)]
    exact ⟨_, _, _, a, b, zi_q0 h⟩
theorem zj_sheet {N n : Nat} (hN : 100000 ≤ N) {I : Nat → Nat → Int32} {J : Nat → Nat → Int64} {F : zz_F} (h : zi n I J F) (k nn f st : Int32) : ∃ v I1 I2, zf_X11_sheet N k nn f st I J = some (v, I1, J) ∧ zf_X12_sheet N k nn f st I1 J = some (v, I2, J) ∧ zi n I2 J F := by
  have hn := h.1.1
  obtain ⟨M, rfl⟩ := zu_one N hN
  obtain ⟨L, rfl⟩ : ∃ L, M = L + 1 := ⟨M - 1, by omega⟩
  have no : zf_X11_sheet (L + 1 + 1) k nn f st I J = some (-1, I, J) → zf_X12_sheet (L + 1 + 1) k nn f st I J = some (-1, zz_u I 52 7 0, J) → ∃ v I1 I2, zf_X11_sheet (L + 1 + 1) k nn f st I J = some (v, I1, J) ∧ zf_X12_sheet (L + 1 + 1) k nn f st I1 J = some (v, I2, J) ∧ zi n I2 J F := fun a b => ⟨_, _, _, a, b, zi_q0 h⟩
  have set : ∀ k nn f st : Int32, zf_X11_setMinutes (L + 1 + 1) k nn f st I J = some (zz_sum (zh_mn k nn f st) n, zz_u (zh_r I 6 (zh_ms (I 6) (zh_mn k nn f st) n)) 28 4 0, J) := fun k nn f st => by
    rw [zo_X11_setMinutes]
    have := zs_set_l hN hn (J := J) h.1.2.2.1 k nn f st n 0 (L + 1) (by omega) (by omega)
    rw [show zh_ms (I 6) (zh_mn k nn f st) 0 = I 6 from rfl, zh_rs] at this
    exact this
  have ref : ∀ (w : Nat → Int32), (∀ s, s < n → w s = if k = 3 then 1 else zh_mn k nn f st s) → ∀ X : Nat → Nat → Int32, X 52 1 = nI n → zl_X12_sheet (L + 1 + 1) (L + 1) 34 k nn f st 0 0 0 X J = some (if k = 3 then -3 else zz_sum w n, zh_r X 54 (zh_ms (X 54) w n), J) := fun w hw X hX => by
    rw [zo_X12_sheet_34]
    have := zm_sheet_l (N := L + 1 + 1) hn (J := J) hX k nn f st w hw n 0 L (by omega) (by omega)
    rw [show zh_ms (X 54) w 0 = X 54 from rfl, zh_rs, show f + nI 0 * st = f by rw [show nI 0 * st = 0 from Int32.zero_mul, Int32.add_zero]] at this
    exact this
  rcases zu_bet k 3 (by omega) with q | ⟨v, hv, rfl⟩
  · refine no ?_ ?_
    · rw [zo_X11_sheet]
      unfold zb_X11_sheet_0
      by_cases z : k < 0
      · rw [if_pos z]
      · rw [if_neg z, if_pos (show (3 : Int32) < k from q.elim (fun w => absurd w z) id)]
    · rw [zo_X12_sheet]
      unfold zb_X12_sheet_0
      rw [if_pos (show zv_X12_in k 0 3 = 0 from zu_inN 3 q), zo_X12_sheet_20]
      rfl
  · have p1 : ¬ nI v < 0 := nI_pos (by omega)
    have p2 : ¬ (3 : Int32) < nI v := nI_nlt (a := 3) hv (by omega)
    have p3 : ¬ zv_X12_in (nI v) 0 3 = 0 := by rw [show (3 : Int32) = nI 3 from rfl, zu_inY (by omega) hv]; decide
    by_cases c : nn ≤ 12
    · by_cases v3 : v = 3
      · subst v3
        have a : zf_X11_sheet (L + 1 + 1) (nI 3) nn f st I J = some (-3, zz_u (zh_r I 6 (zh_ms (I 6) (zh_mn 2 0 1 0) n)) 28 4 0, J) := by
          rw [zo_X11_sheet]
          unfold zb_X11_sheet_0
          refine zu_gn p1 (zu_gn p2 (zu_gd c (zu_gn (fun w => w rfl) (zu_bd (set 2 0 1 0) rfl))))
        have b := ref (zh_mn 2 0 1 0) (fun s hs => by rw [if_pos (show nI 3 = 3 from rfl)]; exact if_pos (nI_pos' (n := s) (by omega))) (zz_u (zz_u (zh_r I 6 (zh_ms (I 6) (zh_mn 2 0 1 0) n)) 28 4 0) 52 7 0) h.1.2.1
        rw [if_pos (show nI 3 = 3 from rfl)] at b
        have b2 : zf_X12_sheet (L + 1 + 1) (nI 3) nn f st (zz_u (zh_r I 6 (zh_ms (I 6) (zh_mn 2 0 1 0) n)) 28 4 0) J = some (-3, zh_r (zz_u (zz_u (zh_r I 6 (zh_ms (I 6) (zh_mn 2 0 1 0) n)) 28 4 0) 52 7 0) 54 (zh_ms (I 54) (zh_mn 2 0 1 0) n), J) := by
          rw [zo_X12_sheet]
          unfold zb_X12_sheet_0
          exact zu_gn p3 (zu_gd c (zu_gd (by decide) b))
        exact ⟨_, _, _, a, b2, zi_minutes h _ (fun s => zh_mn_in _ _ _ _ s)⟩
      · have k3 : ¬ nI v = 3 := fun w => v3 ((nI_eq (b := 3) (by omega) (by omega)).mp w)
        have lt : ¬ (3 : Int32) ≤ nI v := nI_ge (b := 3) (by omega) (by omega)
        by_cases d : 0 ≤ nn
        · have a : zf_X11_sheet (L + 1 + 1) (nI v) nn f st I J = some (zz_sum (zh_mn (nI v) nn f st) n, zz_u (zh_r I 6 (zh_ms (I 6) (zh_mn (nI v) nn f st) n)) 28 4 0, J) := by
            rw [zo_X11_sheet]
            unfold zb_X11_sheet_0
            exact zu_gn p1 (zu_gn p2 (zu_gd c (zu_gd k3 (zu_gd d (zu_bd (set (nI v) nn f st) rfl)))))
          have b := ref (zh_mn (nI v) nn f st) (fun s hs => by rw [if_neg k3]) (zz_u (zz_u (zh_r I 6 (zh_ms (I 6) (zh_mn (nI v) nn f st) n)) 28 4 0) 52 7 0) h.1.2.1
          rw [if_neg k3] at b
          have b2 : zf_X12_sheet (L + 1 + 1) (nI v) nn f st (zz_u (zh_r I 6 (zh_ms (I 6) (zh_mn (nI v) nn f st) n)) 28 4 0) J = some (zz_sum (zh_mn (nI v) nn f st) n, zh_r (zz_u (zz_u (zh_r I 6 (zh_ms (I 6) (zh_mn (nI v) nn f st) n)) 28 4 0) 52 7 0) 54 (zh_ms (I 54) (zh_mn (nI v) nn f st) n), J) := by
            rw [zo_X12_sheet]
            unfold zb_X12_sheet_0
            exact zu_gn p3 (zu_gd c (zu_gn lt (zu_gd d b)))
          exact ⟨_, _, _, a, b2, zi_minutes h _ (fun s => zh_mn_in _ _ _ _ s)⟩
        · have a : zf_X11_sheet (L + 1 + 1) (nI v) nn f st I J = some (-2, I, J) := by
            rw [zo_X11_sheet]
            unfold zb_X11_sheet_0
            exact zu_gn p1 (zu_gn p2 (zu_gd c (zu_gd k3 (zu_gn d rfl))))
          have b : zf_X12_sheet (L + 1 + 1) (nI v) nn f st I J = some (-2, zz_u I 52 7 0, J) := by
            rw [zo_X12_sheet]
            unfold zb_X12_sheet_0
            exact zu_gn p3 (zu_gd c (zu_gn lt (zu_gn d rfl)))
          exact ⟨_, _, _, a, b, zi_q0 h⟩
    · refine no ?_ ?_
      · rw [zo_X11_sheet]
        unfold zb_X11_sheet_0
        exact zu_gn p1 (zu_gn p2 (zu_gn c rfl))
      · rw [zo_X12_sheet]
        unfold zb_X12_sheet_0
        refine zu_gn p3 (zu_gn c ?_)
        rw [zo_X12_sheet_20]
        rfl
theorem zj_cut {N n : Nat} (hN : 100000 ≤ N) {I : Nat → Nat → Int32} {J : Nat → Nat → Int64} {F : zz_F} (h : zi n I J F) (x : Int32) : ∃ v I1 I2, zf_X11_cut N x I J = some (v, I1, J) ∧ zf_X12_cut N x I1 J = some (v, I2, J) ∧ zi n I2 J F := by
  have hn := h.1.1
  obtain ⟨m, t, hm, ht, h5, h20, h4, hk⟩ := h.2.2.2.2.2.1
  obtain ⟨M, rfl⟩ := zu_one N hN
  rcases zu_scn h.1 x with ⟨q1, q2⟩ | ⟨s, hs, rfl, q1, q2⟩
  · have a : zf_X11_cut (M + 1) x I J = some (-1, I, J) := by
      rw [zo_X11_cut]
      unfold zb_X11_cut_0 zv_X11_refusalToDrop
      rw [q1]
      rfl
    have b : zf_X12_cut (M + 1) x I J = some (-1, zz_u I 52 7 0, J) := by
      rw [zo_X12_cut]
      exact zu_gn (fun w => w (q2 _ rfl)) rfl
    exact ⟨_, _, _, a, b, zi_q0 h⟩
  · have hb : bt (I 8 2) s = decide (I 53 s = 0) := by
      rw [h.2.1.2.2.1]
      exact zu_set_at (by omega) hs
    have sc : ¬ zv_X12_isScene (zz_u I 52 7 0) (nI s) = 0 := by rw [q2 (zz_u I 52 7 0) rfl]; decide
    by_cases c : I 53 s = 0
    · have rf : zv_X11_refusalToDrop I (nI s) = 0 := by
        unfold zv_X11_refusalToDrop
        rw [q1, if_pos (by decide), if_pos (by rw [zu_bz (by omega), hb]; simp [c])]
      obtain ⟨C, ec, c1, c4, c5, c8⟩ := zs_push hN (I := I) (J := J) ht hm h4 h5
      have C8 : C 8 = I 8 := c1 8 (by omega) (by omega)
      have C52 : C 52 = I 52 := c1 52 (by omega) (by omega)
      have C53 : C 53 = I 53 := c1 53 (by omega) (by omega)
      have C54 : C 54 = I 54 := c1 54 (by omega) (by omega)
      have D8 : zz_dropm C (nI s) 8 2 = zh_W n (zh_up (I 53) s 2) 0 := by
        show C 8 2 &&& (((1 : Int32) <<< (nI s &&& 31)) ^^^ (-1)) = _
        rw [C8, h.2.1.2.2.1]
        exact (zu_upD hn hs (by decide)).symm
      have D84 : zz_dropm C (nI s) 8 4 = zh_W n (zh_up (I 53) s 2) 2 := by
        show C 8 4 ||| ((1 : Int32) <<< (nI s &&& 31)) = _
        rw [C8, h.2.1.2.2.2.2.1]
        exact (zu_upS hn hs).symm
      have sD : zi_sc n (zz_dropm C (nI s)) := zc_sc h.1 (congrFun (c1 5 (by omega) (by omega)) 2) (c1 6 (by omega) (by omega)) (c1 7 (by omega) (by omega)) (congrFun C52 1) C54
      have a : zf_X11_cut (M + 1) (nI s) I J = some (zv_J6_bitCount (zh_P n (I 54) (zh_W n (zh_up (I 53) s 2) 0) (I 54 (7 * s))), zz_dropm C (nI s), J) := by
        rw [zo_X11_cut]
        unfold zb_X11_cut_0
        refine zu_gd rf (zu_bd ec ?_)
        simp only [zs_beside sD hs, D8]
        rw [show zz_dropm C (nI s) 54 = I 54 from C54]
      obtain ⟨R, er, r1, r61, r20, r52⟩ := zm_rem hN (I := zz_u (zz_dropm C (nI s)) 52 7 0) (J := J) hm (show C 52 20 = nI m by rw [C52]; exact h20)
      have R53 : R 53 = I 53 := by rw [r1 53 (by omega) (by omega)]; exact C53
      have R54 : R 54 = I 54 := by rw [r1 54 (by omega) (by omega)]; exact C54
      have R521 : R 52 1 = nI n := by rw [r52 1 (by omega)]; show C 52 1 = _; rw [C52]; exact h.1.2.1
      have b : zf_X12_cut (M + 1) (nI s) (zz_dropm C (nI s)) J = some (zv_J6_bitCount (zh_P n (I 54) (zh_W n (zh_up (I 53) s 2) 0) (I 54 (7 * s))), zz_u R 53 s 2, J) := by
        rw [zo_X12_cut]
        unfold zb_X12_cut_0
        refine zu_gd (by rw [q2 (zz_u (zz_dropm C (nI s)) 52 7 0) (congrFun C52 1)]; decide) (zu_gd (nI_in (show s < 18 by omega) (by omega)) ?_)
        rw [nI_clamp (by omega)]
        refine zu_gd (show C 53 s = 0 by rw [C53]; exact c) (zu_bd er ?_)
        rw [zu_70, if_pos (nI_in (show 7 * s + 0 < 84 by omega) (by omega))]
        refine zu_bd (zm_left hN hn (by exact R521) _) ?_
        simp only [zu_play (I := zz_u R 53 s 2) (s := s) (by omega)]
        rw [show zz_u R 53 s 2 54 = I 54 by rw [zu_ux (by omega), R54], zu_r53, R53]
      refine ⟨_, _, _, a, b, zi_step h ht hm hk c1 c4 c5 c8 (X := zz_u (zz_dropm C (nI s)) 52 7 0) (fun a ha1 ha2 ha3 => by rw [zu_ux ha3]; unfold zz_dropm; rw [zu_ux ha1, zu_ux ha1]) (fun i _ => rfl) (fun i hi => by rw [zz_un (fun w => hi w.2)]; rfl) r1 r61 r20 r52 (fun a ha1 ha2 _ => zu_ux ha1) (fun i _ => by rw [zu_ux (by omega)]) ?_ ?_ h.2.2.2.2.2.2.2.2⟩
      · rw [zu_r53, R53, zu_ux (by omega)]
        obtain ⟨a0, a1, a2, a3, a4, a5, a6, a7, a8, a9, a10⟩ := h.2.1
        have nd : ∀ i, 12 ≤ i → zh_up (I 53) s 2 i = I 53 i := fun i hi => if_neg (by omega)
        refine ⟨?_, ?_, D8, ?_, D84, ?_, ?_, ?_, ?_, fun i hi => ?_, ?_⟩
        · rw [nd 12 (by omega), ← a0, ← C8]; rfl
        · rw [nd 13 (by omega), ← a1, ← C8]; rfl
        · rw [zu_upN (by decide) (by rw [c]; decide), ← a3, ← C8]; rfl
        · rw [nd 14 (by omega), ← a5, ← C8]; rfl
        · rw [nd 15 (by omega), ← a6, ← C8]; rfl
        · rw [nd 16 (by omega), ← a7, ← C8]; rfl
        · rw [nd 17 (by omega), ← a8, ← C8]; rfl
        · unfold zh_up
          split
          · exact .inr (.inr rfl)
          · exact a9 i hi
        · rw [nd 13 (by omega)]; exact a10
      · refine zc_tol h.2.2.2.1 ?_ ?_ rfl rfl
        · rw [zu_ux (by omega), r1 2 (by omega) (by omega)]
          exact congrFun (c1 2 (by omega) (by omega)) 3
        · rw [zu_ux (by omega), r52 6 (by omega)]
          exact congrFun C52 6
    · have rf : zv_X11_refusalToDrop I (nI s) = -2 := by
        unfold zv_X11_refusalToDrop
        rw [q1, if_pos (by decide), if_neg (by rw [zu_bz (by omega), hb]; simp [c])]
      have a : zf_X11_cut (M + 1) (nI s) I J = some (-2, I, J) := by
        rw [zo_X11_cut]
        unfold zb_X11_cut_0
        rw [rf]
        rfl
      have b : zf_X12_cut (M + 1) (nI s) I J = some (-2, zz_u I 52 7 0, J) := by
        rw [zo_X12_cut]
        unfold zb_X12_cut_0
        refine zu_gd sc (zu_gd (nI_in (show s < 18 by omega) (by omega)) ?_)
        rw [nI_clamp (by omega), if_neg c]
      exact ⟨_, _, _, a, b, zi_q0 h⟩
theorem zj_puts {N n : Nat} (hN : 100000 ≤ N) {I : Nat → Nat → Int32} {J : Nat → Nat → Int64} {F : zz_F} (h : zi n I J F) (x : Int32) : ∃ v I1 I2, zf_X11_puts N x I J = some (v, I1, J) ∧ zf_X12_puts N x I1 J = some (v, I2, J) ∧ zi n I2 J F := by
  have hn := h.1.1
  obtain ⟨m, t, hm, ht, h5, h20, h4, hk⟩ := h.2.2.2.2.2.1
  obtain ⟨M, rfl⟩ := zu_one N hN
  rcases zu_scn h.1 x with ⟨q1, q2⟩ | ⟨s, hs, rfl, q1, q2⟩
  · have a : zf_X11_puts (M + 1) x I J = some (-1, I, J) := by
      rw [zo_X11_puts]
      exact zu_gn (fun w => w q1) rfl
    have b : zf_X12_puts (M + 1) x I J = some (-1, zz_u I 52 7 0, J) := by
      rw [zo_X12_puts]
      exact zu_gn (fun w => w (q2 _ rfl)) rfl
    exact ⟨_, _, _, a, b, zi_q0 h⟩
  · have hb : bt (I 8 4) s = decide (I 53 s = 2) := by
      rw [h.2.1.2.2.2.2.1]
      exact zu_set_at (by omega) hs
    have ha : ¬ zv_X9_has I (nI s) = 0 := by rw [q1]; decide
    have sc : ∀ X : Nat → Nat → Int32, X 52 1 = I 52 1 → ¬ zv_X12_isScene X (nI s) = 0 := fun X hX => by rw [q2 X hX]; decide
    by_cases c : I 53 s = 2
    · have c1' : ¬ (I 8 4 &&& ((1 : Int32) <<< (nI s &&& 31)) = 0) := by rw [zu_bz (by omega), hb]; simp [c]
      by_cases l : zh_later n (I 53) (I 54) s
      · have a : zf_X11_puts (M + 1) (nI s) I J = some (-3, I, J) := by
          rw [zo_X11_puts]
          exact zu_gd ha (zu_gd c1' (zu_gn (fun w => (zs_later h hs c).mp w l) rfl))
        have b : zf_X12_puts (M + 1) (nI s) I J = some (-3, zz_u I 52 7 0, J) := by
          rw [zo_X12_puts]
          unfold zb_X12_puts_0
          refine zu_gd (sc _ rfl) (zu_gd (nI_in (show s < 18 by omega) (by omega)) ?_)
          rw [nI_clamp (by omega), if_pos c, nI_1]
          exact zm_puts_l (N := M + 1) (I := zz_u I 52 7 0) (J := J) hN hn h.1.2.1 hs (fun r => r = some (-3, zz_u I 52 7 0, J)) (n - (s + 1)) (s + 1) M (by omega) (by omega) (by omega) (fun o p1 p2 => by omega) (fun _ => rfl) (fun w => absurd l w)
        exact ⟨_, _, _, a, b, zi_q0 h⟩
      · obtain ⟨C, ec, c1, c4, c5, c8⟩ := zs_push hN (I := I) (J := J) ht hm h4 h5
        have C8 : C 8 = I 8 := c1 8 (by omega) (by omega)
        have C52 : C 52 = I 52 := c1 52 (by omega) (by omega)
        have C53 : C 53 = I 53 := c1 53 (by omega) (by omega)
        have C54 : C 54 = I 54 := c1 54 (by omega) (by omega)
        have D8 : zz_backm C (nI s) 8 2 = zh_W n (zh_up (I 53) s 0) 0 := by
          show C 8 2 ||| ((1 : Int32) <<< (nI s &&& 31)) = _
          rw [C8, h.2.1.2.2.1]
          exact (zu_upS hn hs).symm
        have D84 : zz_backm C (nI s) 8 4 = zh_W n (zh_up (I 53) s 0) 2 := by
          show C 8 4 &&& (((1 : Int32) <<< (nI s &&& 31)) ^^^ (-1)) = _
          rw [C8, h.2.1.2.2.2.2.1]
          exact (zu_upD hn hs (by decide)).symm
        have sD : zi_sc n (zz_backm C (nI s)) := zc_sc h.1 (congrFun (c1 5 (by omega) (by omega)) 2) (c1 6 (by omega) (by omega)) (c1 7 (by omega) (by omega)) (congrFun C52 1) C54
        have a : zf_X11_puts (M + 1) (nI s) I J = some (zv_J6_bitCount (zh_P n (I 54) (zh_W n (zh_up (I 53) s 0) 0) (I 54 (7 * s))), zz_backm C (nI s), J) := by
          rw [zo_X11_puts]
          unfold zb_X11_puts_0
          refine zu_gd ha (zu_gd c1' (zu_gd ((zs_later h hs c).mpr l) (zu_bd ec ?_)))
          simp only [zs_beside sD hs, D8]
          rw [show zz_backm C (nI s) 54 = I 54 from C54]
        obtain ⟨R, er, r1, r61, r20, r52⟩ := zm_rem hN (I := zz_u (zz_backm C (nI s)) 52 7 0) (J := J) hm (show C 52 20 = nI m by rw [C52]; exact h20)
        have R53 : R 53 = I 53 := by rw [r1 53 (by omega) (by omega)]; exact C53
        have R54 : R 54 = I 54 := by rw [r1 54 (by omega) (by omega)]; exact C54
        have R521 : R 52 1 = nI n := by rw [r52 1 (by omega)]; show C 52 1 = _; rw [C52]; exact h.1.2.1
        have X521 : (zz_u (zz_backm C (nI s)) 52 7 0) 52 1 = nI n := by show C 52 1 = _; rw [C52]; exact h.1.2.1
        have X53 : (zz_u (zz_backm C (nI s)) 52 7 0) 53 = I 53 := C53
        have X54 : (zz_u (zz_backm C (nI s)) 52 7 0) 54 = I 54 := C54
        have b : zf_X12_puts (M + 1) (nI s) (zz_backm C (nI s)) J = some (zv_J6_bitCount (zh_P n (I 54) (zh_W n (zh_up (I 53) s 0) 0) (I 54 (7 * s))), zz_u R 53 s 0, J) := by
          rw [zo_X12_puts]
          unfold zb_X12_puts_0
          refine zu_gd (sc (zz_u (zz_backm C (nI s)) 52 7 0) (congrFun C52 1)) (zu_gd (nI_in (show s < 18 by omega) (by omega)) ?_)
          rw [nI_clamp (by omega)]
          refine zu_gd (show C 53 s = 2 by rw [C53]; exact c) ?_
          rw [nI_1]
          refine zm_puts_l (N := M + 1) (I := zz_u (zz_backm C (nI s)) 52 7 0) (J := J) hN hn X521 hs (fun r => r = some (zv_J6_bitCount (zh_P n (I 54) (zh_W n (zh_up (I 53) s 0) 0) (I 54 (7 * s))), zz_u R 53 s 0, J)) (n - (s + 1)) (s + 1) M (by omega) (by omega) (by omega) (fun o p1 p2 => by omega) (fun w => absurd (by rw [X53, X54] at w; exact w) l) (fun _ m' => ?_)
          rw [zo_X12_puts_32]
          unfold zb_X12_puts_32
          rw [X521, if_pos (nI_le (Nat.le_refl n) (by omega))]
          refine zu_bd er ?_
          rw [if_pos (nI_in (show s < 18 by omega) (by omega)), zu_70, if_pos (nI_in (show 7 * s + 0 < 84 by omega) (by omega)), nI_clamp (by omega)]
          refine zu_bd (zm_left hN hn (by exact R521) _) ?_
          simp only [zu_play (I := zz_u R 53 s 0) (s := s) (by omega)]
          rw [show zz_u R 53 s 0 54 = I 54 by rw [zu_ux (by omega), R54], zu_r53, R53]
        refine ⟨_, _, _, a, b, zi_step h ht hm hk c1 c4 c5 c8 (X := zz_u (zz_backm C (nI s)) 52 7 0) (fun a ha1 ha2 ha3 => by rw [zu_ux ha3]; unfold zz_backm; rw [zu_ux ha1, zu_ux ha1]) (fun i _ => rfl) (fun i hi => by rw [zz_un (fun w => hi w.2)]; rfl) r1 r61 r20 r52 (fun a ha1 ha2 _ => zu_ux ha1) (fun i _ => by rw [zu_ux (by omega)]) ?_ ?_ h.2.2.2.2.2.2.2.2⟩
        · rw [zu_r53, R53, zu_ux (by omega)]
          obtain ⟨a0, a1, a2, a3, a4, a5, a6, a7, a8, a9, a10⟩ := h.2.1
          have nd : ∀ i, 12 ≤ i → zh_up (I 53) s 0 i = I 53 i := fun i hi => if_neg (by omega)
          refine ⟨?_, ?_, D8, ?_, D84, ?_, ?_, ?_, ?_, fun i hi => ?_, ?_⟩
          · rw [nd 12 (by omega), ← a0, ← C8]; rfl
          · rw [nd 13 (by omega), ← a1, ← C8]; rfl
          · rw [zu_upN (by decide) (by rw [c]; decide), ← a3, ← C8]; rfl
          · rw [nd 14 (by omega), ← a5, ← C8]; rfl
          · rw [nd 15 (by omega), ← a6, ← C8]; rfl
          · rw [nd 16 (by omega), ← a7, ← C8]; rfl
          · rw [nd 17 (by omega), ← a8, ← C8]; rfl
          · unfold zh_up
            split
            · exact .inl rfl
            · exact a9 i hi
          · rw [nd 13 (by omega)]; exact a10
        · refine zc_tol h.2.2.2.1 ?_ ?_ rfl rfl
          · rw [zu_ux (by omega), r1 2 (by omega) (by omega)]
            exact congrFun (c1 2 (by omega) (by omega)) 3
          · rw [zu_ux (by omega), r52 6 (by omega)]
            exact congrFun C52 6
    · have c1' : (I 8 4 &&& ((1 : Int32) <<< (nI s &&& 31)) = 0) := by rw [zu_bz (by omega), hb]; simp [c]
      have a : zf_X11_puts (M + 1) (nI s) I J = some (-2, I, J) := by
        rw [zo_X11_puts]
        exact zu_gd ha (zu_gn (fun w => w c1') rfl)
      have b : zf_X12_puts (M + 1) (nI s) I J = some (-2, zz_u I 52 7 0, J) := by
        rw [zo_X12_puts]
        unfold zb_X12_puts_0
        refine zu_gd (sc _ rfl) (zu_gd (nI_in (show s < 18 by omega) (by omega)) ?_)
        rw [nI_clamp (by omega), if_neg c]
      exact ⟨_, _, _, a, b, zi_q0 h⟩
theorem zj_pause {N n : Nat} (hN : 100000 ≤ N) {I : Nat → Nat → Int32} {J : Nat → Nat → Int64} {F : zz_F} (h : zi n I J F) (x : Int32) : ∃ v I1 I2, zf_X11_pause N x I J = some (v, I1, J) ∧ zf_X12_pause N x I1 J = some (v, I2, J) ∧ zi n I2 J F := by
  have hn := h.1.1
  have w0 : I 8 0 = I 53 12 := h.2.1.1
  obtain ⟨m, t, hm, ht, h5, h20, h4, hk⟩ := h.2.2.2.2.2.1
  obtain ⟨M, rfl⟩ := zu_one N hN
  rcases zu_bet x 99 (by omega) with q | ⟨v, hv, rfl⟩
  · have a : zf_X11_pause (M + 1) x I J = some (-1, I, J) := by
      rw [zo_X11_pause]
      unfold zb_X11_pause_0
      rcases q with q | q
      · exact zu_gd q rfl
      · by_cases z : x < 0
        · exact zu_gd z rfl
        · exact zu_gn z (zu_gn (show ¬ x ≤ nI 99 from Int32.not_le.mpr q) rfl)
    have b : zf_X12_pause (M + 1) x I J = some (-1, zz_u I 52 7 0, J) := by
      rw [zo_X12_pause]
      exact zu_gn (fun w => w (zu_inN 99 q)) rfl
    exact ⟨_, _, _, a, b, zi_q0 h⟩
  · have p2 : ¬ zv_X12_in (nI v) 0 99 = 0 := by rw [show (99 : Int32) = nI 99 from rfl, zu_inY (by omega) hv]; decide
    have p1 : nI v ≤ 99 := nI_le (b := 99) hv (by omega)
    by_cases z : v = 0
    · subst z
      have a : zf_X11_pause (M + 1) (nI 0) I J = some (I 8 0, I, J) := by
        rw [zo_X11_pause]
        exact zu_gn (by decide) (zu_gd (by decide) (zu_gd (by decide) rfl))
      have b : zf_X12_pause (M + 1) (nI 0) I J = some (I 8 0, zz_u (zz_u I 52 7 0) 53 12 (I 53 12), J) := by
        rw [zo_X12_pause]
        unfold zb_X12_pause_0
        refine zu_gd p2 (zu_gd (by decide) ?_)
        rw [show I 53 12 + nI 0 = I 53 12 from Int32.add_zero _, w0]
      refine ⟨_, _, _, a, b, zi_told h (fun a i k => ?_) h.2.2.2.1 h.2.2.2.2.2.2.2.2⟩
      unfold zz_u
      split
      · next e => rw [e.1, e.2]
      · split
        · next e => rw [e.1, e.2] at k; cases k
        · rfl
    · have vp : ¬ nI v ≤ 0 := nI_nle (by omega) (by omega)
      obtain ⟨C, ec, c1, c4, c5, c8⟩ := zs_push hN (I := I) (J := J) ht hm h4 h5
      have C8 : C 8 = I 8 := c1 8 (by omega) (by omega)
      have C52 : C 52 = I 52 := c1 52 (by omega) (by omega)
      have C53 : C 53 = I 53 := c1 53 (by omega) (by omega)
      have a : zf_X11_pause (M + 1) (nI v) I J = some (I 53 12 + nI v, zz_u C 8 0 (I 53 12 + nI v), J) := by
        rw [zo_X11_pause]
        unfold zb_X11_pause_0
        refine zu_gn (nI_pos (by omega)) (zu_gd p1 (zu_gn vp (zu_bd ec ?_)))
        have e : C 8 0 = I 53 12 := by rw [C8, w0]
        simp only [e]
      obtain ⟨R, er, r1, r61, r20, r52⟩ := zm_rem hN (I := zz_u (zz_u C 8 0 (I 53 12 + nI v)) 52 7 0) (J := J) hm (show C 52 20 = nI m by rw [C52]; exact h20)
      have R53 : R 53 = I 53 := by rw [r1 53 (by omega) (by omega), zu_ux (by omega), zu_ux (by omega), C53]
      have b : zf_X12_pause (M + 1) (nI v) (zz_u C 8 0 (I 53 12 + nI v)) J = some (I 53 12 + nI v, zz_u R 53 12 (I 53 12 + nI v), J) := by
        rw [zo_X12_pause]
        unfold zb_X12_pause_0
        refine zu_gd p2 (zu_gn vp (zu_bd er ?_))
        simp only [R53]
      refine ⟨_, _, _, a, b, zi_step h ht hm hk c1 c4 c5 c8 (X := zz_u (zz_u C 8 0 (I 53 12 + nI v)) 52 7 0) (fun a ha1 ha2 ha3 => by rw [zu_ux ha3, zu_ux ha1]) (fun i _ => by rw [zu_ux (by omega), zu_ux (by omega)]) (fun i hi => by rw [zz_un (fun w => hi w.2), zu_ux (by omega)]) r1 r61 r20 r52 (fun a ha1 ha2 _ => zu_ux ha1) (fun i _ => by rw [zu_ux (by omega)]) ?_ ?_ h.2.2.2.2.2.2.2.2⟩
      · rw [zu_r53, R53, zu_ux (by omega), zu_r53, C8]
        obtain ⟨a0, a1, a2, a3, a4, a5, a6, a7, a8, a9, a10⟩ := h.2.1
        have st : ∀ w : Int32, zu_set (fun s => decide (zh_up (I 53) 12 (I 53 12 + nI v) s = w)) n = zu_set (fun s => decide (I 53 s = w)) n := fun w => zu_set_cong fun i hi => by rw [show zh_up (I 53) 12 (I 53 12 + nI v) i = I 53 i from if_neg (by omega)]
        refine ⟨rfl, a1, by rw [st]; exact a2, by rw [st]; exact a3, by rw [st]; exact a4, a5, a6, a7, a8, fun s hs => ?_, a10⟩
        rw [show zh_up (I 53) 12 (I 53 12 + nI v) s = I 53 s from if_neg (by omega)]
        exact a9 s hs
      · refine zc_tol h.2.2.2.1 ?_ ?_ rfl rfl
        · rw [zu_ux (by omega), r1 2 (by omega) (by omega), zu_ux (by omega), zu_ux (by omega), c1 2 (by omega) (by omega)]
        · rw [zu_ux (by omega), r52 6 (by omega), zz_un (by omega), zu_ux (by omega), C52]
theorem zj_undo {N n : Nat} (hN : 100000 ≤ N) {I : Nat → Nat → Int32} {J : Nat → Nat → Int64} {F : zz_F} (h : zi n I J F) : ∃ v I1 I2, zf_X11_undo N I J = some (v, I1, J) ∧ zf_X12_undo N I1 J = some (v, I2, J) ∧ zi n I2 J F := by
  have hn := h.1.1
  obtain ⟨m, t, hm, ht, h5, h20, h4, hk⟩ := h.2.2.2.2.2.1
  obtain ⟨M, rfl⟩ := zu_one N hN
  by_cases z : m = 0
  · subst z
    have a : zf_X11_undo (M + 1) I J = some (-1, I, J) := by
      rw [zo_X11_undo]
      have e : zf_X6_popInto__8 (M + 1) I J = some (-1, I, J) := by
        rw [zo_X6_popInto__8]
        exact zu_gn (fun w => w h5) rfl
      exact zu_bd e rfl
    have b : zf_X12_undo (M + 1) I J = some (-1, zz_u I 52 7 0, J) := by
      rw [zo_X12_undo]
      exact zu_gn (fun w => w h20) rfl
    exact ⟨_, _, _, a, b, zi_q0 h⟩
  · obtain ⟨C, ec, c1, c4, c5, c8⟩ := zs_pop hN (I := I) (J := J) ht (by omega) hm h4 h5
    have a : zf_X11_undo (M + 1) I J = some (nI (m - 1), C, J) := by
      rw [zo_X11_undo]
      exact zu_bd ec rfl
    have C52 : C 52 = I 52 := c1 52 (by omega) (by omega)
    have C61 : C 61 = I 61 := c1 61 (by omega) (by omega)
    have b : zf_X12_undo (M + 1) C J = some (nI (m - 1), zh_r (zz_u (zz_u C 52 7 0) 52 20 (nI (m - 1))) 53 (zh_pt (C 53) (fun i => I 61 (18 * (m - 1) + i)) 0 18), J) := by
      rw [zo_X12_undo]
      unfold zb_X12_undo_0
      rw [C52, h20, if_pos (nI_ne0 (by omega) (by omega)), show nI m - 1 = nI (m - 1) by rw [show m = m - 1 + 1 by omega, nI_pred]; rfl]
      have := zm_undo_l (N := M + 1) (I := zz_u (zz_u C 52 7 0) 52 20 (nI (m - 1))) (J := J) (m - 1) (by omega) rfl 18 0 M (by omega) (by omega)
      rw [zh_pt_0, zh_rs, show (zz_u (zz_u C 52 7 0) 52 20 (nI (m - 1))) 61 = I 61 from C61] at this
      exact this
    have ix : (t + 12 - m + (m - 1)) % 12 = (t + 11) % 12 := by omega
    have last := hk (m - 1) (by omega)
    rw [ix] at last
    refine ⟨_, _, _, a, b, zi_back h (fun a h8 h9 h52 h53 => by rw [zu_rx h53, zu_ux h52, zu_ux h52, c1 a h9 h8]) (fun i h7 h20 => by rw [zu_rx (by omega), zz_un (fun w => h20 w.2), zz_un (fun w => h7 w.2), C52]) ?_ ?_⟩
    · refine zi_row_c hn (fun i hi => ?_) (fun i hi => ?_) last
      · rw [zh_rr]
        have := zh_pt_in (g := C 53) (f := fun i => I 61 (18 * (m - 1) + i)) (b := 0) hi
        rw [Nat.zero_add] at this
        exact this
      · rw [zu_rx (by omega), zu_ux (by omega), zu_ux (by omega)]
        exact c8 i hi
    · refine ⟨m - 1, (t + 11) % 12, by omega, Nat.mod_lt _ (by omega), ?_, rfl, ?_, fun k hq => ?_⟩
      · rw [zu_rx (by omega), zu_ux (by omega), zu_ux (by omega)]; exact c5
      · rw [zu_rx (by omega), zu_ux (by omega), zu_ux (by omega)]; exact c4
      · have ix2 : ((t + 11) % 12 + 12 - (m - 1) + k) % 12 = (t + 12 - m + k) % 12 := by omega
        have lt := Nat.mod_lt (t + 12 - m + k) (show 0 < 12 by omega)
        rw [ix2, zu_rx (show 61 ≠ 53 by omega), zu_ux (show 61 ≠ 52 by omega), zu_ux (show 61 ≠ 52 by omega), C61, zu_rx (by omega), zu_ux (by omega), zu_ux (by omega), c1 _ (by omega) (by omega)]
        exact hk k (by omega)
theorem zj_keep {N n : Nat} (hN : 100000 ≤ N) {I : Nat → Nat → Int32} {J : Nat → Nat → Int64} {F : zz_F} (h : zi n I J F) (x : Int32) : ∃ v I1 I2, zf_X11_keep N x I J = some (v, I1, J) ∧ zf_X12_keep N x I1 J = some (v, I2, J) ∧ zi n I2 J F := by
  have hn := h.1.1
  obtain ⟨c, hc, c45, hs⟩ := h.2.2.2.2.2.2.1
  obtain ⟨M, rfl⟩ := zu_one N hN
  rcases zu_bet x 1 (by omega) with q | ⟨v, hv, rfl⟩
  · have a : zf_X11_keep (M + 1) x I J = some (0, I, J) := by
      rw [zo_X11_keep]
      unfold zb_X11_keep_0
      by_cases z : x < 0
      · rw [if_pos z]
      · rcases q with q | q
        · exact absurd q z
        · obtain ⟨j, hj, rfl⟩ := nI_of z
          rw [nI_ltI (by omega) hj] at q
          rw [if_neg z, if_neg (show ¬ nI j < 2 from nI_nlt (b := 2) (by omega) hj)]
    have b : zf_X12_keep (M + 1) x I J = some (0, zz_u I 52 7 0, J) := by
      rw [zo_X12_keep]
      exact zu_gn (fun w => w (zu_inN 1 q)) rfl
    exact ⟨_, _, _, a, b, zi_q0 h⟩
  · obtain ⟨r1, r2⟩ := zu_shelf v (by omega)
    have p2 : ¬ zv_X12_in (nI v) 0 1 = 0 := by rw [show (1 : Int32) = nI 1 from rfl, zu_inY (by omega) hv]; decide
    have vb : vp_nar .boolean 1 = 1 := by decide
    have a : zf_X11_keep (M + 1) (nI v) I J = some (1, zz_u (zz_cpn I (26 + v) 8) 12 v 1, J) := by
      rw [zo_X11_keep]
      unfold zb_X11_keep_0
      have es : zf_X6_shelve__8 (M + 1) (nI v) I J = some (0, zz_u (zz_cpn I (26 + v) 8) 12 v 1, J) := by
        rw [zo_X6_shelve__8]
        unfold zb_X6_shelve__8_0
        rw [if_neg (nI_pos (by omega)), if_neg (show ¬ (2 : Int32) ≤ nI v from nI_ge (b := 2) (by omega) (by omega)), nI_clamp (by omega), r1, if_pos r2, if_pos (by omega), vb]
      exact zu_gn (nI_pos (by omega)) (zu_gd (show nI v < 2 from nI_lt (b := 2) (by omega) (by omega)) (zu_bd es rfl))
    have C : ∀ a, a ≠ 12 → a ≠ 26 + v → zz_u (zz_cpn I (26 + v) 8) 12 v 1 a = I a := fun a h12 h26 => by rw [zu_ux h12, zu_cpn h26]
    have b : zf_X12_keep (M + 1) (nI v) (zz_u (zz_cpn I (26 + v) 8) 12 v 1) J = some (1, zh_r (zz_u (zz_u (zz_u (zz_u (zz_cpn I (26 + v) 8) 12 v 1) 52 7 0) 81 v 1) 82 v (I 52 45)) 80 (zh_pt (I 80) (I 53) (18 * v) 18), J) := by
      rw [zo_X12_keep]
      unfold zb_X12_keep_0
      refine zu_gd p2 (zu_gd (nI_in (show v < 2 by omega) (by omega)) ?_)
      rw [nI_clamp (by omega), vb, C 52 (by omega) (by omega), show (18 : Int32) * nI v = nI (18 * v) from pk_mul 18 v]
      refine zu_bd (zm_lay53_80 hN (18 * v) (by omega)) ?_
      simp (disch := omega) only [zu_ux, zu_cpn]
    have Y : ∀ a, a ≠ 12 → a ≠ 26 + v → a ≠ 52 → a ≠ 81 → a ≠ 82 → a ≠ 80 → zh_r (zz_u (zz_u (zz_u (zz_u (zz_cpn I (26 + v) 8) 12 v 1) 52 7 0) 81 v 1) 82 v (I 52 45)) 80 (zh_pt (I 80) (I 53) (18 * v) 18) a = I a := fun a h1 h2 h3 h4 h5 h6 => by rw [zu_rx h6, zu_ux h5, zu_ux h4, zu_ux h3, C a h1 h2]
    have Y52 : ∀ i, i ≠ 7 → zh_r (zz_u (zz_u (zz_u (zz_u (zz_cpn I (26 + v) 8) 12 v 1) 52 7 0) 81 v 1) 82 v (I 52 45)) 80 (zh_pt (I 80) (I 53) (18 * v) 18) 52 i = I 52 i := fun i hi => by rw [zu_rx (by omega), zu_ux (by omega), zu_ux (by omega), zz_un (fun w => hi w.2), C 52 (by omega) (by omega)]
    have e54 := Y 54 (by omega) (by omega) (by omega) (by omega) (by omega) (by omega)
    refine ⟨_, _, _, a, b, zc_sc h.1 (congrFun (Y 5 (by omega) (by omega) (by omega) (by omega) (by omega) (by omega)) 2) (Y 6 (by omega) (by omega) (by omega) (by omega) (by omega) (by omega)) (Y 7 (by omega) (by omega) (by omega) (by omega) (by omega) (by omega)) (Y52 1 (by omega)) e54, ?_, zc_txt h.2.2.1 (congrFun (Y 2 (by omega) (by omega) (by omega) (by omega) (by omega) (by omega)) 1) (Y52 4 (by omega)) (Y 3 (by omega) (by omega) (by omega) (by omega) (by omega) (by omega)) (Y 55 (by omega) (by omega) (by omega) (by omega) (by omega) (by omega)), zc_tol h.2.2.2.1 (congrFun (Y 2 (by omega) (by omega) (by omega) (by omega) (by omega) (by omega)) 3) (Y52 6 (by omega)) rfl rfl, zc_bow h.2.2.2.2.1 (congrFun (Y 2 (by omega) (by omega) (by omega) (by omega) (by omega) (by omega)) 15) (congrFun (Y 2 (by omega) (by omega) (by omega) (by omega) (by omega) (by omega)) 16) (Y52 43 (by omega)) (Y52 44 (by omega)), zc_rng h.2.2.2.2.2.1 (congrFun (Y 9 (by omega) (by omega) (by omega) (by omega) (by omega) (by omega)) 4) (congrFun (Y 9 (by omega) (by omega) (by omega) (by omega) (by omega) (by omega)) 5) (Y52 20 (by omega)) (Y 61 (by omega) (by omega) (by omega) (by omega) (by omega) (by omega)) (fun k hk => Y _ (by omega) (by omega) (by omega) (by omega) (by omega) (by omega)), ?_, zc_rul h.2.2.2.2.2.2.2.1 (Y52 16 (by omega)) (congrFun (Y 28 (by omega) (by omega) (by omega) (by omega) (by omega) (by omega)) 3) (congrFun (Y 28 (by omega) (by omega) (by omega) (by omega) (by omega) (by omega)) 4) (Y 29 (by omega) (by omega) (by omega) (by omega) (by omega) (by omega)) (Y 31 (by omega) (by omega) (by omega) (by omega) (by omega) (by omega)) (Y 58 (by omega) (by omega) (by omega) (by omega) (by omega) (by omega)) e54, h.2.2.2.2.2.2.2.2⟩
    · rw [Y 53 (by omega) (by omega) (by omega) (by omega) (by omega) (by omega), Y 8 (by omega) (by omega) (by omega) (by omega) (by omega) (by omega)]
      exact h.2.1
    · refine ⟨c, hc, by rw [Y52 45 (by omega)]; exact c45, fun i hi => ?_⟩
      rw [Y52 45 (by omega), zu_rx (show 12 ≠ 80 by omega), zu_ux (show 12 ≠ 82 by omega), zu_ux (show 12 ≠ 81 by omega), zu_ux (show 12 ≠ 52 by omega), zu_rx (show 81 ≠ 80 by omega), zu_ux (show 81 ≠ 82 by omega), zu_rx (show 82 ≠ 80 by omega), zu_rx (show 26 + i ≠ 80 by omega), zu_ux (show 26 + i ≠ 82 by omega), zu_ux (show 26 + i ≠ 81 by omega), zu_ux (show 26 + i ≠ 52 by omega), zu_ux (show 26 + i ≠ 12 by omega)]
      by_cases e : i = v
      · subst e
        rw [zz_us, zz_us, zz_us]
        refine ⟨.inr rfl, .inr rfl, ⟨c, Nat.le_refl c, c45⟩, ⟨fun _ => ⟨rfl, rfl⟩, fun _ => rfl⟩, fun _ => ?_⟩
        exact zi_row_c hn (fun j hj => by rw [zh_rr]; exact zh_pt_in hj) (fun j hj => zu_cpi hj) h.2.1
      · have f12 : zz_u (zz_cpn I (26 + v) 8) 12 v 1 12 i = I 12 i := by rw [zz_un (fun w => e w.2), zu_cpn (by omega)]
        have f81 : zz_u (zz_u (zz_u (zz_cpn I (26 + v) 8) 12 v 1) 52 7 0) 81 v 1 81 i = I 81 i := by rw [zz_un (fun w => e w.2), zu_ux (by omega), C 81 (by omega) (by omega)]
        have f82 : zz_u (zz_u (zz_u (zz_u (zz_cpn I (26 + v) 8) 12 v 1) 52 7 0) 81 v 1) 82 v (I 52 45) 82 i = I 82 i := by rw [zz_un (fun w => e w.2), zu_ux (by omega), zu_ux (by omega), C 82 (by omega) (by omega)]
        rw [f12, f81, f82, zu_cpn (show 26 + i ≠ 26 + v by omega)]
        obtain ⟨s1, s2, s3, s4, s5⟩ := hs i hi
        refine ⟨s1, s2, s3, s4, fun z => zi_row_c hn (fun j hj => ?_) (fun _ _ => rfl) (s5 z)⟩
        rw [zh_rr, zh_pt_out (by omega)]
theorem zj_again {N n : Nat} (hN : 100000 ≤ N) {I : Nat → Nat → Int32} {J : Nat → Nat → Int64} {F : zz_F} (h : zi n I J F) (x : Int32) : ∃ v I1 I2, zf_X11_again N x I J = some (v, I1, J) ∧ zf_X12_again N x I1 J = some (v, I2, J) ∧ zi n I2 J F := by
  have hn := h.1.1
  obtain ⟨m, t, hm, ht, h5, h20, h4, hk⟩ := h.2.2.2.2.2.1
  obtain ⟨c, hc, c45, hs⟩ := h.2.2.2.2.2.2.1
  obtain ⟨M, rfl⟩ := zu_one N hN
  rcases zu_bet x 1 (by omega) with q | ⟨v, hv, rfl⟩
  · have no : zv_X6_isShelved I x = 0 := by
      unfold zv_X6_isShelved
      by_cases z : x < 0
      · rw [if_pos z]
      · rcases q with q | q
        · exact absurd q z
        · obtain ⟨j, hj, rfl⟩ := nI_of z
          rw [nI_ltI (by omega) hj] at q
          rw [if_neg z, if_pos (show (2 : Int32) ≤ nI j from nI_le (a := 2) (by omega) hj)]
    have a : zf_X11_again (M + 1) x I J = some (0, I, J) := by
      rw [zo_X11_again]
      exact zu_gn (fun w => w no) rfl
    have b : zf_X12_again (M + 1) x I J = some (0, zz_u I 52 7 0, J) := by
      rw [zo_X12_again]
      exact zu_gd (zu_inN 1 q) rfl
    exact ⟨_, _, _, a, b, zi_q0 h⟩
  · obtain ⟨s1, s2, ⟨e, he, s3⟩, s4, s5⟩ := hs v (by omega)
    have p2 : ¬ zv_X12_in (nI v) 0 1 = 0 := by rw [show (1 : Int32) = nI 1 from rfl, zu_inY (by omega) hv]; decide
    have sh : zv_X6_isShelved I (nI v) = I 12 v := by
      unfold zv_X6_isShelved
      rw [if_neg (nI_pos (by omega)), if_neg (show ¬ (2 : Int32) ≤ nI v from nI_ge (b := 2) (by omega) (by omega)), nI_clamp (by omega)]
      rcases s1 with w | w <;> rw [w] <;> rfl
    by_cases z : I 12 v = 1
    · obtain ⟨y1, y2⟩ := s4.mp z
      obtain ⟨r1, r2⟩ := zu_shelf v (by omega)
      have a : zf_X11_again (M + 1) (nI v) I J = some (1, zz_u (zz_cpn I 8 (26 + v)) 9 5 0, J) := by
        rw [zo_X11_again]
        unfold zb_X11_again_0
        have eu : zf_X6_unshelve__8 (M + 1) (nI v) I J = some (0, zz_cpn I 8 (26 + v), J) := by
          rw [zo_X6_unshelve__8]
          unfold zb_X6_unshelve__8_0
          rw [sh, z, if_neg (by decide), if_pos (nI_in (show v < 2 by omega) (by omega)), nI_clamp (by omega), r1, if_pos r2, if_pos (by omega)]
        exact zu_gd (by rw [sh, z]; decide) (zu_bd eu rfl)
      have C : ∀ a, a ≠ 8 → a ≠ 9 → zz_u (zz_cpn I 8 (26 + v)) 9 5 0 a = I a := fun a h8 h9 => by rw [zu_ux h9, zu_cpn h8]
      have b : zf_X12_again (M + 1) (nI v) (zz_u (zz_cpn I 8 (26 + v)) 9 5 0) J = some (1, zz_u (zh_r (zz_u (zz_u (zz_cpn I 8 (26 + v)) 9 5 0) 52 7 0) 53 (zh_pt (I 53) (fun i => I 80 (18 * v + i)) 0 18)) 52 20 0, J) := by
        rw [zo_X12_again]
        unfold zb_X12_again_0
        rw [if_neg p2, if_pos (nI_in (show v < 2 by omega) (by omega)), nI_clamp (by omega), C 81 (by omega) (by omega), C 82 (by omega) (by omega), C 52 (by omega) (by omega), y1, if_neg (by decide), if_pos y2]
        have := zm_again_l (N := M + 1) (I := zz_u (zz_u (zz_cpn I 8 (26 + v)) 9 5 0) 52 7 0) (J := J) v (by omega) 18 0 M (by omega) (by omega)
        rw [zh_pt_0, zh_rs] at this
        exact this
      refine ⟨_, _, _, a, b, zi_back h (fun a h8 h9 h52 h53 => by rw [zu_ux h52, zu_rx h53, zu_ux h52, C a h8 h9]) (fun i h7 h20 => by rw [zz_un (fun w => h20 w.2), zu_rx (by omega), zz_un (fun w => h7 w.2), C 52 (by omega) (by omega)]) ?_ ?_⟩
      · refine zi_row_c hn (fun i hi => ?_) (fun i hi => ?_) (s5 z)
        · rw [zu_ux (by omega), zh_rr]
          have := zh_pt_in (g := I 53) (f := fun i => I 80 (18 * v + i)) (b := 0) hi
          rw [Nat.zero_add] at this
          exact this
        · rw [zu_ux (by omega), zu_rx (by omega), zu_ux (by omega), zu_ux (by omega)]
          exact zu_cpi hi
      · refine ⟨0, t, by omega, ht, ?_, rfl, ?_, fun k hq => by omega⟩
        · rw [zu_ux (by omega), zu_rx (by omega), zu_ux (by omega)]; rfl
        · rw [zu_ux (by omega), zu_rx (by omega), zu_ux (by omega), zz_un (by omega), zu_cpn (by omega)]; exact h4
    · have z0 : I 12 v = 0 := s1.elim id (fun w => absurd w z)
      have a : zf_X11_again (M + 1) (nI v) I J = some (0, I, J) := by
        rw [zo_X11_again]
        exact zu_gn (fun w => w (by rw [sh]; exact z0)) rfl
      have b : zf_X12_again (M + 1) (nI v) I J = some (0, zz_u I 52 7 0, J) := by
        rw [zo_X12_again]
        unfold zb_X12_again_0
        rw [if_neg p2, if_pos (nI_in (show v < 2 by omega) (by omega)), nI_clamp (by omega)]
        rcases s2 with w | w
        · rw [if_pos w]
        · rw [if_neg (by rw [w]; decide), if_neg (fun w2 => z (s4.mpr ⟨w, w2⟩))]
      exact ⟨_, _, _, a, b, zi_q0 h⟩
theorem zj_count {N n : Nat} (hN : 100000 ≤ N) {I : Nat → Nat → Int32} {J : Nat → Nat → Int64} {F : zz_F} (h : zi n I J F) (x : Int32) : ∃ v I2, zf_X11_count N x I J = some (v, I, J) ∧ zf_X12_count N x I J = some (v, I2, J) ∧ zi n I2 J F := by
  obtain ⟨M, rfl⟩ := zu_one N hN
  obtain ⟨L, rfl⟩ : ∃ L, M = L + 1 := ⟨M - 1, by omega⟩
  have hn := h.1.1
  obtain ⟨a0, a1, a2, a3, a4, a5, a6, a7, a8, a9, a10⟩ := h.2.1
  obtain ⟨t, ht, t1, t2⟩ := h.2.2.1.1
  obtain ⟨k, hk, k1, k2, -⟩ := h.2.2.2.1
  obtain ⟨m, -, hm, -, m5, m20, -, -⟩ := h.2.2.2.2.2.1
  have w : ∀ w : Int32, zf_X12_whereBits (L + 1 + 1) w (zz_u I 52 7 0) J = some (zh_W n (I 53) w, zz_u I 52 7 0, J) := fun w => zm_where (I := zz_u I 52 7 0) hN hn h.1.2.1 w
  refine ⟨if x = 0 then I 52 1 else if x = 1 then I 53 12 else if x = 2 then I 53 13 else if x = 3 then zh_W n (I 53) 0 else if x = 4 then zh_W n (I 53) 1 else if x = 5 then zh_W n (I 53) 2 else if x = 6 then I 53 16 + I 53 17 else if x = 7 then I 52 43 else if x = 8 then I 52 20 else if x = 9 then I 52 6 else if x = 10 then I 52 4 else -100, zz_u I 52 7 0, ?_, ?_, zi_q0 h⟩
  · rw [zo_X11_count]
    unfold zb_X11_count_0
    rw [h.1.2.2.1, a0, a1, a2, a3, a4, show zv_X5_cheersIn I 0 = I 53 16 from a7, show zv_X5_cheersIn I 1 = I 53 17 from a8, h.2.2.2.2.1.1, m5, k1, t1, h.1.2.1, m20, k2, t2]
    simp only [zu_si]
    rfl
  · rw [zo_X12_count]
    unfold zb_X12_count_0
    simp only [zo_X12_count_85, zb_X12_count_85, w, Option.bind_some]
    by_cases e3 : x = 3
    · subst e3; rfl
    · by_cases e4 : x = 4
      · subst e4; rfl
      · by_cases e5 : x = 5
        · subst e5; rfl
        · simp only [if_neg e3, if_neg e4, if_neg e5, zu_si]
theorem zj_scenes {N n : Nat} (hN : 100000 ≤ N) {I : Nat → Nat → Int32} {J : Nat → Nat → Int64} {F : zz_F} (h : zi n I J F) : ∃ v I1 I2 J2 F2 n2, zf_X11_scenes N I J = some (v, I1, J) ∧ zf_X12_scenes N I1 J F = some (v, I2, J2, F2) ∧ zi n2 I2 J2 F2 := by
  have hn := h.1.1
  obtain ⟨⟨len, hl, l2, l52⟩, hby⟩ := h.2.2.1
  have hE := zi_emp h
  have hF := h.2.2.2.2.2.2.2.2
  have ht : ∀ k, k < 80 → zz_u I 2 1 0 3 k = I 55 k &&& 255 := fun k hk => by rw [zu_ux (by omega)]; exact (hby k hk).1
  have hb : ∀ i, i < min len 76 → ∃ b, b < 256 ∧ I 55 i = (nI b).toInt8.toInt32 := fun i hi => (hby i (by omega)).2
  -- where the reference begins
  have bg : ∀ P : Nat → Nat → Int32, P 52 4 = nI len → zf_X12_beginText N 76 (zz_u P 52 7 0) J F = some (0, zr_m (zz_u (zz_u (zz_u (zz_u P 52 7 0) 52 9 (nI len)) 52 10 76) 52 4 0) 0 (-1), J, zz_Fre F (some 55)) := fun P hP => by
    have b := zm_begin hN 76 (zz_u P 52 7 0) J F
    rw [show zz_u P 52 7 0 52 4 = nI len from hP] at b
    exact b
  -- nothing but the text is gone
  have kept : ∀ (X B : Nat → Nat → Int32) (a x : Int32), zn_F n (zz_u I 2 1 0) X → (∀ y, y ≠ 57 → B y = zz_u (zz_u (zz_u (zz_u X 52 7 0) 52 9 (nI len)) 52 10 76) 52 4 0 y) → zi n (zr_m B a x) J (zz_Fre F (some 55)) := fun X B a x hX hB => by
    have X52 : ∀ i, X 52 i = I 52 i := fun i => by rw [hX.1 52 (by omega) (by omega), zu_ux (by omega)]
    have r52 : ∀ i, i ≠ 4 → i ≠ 7 → i ≠ 9 → i ≠ 10 → i ≠ 11 → i ≠ 12 → zr_m B a x 52 i = I 52 i := fun i i1 i2 i3 i4 i5 i6 => by
      unfold zr_m
      rw [zz_un (fun w => i6 w.2), zz_un (fun w => i5 w.2), hB 52 (by omega), zz_un (fun w => i1 w.2), zz_un (fun w => i4 w.2), zz_un (fun w => i3 w.2), zz_un (fun w => i2 w.2), X52]
    have rx : ∀ y, y ≠ 52 → y ≠ 57 → y ≠ 36 → y ≠ 6 → zr_m B a x y = zz_u I 2 1 0 y := fun y y1 y2 y3 y4 => by rw [zr_x y1, hB y y2, zu_ux y1, zu_ux y1, zu_ux y1, zu_ux y1, hX.1 y y3 y4]
    have r6 : ∀ k, k < 7 * n → zr_m B a x 6 k = I 6 k := fun k hk => by rw [zr_x (by omega), hB 6 (by omega), zu_ux (by omega), zu_ux (by omega), zu_ux (by omega), zu_ux (by omega), hX.2 k hk, zu_ux (by omega)]
    have ry : ∀ y, y ≠ 52 → y ≠ 57 → y ≠ 36 → y ≠ 6 → y ≠ 2 → zr_m B a x y = I y := fun y y1 y2 y3 y4 y5 => by rw [rx y y1 y2 y3 y4, zu_ux y5]
    have r2 : ∀ i, i ≠ 1 → zr_m B a x 2 i = I 2 i := fun i hi => by rw [rx 2 (by omega) (by omega) (by omega) (by omega), zz_un (fun w => hi w.2)]
    obtain ⟨h1, h2, h3, h4, h5, h6, h7, h8, h9⟩ := h
    have e9 := ry 9 (by omega) (by omega) (by omega) (by omega) (by omega)
    have e54 := ry 54 (by omega) (by omega) (by omega) (by omega) (by omega)
    have e5 := ry 5 (by omega) (by omega) (by omega) (by omega) (by omega)
    refine ⟨⟨h1.1, by rw [r52 1 (by omega) (by omega) (by omega) (by omega) (by omega) (by omega)]; exact h1.2.1, by rw [e5]; exact h1.2.2.1, fun k hk => by rw [r6 k hk, e54]; exact h1.2.2.2.1 k hk, by rw [e54]; exact h1.2.2.2.2.1, by rw [ry 7 (by omega) (by omega) (by omega) (by omega) (by omega), e54]; exact h1.2.2.2.2.2.1, by rw [ry 7 (by omega) (by omega) (by omega) (by omega) (by omega), e54]; exact h1.2.2.2.2.2.2⟩, ?_, ⟨⟨0, by omega, ?_, ?_⟩, ?_⟩, zc_tol h4 (r2 3 (by omega)) (r52 6 (by omega) (by omega) (by omega) (by omega) (by omega) (by omega)) rfl rfl, zc_bow h5 (r2 15 (by omega)) (r2 16 (by omega)) (r52 43 (by omega) (by omega) (by omega) (by omega) (by omega) (by omega)) (r52 44 (by omega) (by omega) (by omega) (by omega) (by omega) (by omega)), zc_rng h6 (congrFun e9 4) (congrFun e9 5) (r52 20 (by omega) (by omega) (by omega) (by omega) (by omega) (by omega)) (ry 61 (by omega) (by omega) (by omega) (by omega) (by omega)) (fun k hk => ry _ (by omega) (by omega) (by omega) (by omega) (by omega)), zc_shl h7 (r52 45 (by omega) (by omega) (by omega) (by omega) (by omega) (by omega)) (ry 12 (by omega) (by omega) (by omega) (by omega) (by omega)) (ry 81 (by omega) (by omega) (by omega) (by omega) (by omega)) (ry 82 (by omega) (by omega) (by omega) (by omega) (by omega)) (ry 80 (by omega) (by omega) (by omega) (by omega) (by omega)) (fun k hk => ry _ (by omega) (by omega) (by omega) (by omega) (by omega)), zc_rul h8 (r52 16 (by omega) (by omega) (by omega) (by omega) (by omega) (by omega)) (congrFun (ry 28 (by omega) (by omega) (by omega) (by omega) (by omega)) 3) (congrFun (ry 28 (by omega) (by omega) (by omega) (by omega) (by omega)) 4) (ry 29 (by omega) (by omega) (by omega) (by omega) (by omega)) (ry 31 (by omega) (by omega) (by omega) (by omega) (by omega)) (ry 58 (by omega) (by omega) (by omega) (by omega) (by omega)) e54, h9⟩
    · rw [ry 53 (by omega) (by omega) (by omega) (by omega) (by omega), ry 8 (by omega) (by omega) (by omega) (by omega) (by omega)]; exact h2
    · rw [rx 2 (by omega) (by omega) (by omega) (by omega)]; exact zz_us _ _ _ _
    · show B 52 4 = _
      rw [hB 52 (by omega)]; exact zz_us _ _ _ _
    · rw [ry 3 (by omega) (by omega) (by omega) (by omega) (by omega), ry 55 (by omega) (by omega) (by omega) (by omega) (by omega)]; exact h3.2
  have F0 : zn_F n (zz_u I 2 1 0) (zz_u I 2 1 0) := ⟨fun _ _ _ => rfl, fun _ _ => rfl⟩
  by_cases l0 : len = 0
  · have A : zf_X11_scenes N I J = some (0, zz_u I 2 1 0, J) := by
      obtain ⟨M, rfl⟩ := zu_one N hN
      rw [zo_X11_scenes]
      exact zu_gn (fun w => w (by show I 2 1 = 0; rw [l2, l0]; rfl)) rfl
    have b := bg (zz_u I 2 1 0) (by rw [zu_ux (by omega)]; exact l52)
    have Bq : zf_X12_scenes N (zz_u I 2 1 0) J F = some (0, zr_m (zz_u (zz_u (zz_u (zz_u (zz_u I 2 1 0) 52 7 0) 52 9 (nI len)) 52 10 76) 52 4 0) 0 (-1), J, zz_Fre F (some 55)) := by
      obtain ⟨M, rfl⟩ := zu_one N hN
      rw [zo_X12_scenes]
      exact zu_bd b (zu_gn (fun w => w (by show nI len = 0; rw [l0]; rfl)) rfl)
    exact ⟨_, _, _, _, _, n, A, Bq, kept _ _ _ _ F0 (fun _ _ => rfl)⟩
  -- the class reads
  have rc := zn_lc hN (C := N - 1) (by omega) hl rfl (n := n) (I := zz_u I 2 1 0) (J := J) ht (13 - n) 0 0 (zw_X3_begin (zz_u I 2 1 0)) (by omega) (by omega) (by omega) ⟨fun x x1 x2 => by
    unfold zw_X3_begin
    rw [zu_ux x1, zu_ux x1, zu_ux x1], fun k hk => by
    unfold zw_X3_begin
    rw [zu_ux (by omega), zu_ux (by omega), zu_ux (by omega)]⟩ rfl (by
    show zz_u I 2 1 0 5 2 = _
    rw [zu_ux (by omega)]; exact h.1.2.2.1) rfl
  have ef : zf_X7_faultIn_X3__3 N (nI len) 76 (zz_u I 2 1 0) J = zn_W N (N - 1) len (min len 76) 0 (zw_X3_begin (zz_u I 2 1 0)) J := by
    obtain ⟨M, rfl⟩ := zu_one N hN
    rw [zo_X7_faultIn_X3__3]
    unfold zb_X7_faultIn_X3__3_0
    have mn : zz_min (nI len) (zz_min 76 (nI 80)) = nI (min len 76) := by
      rw [show zz_min 76 (nI 80) = nI 76 by decide]
      unfold zz_min
      by_cases q : 76 < len
      · rw [if_pos (nI_lt q (by omega)), show min len 76 = 76 by omega]
      · rw [if_neg (nI_nlt (by omega) (by omega)), show min len 76 = len by omega]
    rw [mn]
    rfl
  have ne0 : ¬ nI len = 0 := fun q => l0 ((nI_eq (b := 0) (by omega) (by omega)).mp q)
  -- the reference reads
  have rr : ∀ X : Nat → Nat → Int32, zn_F n (zz_u I 2 1 0) X ∨ (∀ y, y ≠ 36 → y ≠ 6 → y ≠ 5 → y ≠ 7 → y ≠ 8 → y ≠ 28 → y ≠ 9 → y ≠ 12 → X y = zz_u I 2 1 0 y) → zn_lrP N 0 len (zz_u (zz_u (zz_u (zz_u X 52 7 0) 52 9 (nI len)) 52 10 76) 52 4 0) J (zz_Fre F (some 55)) (zf_X12_scenes N X J F) (zn_ls (zq_h (min len 76) (I 55)) n len (13 - n) 0 0) := fun X hX => by
    have X52 : X 52 = I 52 := by
      rcases hX with w | w
      · rw [w.1 52 (by omega) (by omega), zu_ux (by omega)]
      · rw [w 52 (by omega) (by omega) (by omega) (by omega) (by omega) (by omega) (by omega) (by omega), zu_ux (by omega)]
    have X55 : X 55 = I 55 := by
      rcases hX with w | w
      · rw [w.1 55 (by omega) (by omega), zu_ux (by omega)]
      · rw [w 55 (by omega) (by omega) (by omega) (by omega) (by omega) (by omega) (by omega) (by omega), zu_ux (by omega)]
    have b := bg X (by rw [X52]; exact l52)
    have r := zn_lr hN (J := J) (F := zz_Fre F (some 55)) hl hb (n := n) (13 - n) 0 0 (N - 1) (zz_u (zz_u (zz_u (zz_u X 52 7 0) 52 9 (nI len)) 52 10 76) 52 4 0) (by omega) (by omega) (by omega) (by omega) ⟨rfl, X55, rfl, rfl⟩ (by
      show X 52 1 = _
      rw [X52]; exact h.1.2.1)
    have e : zf_X12_scenes N X J F = zl_X12_scenes N (N - 1) 24 (nI 0) 1 0 (zr_m (zz_u (zz_u (zz_u (zz_u X 52 7 0) 52 9 (nI len)) 52 10 76) 52 4 0) (nI 0) (-1)) J (zz_Fre F (some 55)) := by
      obtain ⟨M, rfl⟩ := zu_one N hN
      rw [zo_X12_scenes]
      exact zu_bd b (zu_gd (show ¬ nI len = 0 from ne0) rfl)
    rw [e]
    exact r
  generalize hr : zn_ls (zq_h (min len 76) (I 55)) n len (13 - n) 0 0 = r at rc rr
  cases r with
  | inl x =>
    obtain ⟨X, F1, e1⟩ := rc
    obtain ⟨hx, B, a, g1, e2⟩ := rr X (.inl F1)
    have A : zf_X11_scenes N I J = some (-1 - nI x, X, J) := by
      obtain ⟨M, rfl⟩ := zu_one N hN
      rw [zo_X11_scenes]
      unfold zb_X11_scenes_0
      rw [show zv_X11_takeText I = nI len from l2, show zw_X11_takeText I = zz_u I 2 1 0 from rfl]
      exact zu_gd ne0 (zu_bd (ef.trans e1) (zu_gn (fun q => nI_pos (n := x) (by omega) (by rw [show nI x = -1 from q]; decide)) rfl))
    exact ⟨_, _, _, _, _, n, A, e2, kept X B _ _ F1 g1⟩
  | inr l =>
    obtain ⟨X, F1, -, en, x3, e1⟩ := rc
    obtain ⟨fds, hK1, hK2⟩ := zn_ls_ok (m := min len 76) (by omega) (13 - n) 0 0 l (by omega) (by omega) hr
    rw [Nat.add_zero] at en hK2
    rw [Nat.zero_add] at x3
    generalize hKK : l.length = K at x3 hK1 hK2
    have getl : ∀ i, i < K → ∃ fl, l[i]? = some fl ∧ zi_fd fl := fun i hi => ⟨l[i]'(by omega), List.getElem?_eq_getElem (by omega), fds _ (List.getElem_mem _)⟩
    -- fields of all scenes in the class
    have G6 : ∀ s, s < n + K → zi_fd (fun w => X 6 (7 * s + w)) := fun s hs => by
      by_cases q : s < n
      · exact zi_fd_c (h.1.2.2.2.2.1 s q) (fun w hw => by rw [F1.2 _ (by omega), zu_ux (by omega)]; exact h.1.2.2.2.1 _ (by omega))
      · obtain ⟨fl, e, fd⟩ := getl (s - n) (by omega)
        refine zi_fd_c fd (fun w hw => ?_)
        have := en (s - n) fl e w hw
        rw [show n + (s - n) = s by omega] at this
        exact this
    have X7 : X 7 = I 7 := by rw [F1.1 7 (by omega) (by omega), zu_ux (by omega)]
    have ss : ∀ v : Int32, zu_set (fun s => decide (I 54 (7 * s) = v)) n = zn_ss (X 6) v n := fun v => zu_set_cong fun s hs => by rw [F1.2 _ (by omega), zu_ux (by omega), h.1.2.2.2.1 _ (by omega)]
    obtain ⟨X1, gr, x1, x5, x70, x71⟩ := zn_grow_l (N := N) hK2 (J := J) (G := X 6) (fun s hs => (G6 s hs).1) K 0 (N - 1) X (by omega) (by omega) rfl (by rw [F1.1 5 (by omega) (by omega), zu_ux (by omega)]; exact h.1.2.2.1) (by rw [X7, h.1.2.2.2.2.2.1]; exact ss 0) (by rw [X7, h.1.2.2.2.2.2.2]; exact ss 1)
    have eg : zf_X9_grow N (nI K) X J = some (zu_set (fun s => decide (n ≤ s)) (n + K), X1, J) := by
      have z : zu_set (fun s => decide (n ≤ s)) (n + 0) = 0 := (zu_set_zero (by omega)).mpr (fun i hi => decide_eq_false (by omega))
      rw [z] at gr
      obtain ⟨M, rfl⟩ := zu_one N hN
      rw [zo_X9_grow]
      exact gr
    generalize hX2 : zz_u (zz_u (zw_X6_forgetUndone (zw_X1_growStale (zz_u X1 8 2 (X 8 2 ||| zu_set (fun s => decide (n ≤ s)) (n + K))))) 12 0 0) 12 1 0 = X2
    have A : zf_X11_scenes N I J = some (nI K, X2, J) := by
      rw [← hX2]
      have ec := zn_clear hN (X := zw_X6_forgetUndone (zw_X1_growStale (zz_u X1 8 2 (X 8 2 ||| zu_set (fun s => decide (n ≤ s)) (n + K))))) (J := J)
      obtain ⟨M, rfl⟩ := zu_one N hN
      rw [zo_X11_scenes]
      unfold zb_X11_scenes_0
      rw [show zv_X11_takeText I = nI len from l2, show zw_X11_takeText I = zz_u I 2 1 0 from rfl]
      refine zu_gd ne0 (zu_bd (ef.trans e1) (zu_gd rfl ?_))
      dsimp only
      rw [show zv_X3_lineCount X = nI K from x3]
      exact zu_bd eg (zu_bd ec rfl)
    have X2x : ∀ y, y ≠ 36 → y ≠ 6 → y ≠ 5 → y ≠ 7 → y ≠ 8 → y ≠ 28 → y ≠ 9 → y ≠ 12 → X2 y = zz_u I 2 1 0 y := fun y y1 y2 y3 y4 y5 y6 y7 y8 => by
      rw [← hX2, zu_ux y8, zu_ux y8]
      unfold zw_X6_forgetUndone zw_X1_growStale
      rw [zu_ux y7, zu_ux y6, zu_ux y5, x1 y y3 y4, F1.1 y y1 y2]
    have X2a : ∀ y, y ≠ 8 → y ≠ 28 → y ≠ 9 → y ≠ 12 → X2 y = X1 y := fun y y5 y6 y7 y8 => by
      rw [← hX2, zu_ux y8, zu_ux y8]
      unfold zw_X6_forgetUndone zw_X1_growStale
      rw [zu_ux y7, zu_ux y6, zu_ux y5]
    obtain ⟨B, u, hu, g1, -, gen, e2⟩ := rr X2 (.inr X2x)
    rw [hKK, Nat.zero_add] at e2
    have B52 : ∀ i, i ≠ 4 → i ≠ 7 → i ≠ 9 → i ≠ 10 → B 52 i = I 52 i := fun i i1 i2 i3 i4 => by
      rw [g1 52 (by omega), zz_un (fun w => i1 w.2), zz_un (fun w => i4 w.2), zz_un (fun w => i3 w.2), zz_un (fun w => i2 w.2), X2x 52 (by omega) (by omega) (by omega) (by omega) (by omega) (by omega) (by omega) (by omega), zu_ux (by omega)]
    have Bx : ∀ y, y ≠ 57 → y ≠ 52 → B y = X2 y := fun y y1 y2 => by rw [g1 y y1, zu_ux y2, zu_ux y2, zu_ux y2, zu_ux y2]
    obtain ⟨Y1, u1, hu1, k1, k2, k3, k4⟩ := zn_94 (N := N) hK2 (J := J) (F := zz_Fre F (some 55)) (7 * K) 0 u (zr_m B (nI len) (-1)) (by omega) (by omega) (by show B 52 1 = _; rw [B52 1 (by omega) (by omega) (by omega) (by omega)]; exact h.1.2.1) (fun j hj => by omega)
    obtain ⟨Y, q1, q2, q3, q4, q5, q6⟩ := zn_130 (N := N) hK2 (J := J) (F := zz_Fre F (some 55)) K 0 u1 Y1 (by omega) (by omega) (by rw [k2 52 (by omega)]; show B 52 1 = _; rw [B52 1 (by omega) (by omega) (by omega) (by omega)]; exact h.1.2.1) (fun s s1 s2 => by omega)
    have Bq := e2.trans (k1.trans q1)
    generalize hW : zz_u (zz_u Y 52 20 0) 52 45 (Y 52 45 + 1) = W at Bq
    have Wx : ∀ y, y ≠ 52 → y ≠ 53 → y ≠ 54 → y ≠ 57 → W y = X2 y := fun y y1 y2 y3 y4 => by rw [← hW, zu_ux y1, zu_ux y1, q2 y y1 y2, k2 y y3, zr_x y1, Bx y y4 y1]
    have W52 : ∀ i, i ≠ 1 → i ≠ 4 → i ≠ 7 → i ≠ 9 → i ≠ 10 → i ≠ 11 → i ≠ 12 → i ≠ 20 → i ≠ 45 → W 52 i = I 52 i := fun i i0 i1 i2 i3 i4 i5 i6 i7 i8 => by
      rw [← hW, zz_un (fun w => i8 w.2), zz_un (fun w => i7 w.2), q3 i i0, k2 52 (by omega)]
      unfold zr_m
      rw [zz_un (fun w => i6 w.2), zz_un (fun w => i5 w.2), B52 i i1 i2 i3 i4]
    have Wy : ∀ y, y ≠ 52 → y ≠ 53 → y ≠ 54 → y ≠ 57 → y ≠ 36 → y ≠ 6 → y ≠ 5 → y ≠ 7 → y ≠ 8 → y ≠ 28 → y ≠ 9 → y ≠ 12 → W y = zz_u I 2 1 0 y := fun y z1 z2 z3 z4 y1 y2 y3 y4 y5 y6 y7 y8 => by rw [Wx y z1 z2 z3 z4, X2x y y1 y2 y3 y4 y5 y6 y7 y8]
    have Wz : ∀ y, y ≠ 52 → y ≠ 53 → y ≠ 54 → y ≠ 57 → y ≠ 36 → y ≠ 6 → y ≠ 5 → y ≠ 7 → y ≠ 8 → y ≠ 28 → y ≠ 9 → y ≠ 12 → y ≠ 2 → W y = I y := fun y z1 z2 z3 z4 y1 y2 y3 y4 y5 y6 y7 y8 y9 => by rw [Wy y z1 z2 z3 z4 y1 y2 y3 y4 y5 y6 y7 y8, zu_ux y9]
    have W2 : ∀ i, i ≠ 1 → W 2 i = I 2 i := fun i hi => by rw [Wy 2 (by omega) (by omega) (by omega) (by omega) (by omega) (by omega) (by omega) (by omega) (by omega) (by omega) (by omega) (by omega), zz_un (fun w => hi w.2)]
    have W6 : W 6 = X 6 := by rw [Wx 6 (by omega) (by omega) (by omega) (by omega), X2a 6 (by omega) (by omega) (by omega) (by omega), x1 6 (by omega) (by omega)]
    have W54l : ∀ j, j < 7 * n → W 54 j = I 54 j := fun j hj => by rw [← hW, zu_ux (by omega), zu_ux (by omega), q2 54 (by omega) (by omega), k3 j hj, zr_x (by omega), Bx 54 (by omega) (by omega), X2x 54 (by omega) (by omega) (by omega) (by omega) (by omega) (by omega) (by omega) (by omega), zu_ux (by omega)]
    have W54h : ∀ j, j < 7 * K → W 54 (7 * n + j) = B 57 j := fun j hj => by rw [← hW, zu_ux (by omega), zu_ux (by omega), q2 54 (by omega) (by omega), k4 j hj, zr_x (by omega)]
    have same : ∀ k, k < 7 * (n + K) → W 6 k = W 54 k := fun k hk => by
      rw [W6]
      by_cases q : k < 7 * n
      · rw [W54l k q, F1.2 k q, zu_ux (by omega)]; exact h.1.2.2.2.1 k q
      · obtain ⟨i, w, hi, hw, ek⟩ : ∃ i w, i < K ∧ w < 7 ∧ k = 7 * (n + i) + w := ⟨(k - 7 * n) / 7, (k - 7 * n) % 7, by omega, by omega, by omega⟩
        obtain ⟨fl, e, _⟩ := getl i hi
        have a := en i fl e w hw
        have b := gen i fl e w hw
        rw [Nat.zero_add] at b
        rw [ek, a, show 7 * (n + i) + w = 7 * n + (7 * i + w) by omega, W54h _ (by omega), b]
    have W53h : ∀ s, n ≤ s → s < n + K → W 53 s = 0 := fun s s1 s2 => by rw [← hW, zu_ux (by omega), zu_ux (by omega)]; exact q6 s s1 s2
    have W53l : ∀ s, s < n ∨ n + K ≤ s → W 53 s = I 53 s := fun s hs => by rw [← hW, zu_ux (by omega), zu_ux (by omega), q5 s hs, k2 53 (by omega), zr_x (by omega), Bx 53 (by omega) (by omega), X2x 53 (by omega) (by omega) (by omega) (by omega) (by omega) (by omega) (by omega) (by omega), zu_ux (by omega)]
    have W8 : ∀ i, i ≠ 2 → W 8 i = I 8 i := fun i hi => by
      rw [Wx 8 (by omega) (by omega) (by omega) (by omega), ← hX2, zu_ux (by omega), zu_ux (by omega)]
      unfold zw_X6_forgetUndone zw_X1_growStale
      rw [zu_ux (by omega), zu_ux (by omega), zz_un (fun w => hi w.2), x1 8 (by omega) (by omega), F1.1 8 (by omega) (by omega), zu_ux (by omega)]
    have W82 : W 8 2 = I 8 2 ||| zu_set (fun s => decide (n ≤ s)) (n + K) := by
      rw [Wx 8 (by omega) (by omega) (by omega) (by omega), ← hX2, zu_ux (by omega), zu_ux (by omega)]
      unfold zw_X6_forgetUndone zw_X1_growStale
      rw [zu_ux (by omega), zu_ux (by omega), zz_us, F1.1 8 (by omega) (by omega), zu_ux (by omega)]
    have W28 : ∀ i, i ≠ 4 → W 28 i = I 28 i := fun i hi => by
      rw [Wx 28 (by omega) (by omega) (by omega) (by omega), ← hX2, zu_ux (by omega), zu_ux (by omega)]
      unfold zw_X6_forgetUndone zw_X1_growStale
      rw [zu_ux (by omega), zz_un (fun w => hi w.2), zu_ux (by omega), x1 28 (by omega) (by omega), F1.1 28 (by omega) (by omega), zu_ux (by omega)]
    have W284 : W 28 4 = 0 := by
      rw [Wx 28 (by omega) (by omega) (by omega) (by omega), ← hX2, zu_ux (by omega), zu_ux (by omega)]
      unfold zw_X6_forgetUndone zw_X1_growStale
      rw [zu_ux (by omega), zz_us]
    have W9 : ∀ i, i ≠ 5 → W 9 i = I 9 i := fun i hi => by
      rw [Wx 9 (by omega) (by omega) (by omega) (by omega), ← hX2, zu_ux (by omega), zu_ux (by omega)]
      unfold zw_X6_forgetUndone zw_X1_growStale
      rw [zz_un (fun w => hi w.2), zu_ux (by omega), zu_ux (by omega), x1 9 (by omega) (by omega), F1.1 9 (by omega) (by omega), zu_ux (by omega)]
    have W95 : W 9 5 = 0 := by
      rw [Wx 9 (by omega) (by omega) (by omega) (by omega), ← hX2, zu_ux (by omega), zu_ux (by omega)]
      unfold zw_X6_forgetUndone
      rw [zz_us]
    have W12 : ∀ i, i < 2 → W 12 i = 0 := fun i hi => by
      rw [Wx 12 (by omega) (by omega) (by omega) (by omega), ← hX2]
      rcases (by omega : i = 0 ∨ i = 1) with rfl | rfl
      · rw [zz_un (by omega), zz_us]
      · rw [zz_us]
    have W7 : W 7 = X1 7 := by rw [Wx 7 (by omega) (by omega) (by omega) (by omega), X2a 7 (by omega) (by omega) (by omega) (by omega)]
    have set54 : ∀ v : Int32, zn_ss (X 6) v (n + K) = zu_set (fun s => decide (W 54 (7 * s) = v)) (n + K) := fun v => zu_set_cong fun s hs => by rw [← same (7 * s) (by omega), W6]
    obtain ⟨h1, h2, h3, h4, h5, h6, h7, h8, h9⟩ := h
    obtain ⟨a0, a1, a2, a3, a4, a5, a6, a7, a8, a9, a10⟩ := h2
    have mr : ∀ v : Int32, v ≠ 0 → zu_set (fun s => decide (I 53 s = v)) n = zu_set (fun s => decide (W 53 s = v)) (n + K) := fun v hv => by
      rw [zu_set_more (n := n) (m := n + K) (by omega) (fun i i1 i2 => by rw [W53h i i1 i2]; exact decide_eq_false (fun q => hv q.symm))]
      exact zu_set_cong fun s hs => by rw [W53l s (.inl hs)]
    refine ⟨_, _, _, _, _, n + K, A, Bq, ⟨hK2, ?_, ?_, same, fun s hs => ?_, ?_, ?_⟩, ⟨?_, ?_, ?_, ?_, ?_, ?_, ?_, ?_, ?_, fun s hs => ?_, ?_⟩, ⟨⟨0, by omega, ?_, ?_⟩, ?_⟩, zc_tol h4 (W2 3 (by omega)) (W52 6 (by omega) (by omega) (by omega) (by omega) (by omega) (by omega) (by omega) (by omega) (by omega)) rfl rfl, zc_bow h5 (W2 15 (by omega)) (W2 16 (by omega)) (W52 43 (by omega) (by omega) (by omega) (by omega) (by omega) (by omega) (by omega) (by omega) (by omega)) (W52 44 (by omega) (by omega) (by omega) (by omega) (by omega) (by omega) (by omega) (by omega) (by omega)), ?_, ?_, ?_, hF⟩
    · rw [← hW, zz_un (by omega), zz_un (by omega)]; exact q4
    · rw [Wx 5 (by omega) (by omega) (by omega) (by omega), X2a 5 (by omega) (by omega) (by omega) (by omega)]; exact x5
    · exact zi_fd_c (G6 s hs) (fun w hw => by rw [← same _ (by omega), W6])
    · rw [W7, x70, set54]
    · rw [W7, x71, set54]
    · rw [W8 0 (by omega), a0, W53l 12 (.inr (by omega))]
    · rw [W8 1 (by omega), a1, W53l 13 (.inr (by omega))]
    · rw [W82, a2]
      refine zu_set_ext (by omega) (fun i hi => ?_) (fun i i1 i2 => ?_)
      · rw [b_or, zu_set_at (n := n + K) (by omega) hi]
        by_cases q : i < n
        · rw [zu_set_at (by omega) q, W53l i (.inl q), decide_eq_false (show ¬ n ≤ i by omega), Bool.or_false]
        · rw [zu_set_out (by omega) (by omega), W53h i (by omega) hi, decide_eq_true (show n ≤ i by omega)]; rfl
      · rw [b_or, zu_set_out (by omega) (by omega), zu_set_out (by omega) i1]; rfl
    · rw [W8 3 (by omega), a3]; exact mr 1 (by decide)
    · rw [W8 4 (by omega), a4]; exact mr 2 (by decide)
    · rw [W8 5 (by omega), a5, W53l 14 (.inr (by omega))]
    · rw [W8 6 (by omega), a6, W53l 15 (.inr (by omega))]
    · rw [W8 7 (by omega), a7, W53l 16 (.inr (by omega))]
    · rw [W8 8 (by omega), a8, W53l 17 (.inr (by omega))]
    · by_cases q : s < n
      · rw [W53l s (.inl q)]; exact a9 s q
      · exact .inl (W53h s (by omega) hs)
    · rw [W53l 13 (.inr (by omega))]
      exact a10.imp id (fun ⟨s, hs, e⟩ => ⟨s, by omega, e⟩)
    · rw [Wy 2 (by omega) (by omega) (by omega) (by omega) (by omega) (by omega) (by omega) (by omega) (by omega) (by omega) (by omega) (by omega)]; exact zz_us _ _ _ _
    · rw [← hW, zz_un (by omega), zz_un (by omega), q3 4 (by omega), k2 52 (by omega)]
      show B 52 4 = _
      rw [g1 52 (by omega)]; exact zz_us _ _ _ _
    · rw [Wz 3 (by omega) (by omega) (by omega) (by omega) (by omega) (by omega) (by omega) (by omega) (by omega) (by omega) (by omega) (by omega) (by omega), Wz 55 (by omega) (by omega) (by omega) (by omega) (by omega) (by omega) (by omega) (by omega) (by omega) (by omega) (by omega) (by omega) (by omega)]; exact h3.2
    · obtain ⟨m, t, hm, ht, c1, c2, c3, c4⟩ := h6
      exact ⟨0, t, by omega, ht, W95, by rw [← hW, zz_un (by omega), zz_us]; rfl, by rw [W9 4 (by omega)]; exact c3, fun k hk => by omega⟩
    · obtain ⟨c, hc, c1, c2⟩ := h7
      have w45 : W 52 45 = nI (c + 1) := by
        rw [← hW, zz_us, q3 45 (by omega), k2 52 (by omega)]
        show B 52 45 + 1 = _
        rw [B52 45 (by omega) (by omega) (by omega) (by omega), c1, nI_1]
      refine ⟨c + 1, by omega, w45, fun i hi => ?_⟩
      obtain ⟨d1, d2, ⟨e, he, d3⟩, d4, d5⟩ := c2 i hi
      have w81 := Wz 81 (by omega) (by omega) (by omega) (by omega) (by omega) (by omega) (by omega) (by omega) (by omega) (by omega) (by omega) (by omega) (by omega)
      have w82 := Wz 82 (by omega) (by omega) (by omega) (by omega) (by omega) (by omega) (by omega) (by omega) (by omega) (by omega) (by omega) (by omega) (by omega)
      refine ⟨.inl (W12 i hi), by rw [w81]; exact d2, ⟨e, by omega, by rw [w82]; exact d3⟩, ⟨fun q => ?_, fun q => ?_⟩, fun q => ?_⟩
      · rw [W12 i hi] at q; exact absurd q (by decide)
      · exfalso
        have := q.2
        rw [w82, d3, w45] at this
        have := (nI_eq (by omega) (by omega)).mp this
        omega
      · rw [W12 i hi] at q; exact absurd q (by decide)
    · obtain ⟨m, cs, m40, c40, m16, c3, ok, ev, f01, tb⟩ := h8
      have w58 := Wz 58 (by omega) (by omega) (by omega) (by omega) (by omega) (by omega) (by omega) (by omega) (by omega) (by omega) (by omega) (by omega) (by omega)
      exact ⟨m, cs, m40, c40, by rw [W52 16 (by omega) (by omega) (by omega) (by omega) (by omega) (by omega) (by omega) (by omega) (by omega)]; exact m16, by rw [W28 3 (by omega)]; exact c3, by rw [w58]; exact ok, by rw [Wz 29 (by omega) (by omega) (by omega) (by omega) (by omega) (by omega) (by omega) (by omega) (by omega) (by omega) (by omega) (by omega) (by omega), w58]; exact ev, .inl W284, fun q => by rw [W284] at q; exact absurd q (by decide)⟩
theorem zj_rule {N n : Nat} (hN : 100000 ≤ N) {I : Nat → Nat → Int32} {J : Nat → Nat → Int64} {F : zz_F} (h : zi n I J F) (h0 : zi_pl I) : ∃ v I1 I2 J2 F2, zf_X11_rule N I J = some (v, I1, J) ∧ zf_X12_rule N I1 J F = some (v, I2, J2, F2) ∧ zi n I2 J2 F2 := by
  have hn := h.1.1
  obtain ⟨⟨len, hl, l2, l52⟩, hby⟩ := h.2.2.1
  have hE := zi_emp h
  have ht : ∀ k, k < 80 → zz_u I 2 1 0 3 k = I 55 k &&& 255 := fun k hk => by rw [zu_ux (by omega)]; exact (hby k hk).1
  have hb : ∀ i, i < min len 40 → ∃ b, b < 256 ∧ I 55 i = (nI b).toInt8.toInt32 := fun i hi => (hby i (by omega)).2
  have hF := h.2.2.2.2.2.2.2.2
  -- what stays
  have kp : ∀ (X Y : Nat → Nat → Int32), (∀ x, x ≠ 28 → x ≠ 29 → x ≠ 37 → x ≠ 38 → x ≠ 39 → X x = zz_u I 2 1 0 x) → (∀ x, x ≠ 52 → x ≠ 58 → Y x = X x) → (∀ i, i ≠ 4 → i ≠ 7 → i ≠ 9 → i ≠ 10 → i ≠ 11 → i ≠ 12 → i ≠ 16 → i ≠ 17 → Y 52 i = X 52 i) → Y 52 4 = 0 → (∀ a i, zk_k a i = true → a ≠ 28 → a ≠ 29 → a ≠ 58 → ¬ (a = 52 ∧ i = 16) → Y a i = zz_u (zz_u I 2 1 0) 52 4 0 a i) ∧ zi_tol Y J := fun X Y hX hY hY2 hY4 => by
    refine ⟨fun a i hk a1 a2 a3 a4 => ?_, zc_tol hE.2.2.2.1 ?_ ?_ rfl rfl⟩
    · by_cases e : a = 52
      · subst e
        by_cases i4 : i = 4
        · subst i4; rw [hY4]; rfl
        · rw [hY2 i i4 (fun w => by subst w; cases hk) (fun w => by subst w; cases hk) (fun w => by subst w; cases hk) (fun w => by subst w; cases hk) (fun w => by subst w; cases hk) (fun w => a4 ⟨rfl, w⟩) (fun w => by subst w; cases hk), hX 52 (by omega) (by omega) (by omega) (by omega) (by omega), zz_un (fun w => i4 w.2)]
      · rw [hY a e a3, hX a a1 a2 (fun w => by subst w; cases hk) (fun w => by subst w; cases hk) (fun w => by subst w; cases hk), zu_ux e]
    · rw [hY 2 (by omega) (by omega), hX 2 (by omega) (by omega) (by omega) (by omega) (by omega)]; rfl
    · rw [hY2 6 (by omega) (by omega) (by omega) (by omega) (by omega) (by omega) (by omega) (by omega), hX 52 (by omega) (by omega) (by omega) (by omega) (by omega)]; rfl
  -- the reference
  have rf : ∀ X : Nat → Nat → Int32, (∀ x, x ≠ 28 → x ≠ 29 → x ≠ 37 → x ≠ 38 → x ≠ 39 → X x = zz_u I 2 1 0 x) → ∃ v Y, zf_X12_readRule N (zz_u X 52 7 0) J F = some (v, Y, J, zz_Fre F (some 55)) ∧ (∀ x, x ≠ 52 → Y x = X x) ∧ (∀ i, i ≠ 4 → i ≠ 7 → i ≠ 9 → i ≠ 10 → i ≠ 11 → i ≠ 12 → i ≠ 17 → Y 52 i = X 52 i) ∧ Y 52 4 = 0 ∧ X 52 4 = nI len ∧ ((len = 0 ∧ v = 1) ∨ (0 < len ∧ ∃ u, zq_g (min len 40) (I 55) (fun _ => 0) 999 0 0 0 0 = .inr (u, len) ∧ v = 1) ∨ (0 < len ∧ v = 0 ∧ ∃ x, zg_bad (min len 40) (I 55) (fun _ => 0) len x ∧ Y 52 12 = nI x)) := fun X hX => by
    have X4 : X 52 4 = nI len := by rw [hX 52 (by omega) (by omega) (by omega) (by omega) (by omega)]; exact l52
    obtain ⟨v, Y, g1, g2, g3, g4, g5⟩ := zm_rr hN (P := zz_u X 52 7 0) (J := J) (F := F) hl hb (by rw [zz_un (by omega)]; exact X4) (by rw [zu_ux (by omega), hX 55 (by omega) (by omega) (by omega) (by omega) (by omega), zu_ux (by omega)])
    exact ⟨v, Y, g1, fun x hx => (g2 x hx).trans (zu_ux hx), fun i i1 i2 i3 i4 i5 i6 i7 => (g3 i i1 i3 i4 i5 i6 i7).trans (zz_un (fun w => i2 w.2)), g4, X4, g5⟩
  by_cases l0 : len = 0
  · -- the plain rule
    obtain ⟨X, e1, tk, e29⟩ := zs_plain28 hN (I := zz_u I 2 1 0) (J := J)
    have hX : ∀ x, x ≠ 28 → x ≠ 29 → x ≠ 37 → x ≠ 38 → x ≠ 39 → X x = zz_u I 2 1 0 x := fun x x1 x2 _ _ _ => tk.1 x x2 x1
    have A : zf_X11_rule N I J = some (0, X, J) := by
      obtain ⟨M, rfl⟩ := zu_one N hN
      rw [zo_X11_rule]
      unfold zb_X11_rule_0
      exact zu_gn (fun w => w (by show I 2 1 = 0; rw [l2, l0]; rfl)) (zu_bd e1 rfl)
    obtain ⟨v, Y, r1, r2, r3, r4, r5, r6⟩ := rf X hX
    have v1 : v = 1 := by
      rcases r6 with ⟨_, w⟩ | ⟨w, _⟩ | ⟨w, _⟩
      · exact w
      · omega
      · omega
    subst v1
    have Bq : zf_X12_rule N X J F = some (0, zz_u Y 52 16 (nI 0), J, zz_Fre F (some 55)) := by
      obtain ⟨M, rfl⟩ : ∃ M, N = M + 1 + 1 := ⟨N - 2, by omega⟩
      rw [zo_X12_rule]
      unfold zb_X12_rule_0
      refine zu_bd r1 (zu_gd (show ¬ (1 : Int32) = 0 by decide) ?_)
      rw [r5, l0]
      show zl_X12_rule (M + 1 + 1) (M + 1) 26 (nI 0) 0 Y J (zz_Fre F (some 55)) = _
      rw [zo_X12_rule_26]
      unfold zb_X12_rule_26
      rw [if_pos (show nI 0 ≤ 0 by decide)]
    obtain ⟨k1, k2⟩ := kp X (zz_u Y 52 16 (nI 0)) hX (fun x x1 x2 => by rw [zu_ux x1, r2 x x1]) (fun i i1 i2 i3 i4 i5 i6 i7 i8 => by rw [zz_un (fun w => i7 w.2), r3 i i1 i2 i3 i4 i5 i6 i8]) (by rw [zz_un (by omega)]; exact r4)
    refine ⟨_, _, _, _, _, A, Bq, zi_rulE hE k1 k2 ⟨0, 7, by omega, by omega, rfl, ?_, ⟨.inl rfl, fun k hk => by omega⟩, fun e => ?_, .inl ?_, fun q => ?_⟩ hF⟩
    · rw [zu_ux (by omega), r2 28 (by omega)]; exact tk.2.2.1
    · have c : ∀ j, j < 7 → (zz_u Y 52 16 (nI 0)) 29 j = I 0 j := fun j hj => by rw [zu_ux (by omega), r2 29 (by omega), e29 j hj, zu_ux (by omega)]
      obtain ⟨p0, p1, p2, p3, p4, p5, p6⟩ := h0
      exact zc_plain ((c 0 (by omega)).trans p0) ((c 1 (by omega)).trans p1) ((c 2 (by omega)).trans p2) ((c 3 (by omega)).trans p3) ((c 4 (by omega)).trans p4) ((c 5 (by omega)).trans p5) ((c 6 (by omega)).trans p6)
    · rw [zu_ux (by omega), r2 28 (by omega)]; exact tk.2.2.2
    · rw [zu_ux (by omega), r2 28 (by omega), tk.2.2.2] at q
      exact absurd q (by decide)
  obtain ⟨X, f1, cs⟩ := zs_rr hN (I := zz_u I 2 1 0) (J := J) hl ht (fun _ => 0)
  rcases cs with ⟨x, e1, bd⟩ | ⟨e1, fi⟩
  · -- a fault
    have hX : ∀ x, x ≠ 28 → x ≠ 29 → x ≠ 37 → x ≠ 38 → x ≠ 39 → X x = zz_u I 2 1 0 x := fun x _ _ x1 x2 x3 => f1 x x1 x2 x3
    have A : zf_X11_rule N I J = some (-1 - nI x, X, J) := by
      obtain ⟨M, rfl⟩ := zu_one N hN
      rw [zo_X11_rule]
      unfold zb_X11_rule_0
      rw [show zv_X11_takeText I = nI len from l2, show zw_X11_takeText I = zz_u I 2 1 0 from rfl]
      exact zu_gd (show ¬ nI len = 0 from fun q => l0 ((nI_eq (b := 0) (by omega) (by omega)).mp q)) (zu_bd e1 (zu_gn (fun q => nI_pos (n := x) (by have := bd.1; omega) (by rw [show nI x = -1 from q]; decide)) rfl))
    obtain ⟨v, Y, r1, r2, r3, r4, r5, r6⟩ := rf X hX
    obtain ⟨v0, yx⟩ : v = 0 ∧ Y 52 12 = nI x := by
      rcases r6 with ⟨w, _⟩ | ⟨_, u, w, _⟩ | ⟨_, w, y, w2, w3⟩
      · exact absurd w l0
      · exact (zg_bad_no bd w).elim
      · rw [zg_bad_fun bd w2]; exact ⟨w, w3⟩
    subst v0
    have Bq : zf_X12_rule N X J F = some (-1 - nI x, Y, J, zz_Fre F (some 55)) := by
      obtain ⟨M, rfl⟩ := zu_one N hN
      rw [zo_X12_rule]
      unfold zb_X12_rule_0
      refine zu_bd r1 (zu_gn (fun w => w rfl) ?_)
      show some (-1 - Y 52 12, Y, J, zz_Fre F (some 55)) = _
      rw [yx]
    obtain ⟨k1, k2⟩ := kp X Y hX (fun x x1 x2 => r2 x x1) (fun i i1 i2 i3 i4 i5 i6 i7 i8 => r3 i i1 i2 i3 i4 i5 i6 i8) r4
    have y28 : Y 28 = zz_u (zz_u I 2 1 0) 52 4 0 28 := by rw [r2 28 (by omega), f1 28 (by omega) (by omega) (by omega), zu_ux (show 28 ≠ 52 by omega)]
    have y29 : Y 29 = zz_u (zz_u I 2 1 0) 52 4 0 29 := by rw [r2 29 (by omega), f1 29 (by omega) (by omega) (by omega), zu_ux (show 29 ≠ 52 by omega)]
    have y58 : Y 58 = zz_u (zz_u I 2 1 0) 52 4 0 58 := by rw [r2 58 (by omega), f1 58 (by omega) (by omega) (by omega), zu_ux (show 58 ≠ 52 by omega)]
    refine ⟨_, _, _, _, _, A, Bq, zi_told hE (fun a i hk => ?_) k2 hF⟩
    by_cases a1 : a = 28
    · subst a1; rw [y28]
    by_cases a2 : a = 29
    · subst a2; rw [y29]
    by_cases a3 : a = 58
    · subst a3; rw [y58]
    by_cases a4 : a = 52 ∧ i = 16
    · obtain ⟨rfl, rfl⟩ := a4
      rw [r3 16 (by omega) (by omega) (by omega) (by omega) (by omega) (by omega) (by omega), f1 52 (by omega) (by omega) (by omega), zz_un (show ¬ (52 = 52 ∧ 16 = 4) by omega)]
    exact k1 a i hk a1 a2 a3 a4
  · -- a rule
    obtain ⟨l40, hok, c, hc, c2, hev⟩ := fi
    obtain ⟨X2, e2, tk, e29⟩ := zs_from28 hN (I := X) (J := J) hc c2
    have hX : ∀ x, x ≠ 28 → x ≠ 29 → x ≠ 37 → x ≠ 38 → x ≠ 39 → X2 x = zz_u I 2 1 0 x := fun x x1 x2 x3 x4 x5 => (tk.1 x x2 x1).trans (f1 x x3 x4 x5)
    have A : zf_X11_rule N I J = some (0, X2, J) := by
      obtain ⟨M, rfl⟩ := zu_one N hN
      rw [zo_X11_rule]
      unfold zb_X11_rule_0
      rw [show zv_X11_takeText I = nI len from l2, show zw_X11_takeText I = zz_u I 2 1 0 from rfl]
      exact zu_gd (show ¬ nI len = 0 from fun q => l0 ((nI_eq (b := 0) (by omega) (by omega)).mp q)) (zu_bd e1 (zu_gd rfl (zu_bd e2 rfl)))
    obtain ⟨v, Y, r1, r2, r3, r4, r5, r6⟩ := rf X2 hX
    have v1 : v = 1 := by
      rcases r6 with ⟨w, _⟩ | ⟨_, u, _, w⟩ | ⟨_, _, y, w2, _⟩
      · exact absurd w l0
      · exact w
      · obtain ⟨u, w⟩ := hok (fun _ => 0)
        exact (zg_bad_no w2 w).elim
    subst v1
    have Y55 : Y 55 = I 55 := by rw [r2 55 (by omega), hX 55 (by omega) (by omega) (by omega) (by omega) (by omega), zu_ux (by omega)]
    obtain ⟨Y2, q1, q2, q3⟩ := zm_cp (N := N) (J := J) (F := zz_Fre F (some 55)) hF.2.1 l40 len 0 (N - 1) Y (by omega) (by omega) (fun j hj => by rw [Y55]; exact (hby j (by omega)).2) (fun j hj => by omega)
    have Bq : zf_X12_rule N X2 J F = some (0, zz_u Y2 52 16 (nI len), J, zz_Fre F (some 55)) := by
      obtain ⟨M, rfl⟩ := zu_one N hN
      rw [zo_X12_rule]
      unfold zb_X12_rule_0
      refine zu_bd r1 (zu_gd (show ¬ (1 : Int32) = 0 by decide) ?_)
      rw [r5]
      exact q1
    obtain ⟨k1, k2⟩ := kp X2 (zz_u Y2 52 16 (nI len)) hX (fun x x1 x2 => by rw [zu_ux x1, q2 x x2, r2 x x1]) (fun i i1 i2 i3 i4 i5 i6 i7 i8 => by rw [zz_un (fun w => i7 w.2), q2 52 (by omega), r3 i i1 i2 i3 i4 i5 i6 i8]) (by rw [zz_un (by omega), q2 52 (by omega)]; exact r4)
    have t58 : ∀ j, j < len → (zz_u Y2 52 16 (nI len)) 58 j = I 55 j := fun j hj => by rw [zu_ux (by omega), q3 j hj, Y55]
    have hh : zq_h len ((zz_u Y2 52 16 (nI len)) 58) = zq_h len (I 55) := funext fun a => by
      unfold zq_h
      by_cases q : a < len
      · rw [if_pos q, if_pos q, t58 a q]
      · rw [if_neg q, if_neg q]
    rw [show min len 40 = len by omega] at hok hev
    refine ⟨_, _, _, _, _, A, Bq, zi_rulE hE k1 k2 ⟨len, c, l40, hc, rfl, ?_, ⟨.inr (fun e => ?_), fun k hk => ?_⟩, fun e => ?_, .inl ?_, fun q => ?_⟩ hF⟩
    · rw [zu_ux (by omega), q2 28 (by omega), r2 28 (by omega)]; exact tk.2.2.1
    · obtain ⟨v, w⟩ := hok e
      exact ⟨v, by rw [zq_g_c hh]; exact w⟩
    · rw [t58 k hk]; exact (hby k (by omega)).2
    · obtain ⟨v, w⟩ := hok e
      rw [zc_s_cong (c := X 38) c (fun j hj => by rw [zu_ux (by omega), q2 29 (by omega), r2 29 (by omega), e29 j hj]), hev e v w]
      unfold zq_val
      rw [if_neg l0, zq_g_c hh, w]
    · rw [zu_ux (by omega), q2 28 (by omega), r2 28 (by omega)]; exact tk.2.2.2
    · rw [zu_ux (by omega), q2 28 (by omega), r2 28 (by omega), tk.2.2.2] at q
      exact absurd q (by decide)
