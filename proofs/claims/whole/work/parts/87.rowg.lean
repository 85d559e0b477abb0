/-! THE CLASS'S NEXT SCENE AGAINST ANY ROW; printed out of 83 and 84 -/
theorem zs_nextG {N n : Nat} (hN : 100000 ≤ N) {I : Nat → Nat → Int32} {J : Nat → Nat → Int64} {ro : Nat → Int32} (hsc : zi_sc n I) (hr : zi_row n ro (I 8)) {p : Nat} (hp : p ≤ 1) : zf_X11_nextOf N (nI p) I J = some (zh_nx n ro (I 54) p, I, J) := by
  have hn := hsc.1
  obtain ⟨M, rfl⟩ := zu_one N hN
  have hW : I 8 2 = zh_W n ro 0 := hr.2.2.1
  rw [zo_X11_nextOf]
  unfold zb_X11_nextOf_0
  have eset : zh_W n ro 0 &&& zv_X9_scenesOf I (nI p) = zu_set (fun s => decide (ro s = 0) && decide (I 54 (7 * s) = nI p)) n := by
    rw [zs_ofp hsc _ hp]
    exact zu_set_cong fun i hi => by rw [show bt (zh_W n ro 0) i = _ from zu_set_at (by omega) hi]
  rw [hW, eset]
  unfold zh_nx
  generalize hP : (fun s => decide (ro s = 0) && decide (I 54 (7 * s) = nI p)) = P
  by_cases z : zu_set P n = 0
  · rw [if_neg (fun w => w z)]
    have al := (zu_set_zero (show n ≤ 32 by omega)).mp z
    rw [if_neg (fun w => by
      have := zu_fs_yes w
      rw [al _ w] at this
      cases this)]
  · rw [if_pos z]
    have e : zf_J6_numberOfTrailingZeros (M + 1) (zu_set P n) I J = some (zh_tz (zu_set P n), I, J) := by
      rw [zo_J6_numberOfTrailingZeros]
      exact zb_tz _ _ _ _ _
    refine zu_bd e ?_
    obtain ⟨k1, k2⟩ := zu_nat (x := zu_set P n) (fun i h1 h2 => zu_set_out (by omega) (by omega))
    have tz := zh_tzN k1 (fun w => z (by rw [k2, w]; rfl))
    rw [← k2] at tz
    have lt : zu_fs P n < n := by
      have le := zu_fs_le P n
      rcases Nat.lt_or_ge (zu_fs P n) n with q | q
      · exact q
      · exfalso
        apply z
        exact (zu_set_zero (by omega)).mpr (fun i hi => zu_fs_no (n := n) (by omega))
    have fe : zu_fs (fun i => bt (zu_set P n) i) 12 = zu_fs P n := zu_fs_one (by omega) (by rw [zu_set_at (by omega) lt]; exact zu_fs_yes lt) (fun j hj => by rw [zu_set_at (by omega) (by omega)]; exact zu_fs_no hj)
    rw [if_pos lt, tz, fe]
theorem zs_chhG {n : Nat} {I : Nat → Nat → Int32} {ro : Nat → Int32} (hn : n ≤ 12) (hr : zi_row n ro (I 8)) {m : Nat} (bt : ∀ a b, a < n → b < n → zv_X1_between I (nI a) (nI b) = zt_c m I a b) {s : Nat} (hs : s < n) : zv_X1_between I (I 8 1) (nI s) = zh_ch m (I 58) ro (I 54) s := by
  rw [hr.2.1]
  unfold zh_ch
  rcases hr.2.2.2.2.2.2.2.2.2.2 with e | ⟨l, hl, e⟩
  · rw [e, if_pos rfl]
    unfold zv_X1_between
    rw [if_pos (by decide)]
  · have ne : ¬ nI l = -1 := fun q => nI_pos (n := l) (by omega) (by rw [q]; decide)
    rw [e, if_neg ne, bt l s hl hs, nI_clamp (by omega)]
    rfl
theorem zs_perfG {n : Nat} {I : Nat → Nat → Int32} {ro : Nat → Int32} (hsc : zi_sc n I) (hr : zi_row n ro (I 8)) {s p : Nat} (hs : s < n) (hp : p ≤ 1) (hpl : I 54 (7 * s) = nI p) (h0 : ro s = 0) (ch : Int32) : zi_row n (zh_pl ro (I 54) s p ch) (zz_perfm I (nI s) ch 8) ∧ zz_perfv I (nI s) ch = zh_bq ro (I 54) s p ∧ (∀ x, x ≠ 8 → zz_perfm I (nI s) ch x = I x) ∧ zz_perfm I (nI s) ch 8 0 = zh_pl ro (I 54) s p ch 12 := by
  have hn := hsc.1
  have f0 : zz_f I (nI s) 0 = nI p := by rw [zu_cf0 (by omega), hsc.2.2.2.1 _ (by omega)]; exact hpl
  have f1 : zz_f I (nI s) 1 = I 54 (7 * s + 1) := by rw [zu_cf1 (by omega), hsc.2.2.2.1 _ (by omega)]
  obtain ⟨a0, a1, a2, a3, a4, a5, a6, a7, a8, a9, a10⟩ := hr
  have kn : zz_kn I (nI p) = ro (14 + p) := by
    rcases (by omega : p = 0 ∨ p = 1) with rfl | rfl
    · exact a5
    · exact a6
  have cq : zz_cheer I (nI s) (zz_kn I (zz_f I (nI s) 0)) = zh_bq ro (I 54) s p := by
    rw [f0, kn, zs_cheer hsc hs]
    rfl
  have up : ∀ i, i < 12 → zh_pl ro (I 54) s p ch i = zh_up ro s 1 i := fun i hi => by
    unfold zh_pl zh_up
    rw [if_neg (by omega)]
    by_cases e : i = s
    · rw [if_pos e, if_pos e]
    · rw [if_neg e, if_neg e, if_neg (by omega), if_neg (by omega), if_neg (by omega)]
  have st : ∀ w : Int32, zu_set (fun i => decide (zh_pl ro (I 54) s p ch i = w)) n = zu_set (fun i => decide (zh_up ro s 1 i = w)) n := fun w => zu_set_cong fun i hi => by rw [up i (by omega)]
  have v12 : zh_pl ro (I 54) s p ch 12 = ro 12 + (ch + I 54 (7 * s + 1)) := by
    unfold zh_pl zh_up
    rw [if_neg (by omega), if_neg (by omega), if_neg (by omega), if_neg (by omega), if_pos rfl]
  have v13 : zh_pl ro (I 54) s p ch 13 = nI s := by
    unfold zh_pl zh_up
    rw [if_pos rfl]
  have vk : ∀ q, q ≤ 1 → zh_pl ro (I 54) s p ch (14 + q) = if q = p then zh_kb (I 54 (7 * s + 4)) (ro (14 + p)) else ro (14 + q) := fun q hq => by
    unfold zh_pl zh_up
    rw [if_neg (by omega), if_neg (by omega), if_neg (by omega)]
    by_cases e : q = p
    · rw [if_pos (by omega), if_pos e]
    · rw [if_neg (by omega), if_neg (by omega), if_neg e]
  have vc : ∀ q, q ≤ 1 → zh_pl ro (I 54) s p ch (16 + q) = if q = p then ro (16 + p) + zh_bq ro (I 54) s p else ro (16 + q) := fun q hq => by
    unfold zh_pl zh_up
    rw [if_neg (by omega), if_neg (by omega)]
    by_cases e : q = p
    · rw [if_pos (by omega), if_pos e]
    · rw [if_neg (by omega), if_neg (by omega), if_neg (by omega), if_neg e]
  have fk := zs_fact hsc hs (ro (14 + p))
  refine ⟨?_, cq, fun x hx => ?_, ?_⟩
  · unfold zz_perfm
    rw [cq, f0, f1]
    have d2 : I 8 2 &&& (((1 : Int32) <<< (nI s &&& 31)) ^^^ (-1)) = zu_set (fun i => decide (zh_up ro s 1 i = 0)) n := by
      rw [a2]; exact (zu_upD hn hs (by decide)).symm
    have d3 : I 8 3 ||| ((1 : Int32) <<< (nI s &&& 31)) = zu_set (fun i => decide (zh_up ro s 1 i = 1)) n := by
      rw [a3]; exact (zu_upS hn hs).symm
    have d4 : I 8 4 = zu_set (fun i => decide (zh_up ro s 1 i = 2)) n := by
      rw [a4]; exact (zu_upN (by decide) (by rw [h0]; decide)).symm
    have h9 : ∀ i, i < n → zh_pl ro (I 54) s p ch i = 0 ∨ zh_pl ro (I 54) s p ch i = 1 ∨ zh_pl ro (I 54) s p ch i = 2 := fun i hi => by
      rw [up i (by omega)]
      unfold zh_up
      split
      · exact .inr (.inl rfl)
      · exact a9 i hi
    rcases (by omega : p = 0 ∨ p = 1) with rfl | rfl
    · rw [if_neg (show ¬ ¬ nI 0 = 0 from fun w => w rfl)]
      refine ⟨?_, v13.symm, (d2.trans (st 0).symm), (d3.trans (st 1).symm), (d4.trans (st 2).symm), ?_, ?_, ?_, ?_, h9, .inr ⟨s, hs, v13⟩⟩
      · rw [v12, ← a0]; rfl
      · rw [show (14 : Nat) = 14 + 0 from rfl, vk 0 (by omega), if_pos rfl, ← fk]
        show I 8 5 ||| _ = _
        rw [a5]
      · rw [show (15 : Nat) = 14 + 1 from rfl, vk 1 (by omega), if_neg (by omega)]
        exact a6
      · rw [show (16 : Nat) = 16 + 0 from rfl, vc 0 (by omega), if_pos rfl]
        show I 8 7 + _ = _
        rw [a7]
      · rw [show (17 : Nat) = 16 + 1 from rfl, vc 1 (by omega), if_neg (by omega)]
        exact a8
    · rw [if_pos (show ¬ nI 1 = 0 by decide)]
      refine ⟨?_, v13.symm, (d2.trans (st 0).symm), (d3.trans (st 1).symm), (d4.trans (st 2).symm), ?_, ?_, ?_, ?_, h9, .inr ⟨s, hs, v13⟩⟩
      · rw [v12, ← a0]; rfl
      · rw [show (14 : Nat) = 14 + 0 from rfl, vk 0 (by omega), if_neg (by omega)]
        exact a5
      · rw [show (15 : Nat) = 14 + 1 from rfl, vk 1 (by omega), if_pos rfl, ← fk]
        show I 8 6 ||| _ = _
        rw [a6]
      · rw [show (16 : Nat) = 16 + 0 from rfl, vc 0 (by omega), if_neg (by omega)]
        exact a7
      · rw [show (17 : Nat) = 16 + 1 from rfl, vc 1 (by omega), if_pos rfl]
        show I 8 8 + _ = _
        rw [a8]
  · unfold zz_perfm
    split
    · rw [zu_ux hx, zu_ux hx, zu_ux hx, zu_ux hx, zu_ux hx, zu_ux hx]
    · rw [zu_ux hx, zu_ux hx, zu_ux hx, zu_ux hx, zu_ux hx, zu_ux hx]
  · rw [v12, ← a0, ← f1]
    unfold zz_perfm
    split
    · rfl
    · rfl
