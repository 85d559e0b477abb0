/-! A SCENE IS PLAYED -/
def zh_ch (m : Nat) (t a f : Nat → Int32) (s : Nat) : Int32 := if a 13 = -1 then 0 else zq_chg m t (fun w => f (7 * (a 13).toNatClampNeg + w)) (fun w => f (7 * s + w))
def zh_bq (a f : Nat → Int32) (s p : Nat) : Int32 := zh_br (f (7 * s + 5)) (f (7 * s + 6)) (a (14 + p))
def zh_pl (a f : Nat → Int32) (s p : Nat) (ch : Int32) : Nat → Int32 := zh_up (zh_up (zh_up (zh_up (zh_up a 12 (a 12 + (ch + f (7 * s + 1)))) (14 + p) (zh_kb (f (7 * s + 4)) (a (14 + p)))) (16 + p) (a (16 + p) + zh_bq a f s p)) s 1) 13 (nI s)
theorem zm_behind {N n : Nat} (hN : 100000 ≤ N) (hn : n ≤ 12) {I : Nat → Nat → Int32} {J : Nat → Nat → Int64} {F : zz_F} {m : Nat} {t : Nat → Int32} (h : zr_ru m t I F) (hl : I 53 13 = -1 ∨ ∃ l, l < n ∧ I 53 13 = nI l) {s : Nat} (hs : s < n) : ∃ I' F', zf_X12_behind__53 N (nI s) I J F = some (zh_ch m t (I 53) (I 54) s, I', J, F') ∧ zr_fr I I' ∧ zF_re F F' := by
  unfold zh_ch
  rcases hl with e | ⟨l, hl, e⟩
  · refine ⟨I, F, ?_, zr_fr_refl I, zF_refl F⟩
    obtain ⟨M, rfl⟩ := zu_one N hN
    rw [zo_X12_behind__53]
    unfold zb_X12_behind__53_0
    rw [e, if_neg (fun w => w rfl), if_pos rfl]
  · have ne : ¬ nI l = -1 := fun q => nI_pos (n := l) (by omega) (by rw [q]; decide)
    obtain ⟨I', F', e1, e2, e3⟩ := zm_chg hN (J := J) h (show l < 12 by omega) (show s < 12 by omega)
    refine ⟨I', F', ?_, e2, e3⟩
    obtain ⟨M, rfl⟩ := zu_one N hN
    rw [zo_X12_behind__53]
    unfold zb_X12_behind__53_0
    rw [e, if_pos ne, if_neg ne, nI_clamp (by omega)]
    exact zu_bd e1 rfl
theorem zm_go {N n : Nat} (hN : 100000 ≤ N) (hn : n ≤ 12) {I : Nat → Nat → Int32} {J : Nat → Nat → Int64} {F : zz_F} {m : Nat} {t : Nat → Int32} (h : zr_ru m t I F) (hl : I 53 13 = -1 ∨ ∃ l, l < n ∧ I 53 13 = nI l) {s p : Nat} (hs : s < n) (hp : p ≤ 1) (hpl : I 54 (7 * s) = nI p) : ∃ I' F', zf_X12_goPlay__53 N (nI s) I J F = some (zh_bq (I 53) (I 54) s p, zh_r I' 53 (zh_pl (I 53) (I 54) s p (zh_ch m t (I 53) (I 54) s)), J, F') ∧ zr_fr I I' ∧ zF_re F F' := by
  obtain ⟨X, F', e1, e2, e3⟩ := zm_behind hN hn (J := J) h hl hs
  refine ⟨X, F', ?_, e2, e3⟩
  have x53 : X 53 = I 53 := e2.1 53 (by omega) (by omega)
  have x54 : X 54 = I 54 := e2.1 54 (by omega) (by omega)
  have s12 : s < 12 := by omega
  have i14 : (14 : Int32) + zv_X12_playOf I (nI s) = nI (14 + p) := by rw [zu_play s12, hpl]; exact nI_add 14 p
  have i16 : (16 : Int32) + zv_X12_playOf I (nI s) = nI (16 + p) := by rw [zu_play s12, hpl]; exact nI_add 16 p
  have r14 : ∀ v : Int32, zz_u X 53 12 v 53 (14 + p) = I 53 (14 + p) := fun v => by rw [zz_un (by omega), x53]
  obtain ⟨M, rfl⟩ := zu_one N hN
  rw [zo_X12_goPlay__53]
  unfold zb_X12_goPlay__53_0
  rw [i14, i16]
  refine zu_gd (by rw [zu_70]; exact nI_in (show 7 * s + 0 < 84 by omega) (by omega)) (zu_bd e1 (zu_gd (by rw [zu_71]; exact nI_in (show 7 * s + 1 < 84 by omega) (by omega)) (zu_gd (nI_in (show 14 + p < 18 by omega) (by omega)) (zu_gd (by rw [zu_75]; exact nI_in (show 7 * s + 5 < 84 by omega) (by omega)) (zu_gd (fun _ => by rw [zu_76]; exact nI_in (show 7 * s + 6 < 84 by omega) (by omega)) (zu_gd (fun _ => by rw [zu_76]; exact nI_in (show 7 * s + 6 < 84 by omega) (by omega)) (zu_gd (by rw [zu_74]; exact nI_in (show 7 * s + 4 < 84 by omega) (by omega)) (zu_gd (nI_in (show 16 + p < 18 by omega) (by omega)) (zu_gd (nI_in (show s < 18 by omega) (by omega)) ?_)))))))))
  dsimp only
  rw [nI_clamp (show 14 + p < 2 ^ 31 by omega), nI_clamp (show 16 + p < 2 ^ 31 by omega), nI_clamp (show s < 2 ^ 31 by omega), r14, zm_br s12, zm_kb s12, zu_f1 s12, x54, zu_ux (show 54 ≠ 53 by omega), x54]
  have r16 : ∀ v w : Int32, zz_u (zz_u X 53 12 v) 53 (14 + p) w 53 (16 + p) = I 53 (16 + p) := fun v w => by rw [zz_un (by omega), zz_un (by omega), x53]
  rw [r16]
  congr 2
  congr 1
  have row : ∀ (Y : Nat → Nat → Int32) (g : Nat → Int32) (k : Nat) (v : Int32), Y 53 = g → zz_u Y 53 k v = zh_r Y 53 (zh_up g k v) := fun Y g k v hg => by
    rw [← hg]
    funext b j
    unfold zz_u zh_r zh_up
    by_cases q : b = 53
    · subst q; by_cases w : j = k <;> simp [w]
    · simp [q]
  have rr : ∀ (g g' : Nat → Int32), zh_r (zh_r X 53 g) 53 g' = zh_r X 53 g' := fun g g' => by
    funext b j
    unfold zh_r
    split <;> rfl
  rw [row X (I 53) 12 _ x53, row _ _ (14 + p) _ (funext fun j => zh_rr _ _ _ j), rr, row _ _ (16 + p) _ (funext fun j => zh_rr _ _ _ j), rr, row _ _ s _ (funext fun j => zh_rr _ _ _ j), rr, row _ _ 13 _ (funext fun j => zh_rr _ _ _ j), rr]
  rfl
/-- the class's change ahead of a scene -/
theorem zs_chh {n : Nat} {I : Nat → Nat → Int32} {J : Nat → Nat → Int64} {F : zz_F} (h : zi n I J F) {m : Nat} (bt : ∀ a b, a < n → b < n → zv_X1_between I (nI a) (nI b) = zt_c m I a b) {s : Nat} (hs : s < n) : zv_X1_between I (I 8 1) (nI s) = zh_ch m (I 58) (I 53) (I 54) s := by
  have hn := h.1.1
  rw [h.2.1.2.1]
  unfold zh_ch
  rcases h.2.1.2.2.2.2.2.2.2.2.2.2 with e | ⟨l, hl, e⟩
  · rw [e, if_pos rfl]
    unfold zv_X1_between
    rw [if_pos (by decide)]
  · have ne : ¬ nI l = -1 := fun q => nI_pos (n := l) (by omega) (by rw [q]; decide)
    rw [e, if_neg ne, bt l s hl hs, nI_clamp (by omega)]
    rfl
theorem zs_perf {n : Nat} {I : Nat → Nat → Int32} (hsc : zi_sc n I) (hr : zi_row n (I 53) (I 8)) {s p : Nat} (hs : s < n) (hp : p ≤ 1) (hpl : I 54 (7 * s) = nI p) (h0 : I 53 s = 0) (ch : Int32) : zi_row n (zh_pl (I 53) (I 54) s p ch) (zz_perfm I (nI s) ch 8) ∧ zz_perfv I (nI s) ch = zh_bq (I 53) (I 54) s p ∧ (∀ x, x ≠ 8 → zz_perfm I (nI s) ch x = I x) ∧ zz_perfm I (nI s) ch 8 0 = zh_pl (I 53) (I 54) s p ch 12 := by
  have hn := hsc.1
  have f0 : zz_f I (nI s) 0 = nI p := by rw [zu_cf0 (by omega), hsc.2.2.2.1 _ (by omega)]; exact hpl
  have f1 : zz_f I (nI s) 1 = I 54 (7 * s + 1) := by rw [zu_cf1 (by omega), hsc.2.2.2.1 _ (by omega)]
  obtain ⟨a0, a1, a2, a3, a4, a5, a6, a7, a8, a9, a10⟩ := hr
  have kn : zz_kn I (nI p) = I 53 (14 + p) := by
    rcases (by omega : p = 0 ∨ p = 1) with rfl | rfl
    · exact a5
    · exact a6
  have cq : zz_cheer I (nI s) (zz_kn I (zz_f I (nI s) 0)) = zh_bq (I 53) (I 54) s p := by
    rw [f0, kn, zs_cheer hsc hs]
    rfl
  have up : ∀ i, i < 12 → zh_pl (I 53) (I 54) s p ch i = zh_up (I 53) s 1 i := fun i hi => by
    unfold zh_pl zh_up
    rw [if_neg (by omega)]
    by_cases e : i = s
    · rw [if_pos e, if_pos e]
    · rw [if_neg e, if_neg e, if_neg (by omega), if_neg (by omega), if_neg (by omega)]
  have st : ∀ w : Int32, zu_set (fun i => decide (zh_pl (I 53) (I 54) s p ch i = w)) n = zu_set (fun i => decide (zh_up (I 53) s 1 i = w)) n := fun w => zu_set_cong fun i hi => by rw [up i (by omega)]
  have v12 : zh_pl (I 53) (I 54) s p ch 12 = I 53 12 + (ch + I 54 (7 * s + 1)) := by
    unfold zh_pl zh_up
    rw [if_neg (by omega), if_neg (by omega), if_neg (by omega), if_neg (by omega), if_pos rfl]
  have v13 : zh_pl (I 53) (I 54) s p ch 13 = nI s := by
    unfold zh_pl zh_up
    rw [if_pos rfl]
  have vk : ∀ q, q ≤ 1 → zh_pl (I 53) (I 54) s p ch (14 + q) = if q = p then zh_kb (I 54 (7 * s + 4)) (I 53 (14 + p)) else I 53 (14 + q) := fun q hq => by
    unfold zh_pl zh_up
    rw [if_neg (by omega), if_neg (by omega), if_neg (by omega)]
    by_cases e : q = p
    · rw [if_pos (by omega), if_pos e]
    · rw [if_neg (by omega), if_neg (by omega), if_neg e]
  have vc : ∀ q, q ≤ 1 → zh_pl (I 53) (I 54) s p ch (16 + q) = if q = p then I 53 (16 + p) + zh_bq (I 53) (I 54) s p else I 53 (16 + q) := fun q hq => by
    unfold zh_pl zh_up
    rw [if_neg (by omega), if_neg (by omega)]
    by_cases e : q = p
    · rw [if_pos (by omega), if_pos e]
    · rw [if_neg (by omega), if_neg (by omega), if_neg (by omega), if_neg e]
  have fk := zs_fact hsc hs (I 53 (14 + p))
  refine ⟨?_, cq, fun x hx => ?_, ?_⟩
  · unfold zz_perfm
    rw [cq, f0, f1]
    have d2 : I 8 2 &&& (((1 : Int32) <<< (nI s &&& 31)) ^^^ (-1)) = zu_set (fun i => decide (zh_up (I 53) s 1 i = 0)) n := by
      rw [a2]; exact (zu_upD hn hs (by decide)).symm
    have d3 : I 8 3 ||| ((1 : Int32) <<< (nI s &&& 31)) = zu_set (fun i => decide (zh_up (I 53) s 1 i = 1)) n := by
      rw [a3]; exact (zu_upS hn hs).symm
    have d4 : I 8 4 = zu_set (fun i => decide (zh_up (I 53) s 1 i = 2)) n := by
      rw [a4]; exact (zu_upN (by decide) (by rw [h0]; decide)).symm
    have h9 : ∀ i, i < n → zh_pl (I 53) (I 54) s p ch i = 0 ∨ zh_pl (I 53) (I 54) s p ch i = 1 ∨ zh_pl (I 53) (I 54) s p ch i = 2 := fun i hi => by
      rw [up i (by omega)]
      unfold zh_up
      split
      · exact .inr (.inl rfl)
      · exact a9 i hi
    rcases (by omega : p = 0 ∨ p = 1) with rfl | rfl
    · rw [if_neg (show ¬ ¬ nI 0 = 0 from fun w => w rfl)]
      refine ⟨?_, v13.symm, (d2.trans (st 0).symm), (d3.trans (st 1).symm), (d4.trans (st 2).symm), ?_, ?_, ?_, ?_, h9, .inr ⟨s, hs, v13⟩⟩
      · rw [v12, ← a0]; rfl
      · rw [show (14 : Nat) = 14 + 0 from rfl, vk 0 (by omega), if_pos rfl, ← fk]
        show I 8 5 ||| _ = _
        rw [a5]
      · rw [show (15 : Nat) = 14 + 1 from rfl, vk 1 (by omega), if_neg (by omega)]
        exact a6
      · rw [show (16 : Nat) = 16 + 0 from rfl, vc 0 (by omega), if_pos rfl]
        show I 8 7 + _ = _
        rw [a7]
      · rw [show (17 : Nat) = 16 + 1 from rfl, vc 1 (by omega), if_neg (by omega)]
        exact a8
    · rw [if_pos (show ¬ nI 1 = 0 by decide)]
      refine ⟨?_, v13.symm, (d2.trans (st 0).symm), (d3.trans (st 1).symm), (d4.trans (st 2).symm), ?_, ?_, ?_, ?_, h9, .inr ⟨s, hs, v13⟩⟩
      · rw [v12, ← a0]; rfl
      · rw [show (14 : Nat) = 14 + 0 from rfl, vk 0 (by omega), if_neg (by omega)]
        exact a5
      · rw [show (15 : Nat) = 14 + 1 from rfl, vk 1 (by omega), if_pos rfl, ← fk]
        show I 8 6 ||| _ = _
        rw [a6]
      · rw [show (16 : Nat) = 16 + 0 from rfl, vc 0 (by omega), if_neg (by omega)]
        exact a7
      · rw [show (17 : Nat) = 16 + 1 from rfl, vc 1 (by omega), if_pos rfl]
        show I 8 8 + _ = _
        rw [a8]
  · unfold zz_perfm
    split
    · rw [zu_ux hx, zu_ux hx, zu_ux hx, zu_ux hx, zu_ux hx, zu_ux hx]
    · rw [zu_ux hx, zu_ux hx, zu_ux hx, zu_ux hx, zu_ux hx, zu_ux hx]
  · rw [v12, ← a0, ← f1]
    unfold zz_perfm
    split
    · rfl
    · rfl
