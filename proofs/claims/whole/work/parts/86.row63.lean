/-! THE SAME OVER THE ROW OF years(); printed out of 83 and 84 -/
theorem zm_next63_l {N n : Nat} (hN : 100000 ≤ N) (hn : n ≤ 12) {I : Nat → Nat → Int32} {J : Nat → Nat → Int64} (h1 : I 52 1 = nI n) {p : Nat} : ∀ k s u, s + k = n → k < u → (∀ j, j < s → (decide (I 63 j = 0) && decide (I 54 (7 * j) = nI p)) = false) → zl_X12_nextOf__63 N u 2 (nI p) (nI s) I J = some (zh_nx n (I 63) (I 54) p, I, J) := by
  intro k
  induction k with
  | zero =>
    intro s u hs hu hj
    obtain ⟨m, rfl⟩ : ∃ m, u = m + 1 := ⟨u - 1, by omega⟩
    obtain rfl : s = n := by omega
    rw [zo_X12_nextOf__63_2]
    unfold zb_X12_nextOf__63_2
    rw [h1, if_pos (nI_le (Nat.le_refl s) (by omega))]
    unfold zh_nx
    rw [if_neg (fun w => by
      have := zu_fs_yes w
      rw [hj _ w] at this
      cases this)]
  | succ k ih =>
    intro s u hs hu hj
    obtain ⟨m, rfl⟩ : ∃ m, u = m + 1 := ⟨u - 1, by omega⟩
    rw [zo_X12_nextOf__63_2]
    unfold zb_X12_nextOf__63_2
    rw [h1, if_neg (nI_ge (show s < n by omega) (by omega))]
    simp (disch := omega) only [nI_clamp, nI_leI, nI_ltI, nI_eq, nI_1, zu_gi, zu_lt0, zu_has, zu_b1, zu_b0, zu_bz, zu_play, zu_or0, zu_nle, false_or, or_false, Option.bind_some, if_true, if_false, ite_true, ite_false, not_true_eq_false, not_false_eq_true, decide_eq_true_eq, zu_f0, zu_f1, zu_f2, zu_f3, zu_f4, zu_f5, zu_f6, zu_cf0, zu_cf1, zu_cf2, zu_cf3, zu_cf4, zu_cf5, zu_cf6, zu_70, zu_71, zu_72, zu_73, zu_74, zu_75, zu_76]
    by_cases c : I 63 s = 0
    · by_cases d : I 54 (7 * s) = nI p
      · simp only [c, d, not_true_eq_false, if_false]
        unfold zh_nx
        rw [zu_fs_one (p := fun s => decide (I 63 s = 0) && decide (I 54 (7 * s) = nI p)) (show s < n by omega) (by simp [c, d]) hj, if_pos (by omega)]
      · simp only [c, d, not_true_eq_false, not_false_eq_true, if_false, if_true]
        exact ih (s + 1) m (by omega) (by omega) (fun j hjs => by
          by_cases e : j = s
          · subst e; simp [d]
          · exact hj j (by omega))
    · simp only [c, not_false_eq_true, if_true]
      exact ih (s + 1) m (by omega) (by omega) (fun j hjs => by
        by_cases e : j = s
        · subst e; simp [c]
        · exact hj j (by omega))
theorem zm_next63 {N n : Nat} (hN : 100000 ≤ N) (hn : n ≤ 12) {I : Nat → Nat → Int32} {J : Nat → Nat → Int64} (h1 : I 52 1 = nI n) (p : Nat) : zf_X12_nextOf__63 N (nI p) I J = some (zh_nx n (I 63) (I 54) p, I, J) := by
  obtain ⟨M, rfl⟩ := zu_one N hN
  rw [zo_X12_nextOf__63]
  exact zm_next63_l hN hn h1 n 0 M (by omega) (by omega) (fun j hj => by omega)
theorem zm_behind63 {N n : Nat} (hN : 100000 ≤ N) (hn : n ≤ 12) {I : Nat → Nat → Int32} {J : Nat → Nat → Int64} {F : zz_F} {m : Nat} {t : Nat → Int32} (h : zr_ru m t I F) (hl : I 63 13 = -1 ∨ ∃ l, l < n ∧ I 63 13 = nI l) {s : Nat} (hs : s < n) : ∃ I' F', zf_X12_behind__63 N (nI s) I J F = some (zh_ch m t (I 63) (I 54) s, I', J, F') ∧ zr_fr I I' ∧ zF_re F F' := by
  unfold zh_ch
  rcases hl with e | ⟨l, hl, e⟩
  · refine ⟨I, F, ?_, zr_fr_refl I, zF_refl F⟩
    obtain ⟨M, rfl⟩ := zu_one N hN
    rw [zo_X12_behind__63]
    unfold zb_X12_behind__63_0
    rw [e, if_neg (fun w => w rfl), if_pos rfl]
  · have ne : ¬ nI l = -1 := fun q => nI_pos (n := l) (by omega) (by rw [q]; decide)
    obtain ⟨I', F', e1, e2, e3⟩ := zm_chg hN (J := J) h (show l < 12 by omega) (show s < 12 by omega)
    refine ⟨I', F', ?_, e2, e3⟩
    obtain ⟨M, rfl⟩ := zu_one N hN
    rw [zo_X12_behind__63]
    unfold zb_X12_behind__63_0
    rw [e, if_pos ne, if_neg ne, nI_clamp (by omega)]
    exact zu_bd e1 rfl
theorem zm_go63 {N n : Nat} (hN : 100000 ≤ N) (hn : n ≤ 12) {I : Nat → Nat → Int32} {J : Nat → Nat → Int64} {F : zz_F} {m : Nat} {t : Nat → Int32} (h : zr_ru m t I F) (hl : I 63 13 = -1 ∨ ∃ l, l < n ∧ I 63 13 = nI l) {s p : Nat} (hs : s < n) (hp : p ≤ 1) (hpl : I 54 (7 * s) = nI p) : ∃ I' F', zf_X12_goPlay__63 N (nI s) I J F = some (zh_bq (I 63) (I 54) s p, zh_r I' 63 (zh_pl (I 63) (I 54) s p (zh_ch m t (I 63) (I 54) s)), J, F') ∧ zr_fr I I' ∧ zF_re F F' := by
  obtain ⟨X, F', e1, e2, e3⟩ := zm_behind63 hN hn (J := J) h hl hs
  refine ⟨X, F', ?_, e2, e3⟩
  have x63 : X 63 = I 63 := e2.1 63 (by omega) (by omega)
  have x54 : X 54 = I 54 := e2.1 54 (by omega) (by omega)
  have s12 : s < 12 := by omega
  have i14 : (14 : Int32) + zv_X12_playOf I (nI s) = nI (14 + p) := by rw [zu_play s12, hpl]; exact nI_add 14 p
  have i16 : (16 : Int32) + zv_X12_playOf I (nI s) = nI (16 + p) := by rw [zu_play s12, hpl]; exact nI_add 16 p
  have r14 : ∀ v : Int32, zz_u X 63 12 v 63 (14 + p) = I 63 (14 + p) := fun v => by rw [zz_un (by omega), x63]
  obtain ⟨M, rfl⟩ := zu_one N hN
  rw [zo_X12_goPlay__63]
  unfold zb_X12_goPlay__63_0
  rw [i14, i16]
  refine zu_gd (by rw [zu_70]; exact nI_in (show 7 * s + 0 < 84 by omega) (by omega)) (zu_bd e1 (zu_gd (by rw [zu_71]; exact nI_in (show 7 * s + 1 < 84 by omega) (by omega)) (zu_gd (nI_in (show 14 + p < 18 by omega) (by omega)) (zu_gd (by rw [zu_75]; exact nI_in (show 7 * s + 5 < 84 by omega) (by omega)) (zu_gd (fun _ => by rw [zu_76]; exact nI_in (show 7 * s + 6 < 84 by omega) (by omega)) (zu_gd (fun _ => by rw [zu_76]; exact nI_in (show 7 * s + 6 < 84 by omega) (by omega)) (zu_gd (by rw [zu_74]; exact nI_in (show 7 * s + 4 < 84 by omega) (by omega)) (zu_gd (nI_in (show 16 + p < 18 by omega) (by omega)) (zu_gd (nI_in (show s < 18 by omega) (by omega)) ?_)))))))))
  dsimp only
  rw [nI_clamp (show 14 + p < 2 ^ 31 by omega), nI_clamp (show 16 + p < 2 ^ 31 by omega), nI_clamp (show s < 2 ^ 31 by omega), r14, zm_br s12, zm_kb s12, zu_f1 s12, x54, zu_ux (show 54 ≠ 63 by omega), x54]
  have r16 : ∀ v w : Int32, zz_u (zz_u X 63 12 v) 63 (14 + p) w 63 (16 + p) = I 63 (16 + p) := fun v w => by rw [zz_un (by omega), zz_un (by omega), x63]
  rw [r16]
  congr 2
  congr 1
  have row : ∀ (Y : Nat → Nat → Int32) (g : Nat → Int32) (k : Nat) (v : Int32), Y 63 = g → zz_u Y 63 k v = zh_r Y 63 (zh_up g k v) := fun Y g k v hg => by
    rw [← hg]
    funext b j
    unfold zz_u zh_r zh_up
    by_cases q : b = 63
    · subst q; by_cases w : j = k <;> simp [w]
    · simp [q]
  have rr : ∀ (g g' : Nat → Int32), zh_r (zh_r X 63 g) 63 g' = zh_r X 63 g' := fun g g' => by
    funext b j
    unfold zh_r
    split <;> rfl
  rw [row X (I 63) 12 _ x63, row _ _ (14 + p) _ (funext fun j => zh_rr _ _ _ j), rr, row _ _ (16 + p) _ (funext fun j => zh_rr _ _ _ j), rr, row _ _ s _ (funext fun j => zh_rr _ _ _ j), rr, row _ _ 13 _ (funext fun j => zh_rr _ _ _ j), rr]
  rfl
