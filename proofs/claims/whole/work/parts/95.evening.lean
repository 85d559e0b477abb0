/-! EVENING -/
theorem zs_freshG {N n : Nat} (hN : 100000 ≤ N) {I : Nat → Nat → Int32} {J : Nat → Nat → Int64} (hsc : zi_sc n I) (hru : zi_rul n I) : ∃ I', zf_X1_refresh__5 N I J = some (0, I', J) ∧ zi_rul n I' ∧ I' 28 4 = 1 ∧ (∀ x, x ≠ 28 → x ≠ 30 → x ≠ 31 → I' x = I x) ∧ ∀ i, i ≠ 4 → I' 28 i = I 28 i := by
  have hn := hsc.1
  have hru' := hru
  obtain ⟨m, cs, m40, c40, m16, c3, ok, ev, f01, tb⟩ := hru
  obtain ⟨M, rfl⟩ := zu_one N hN
  rw [zo_X1_refresh__5]
  unfold zb_X1_refresh__5_0
  rcases f01 with f | f
  · rw [f, if_pos rfl]
    have mn : zz_min (I 5 2) 12 = nI n := by
      rw [hsc.2.2.1]
      unfold zz_min
      by_cases q : n = 12
      · subst q; rfl
      · rw [if_neg (show ¬ (12 : Int32) < nI n from nI_nlt (a := 12) (by omega) (by omega))]
    rw [mn]
    obtain ⟨X, e1, e2, e3⟩ := zs_fresh_o hN (J := J) hsc c40 c3 ev n 0 M I (by omega) (by omega) (fun _ _ _ => rfl) (fun a' b' _ _ w => by omega)
    have E : ∀ x, x ≠ 28 → x ≠ 30 → x ≠ 31 → zz_u X 28 4 1 x = I x := fun x h28 h30 h31 => by rw [zu_ux h28, e2 x h30 h31]
    have E28 : ∀ i, i ≠ 4 → zz_u X 28 4 1 28 i = I 28 i := fun i hi => by rw [zz_un (fun w => hi w.2), e2 28 (by omega) (by omega)]
    refine ⟨_, e1, ⟨m, cs, m40, c40, by rw [E 52 (by omega) (by omega) (by omega)]; exact m16, by rw [E28 3 (by omega)]; exact c3, by rw [E 58 (by omega) (by omega) (by omega)]; exact ok, by rw [E 29 (by omega) (by omega) (by omega), E 58 (by omega) (by omega) (by omega)]; exact ev, .inr rfl, fun _ a b ha hb => ?_⟩, rfl, E, E28⟩
    rw [zu_ux (show 31 ≠ 28 by omega), e3 a b ha hb, E 54 (by omega) (by omega) (by omega), E 58 (by omega) (by omega) (by omega)]
    rfl
  · rw [f, if_neg (by decide)]
    exact ⟨I, rfl, hru', f, fun _ _ _ _ => rfl, fun _ _ => rfl⟩
theorem zs_betwG {n : Nat} {I : Nat → Nat → Int32} {F : zz_F} (hn : n ≤ 12) (hru : zi_rul n I) (hF : zi_F F) (hf : I 28 4 = 1) : ∃ m, zr_ru m (I 58) I F ∧ ∀ a b, a < n → b < n → zv_X1_between I (nI a) (nI b) = zt_c m I a b := by
  obtain ⟨m, cs, m40, c40, m16, c3, ok, ev, f01, tb⟩ := hru
  refine ⟨m, ⟨m40, m16, rfl, ok, hF.2.1⟩, fun a b ha hb => ?_⟩
  unfold zv_X1_between
  have ix : nI a * 12 + nI b = nI (12 * a + b) := by
    rw [show nI a * 12 = nI (a * 12) from pk_mul a 12, nI_add, Nat.mul_comm a 12]
  rw [if_neg (nI_pos (by omega)), if_neg (show ¬ (12 : Int32) ≤ nI a from nI_ge (b := 12) (by omega) (by omega)), if_neg (nI_pos (by omega)), if_pos (show nI b < 12 from nI_lt (b := 12) (by omega) (by omega)), ix, nI_clamp (by omega), tb hf a b ha hb]
  rfl
theorem zi_gen {n : Nat} {I I2 : Nat → Nat → Int32} {J J2 : Nat → Nat → Int64} {F F2 : zz_F} (h : zi n I J F) (hk : ∀ a i, zk_k a i = true → a ≠ 8 → a ≠ 53 → I2 a i = I a i) (hr : zi_row n (I2 53) (I2 8)) (ht : zi_tol I2 J2) (hF : zi_F F2) : zi n I2 J2 F2 := by
  have o : ∀ a, a ≠ 8 → a ≠ 53 → zh_r (zh_r I 53 (I2 53)) 8 (I2 8) a = I a := fun a h1 h2 => by rw [zu_rx h1, zu_rx h2]
  have o8 : zh_r (zh_r I 53 (I2 53)) 8 (I2 8) 8 = I2 8 := funext fun j => zh_rr _ _ _ j
  have o53 : zh_r (zh_r I 53 (I2 53)) 8 (I2 8) 53 = I2 53 := by rw [zu_rx (by omega)]; exact funext fun j => zh_rr _ _ _ j
  refine zi_told (zi_back (Y := zh_r (zh_r I 53 (I2 53)) 8 (I2 8)) h (fun a h1 _ _ h2 => o a h1 h2) (fun i _ _ => by rw [o 52 (by omega) (by omega)]) (by rw [o8, o53]; exact hr) (zc_rng h.2.2.2.2.2.1 (by rw [o 9 (by omega) (by omega)]) (by rw [o 9 (by omega) (by omega)]) (by rw [o 52 (by omega) (by omega)]) (o 61 (by omega) (by omega)) (fun k hk => o _ (by omega) (by omega)))) (fun a i hz => ?_) ht hF
  by_cases q : a = 8
  · subst q; rw [o8]
  by_cases q2 : a = 53
  · subst q2; rw [o53]
  rw [o a q q2]
  exact hk a i hz q q2
/-- the text is taken -/
theorem zi_emp {n : Nat} {I : Nat → Nat → Int32} {J : Nat → Nat → Int64} {F : zz_F} (h : zi n I J F) : zi n (zz_u (zz_u I 2 1 0) 52 4 0) J F := by
  have o : ∀ a, a ≠ 2 → a ≠ 52 → zz_u (zz_u I 2 1 0) 52 4 0 a = I a := fun a h1 h2 => by rw [zu_ux h2, zu_ux h1]
  obtain ⟨h1, h2, h3, h4, h5, h6, h7, h8, h9⟩ := h
  refine ⟨zc_sc h1 (congrFun (o 5 (by omega) (by omega)) 2) (o 6 (by omega) (by omega)) (o 7 (by omega) (by omega)) rfl (o 54 (by omega) (by omega)), ?_, ⟨⟨0, by omega, rfl, rfl⟩, ?_⟩, zc_tol h4 rfl rfl rfl rfl, zc_bow h5 rfl rfl rfl rfl, zc_rng h6 rfl rfl rfl rfl (fun k hk => o _ (by omega) (by omega)), zc_shl h7 rfl rfl rfl rfl rfl (fun k hk => o _ (by omega) (by omega)), zc_rul h8 rfl rfl rfl rfl rfl rfl rfl, h9⟩
  · rw [o 53 (by omega) (by omega), o 8 (by omega) (by omega)]; exact h2
  · rw [o 3 (by omega) (by omega), o 55 (by omega) (by omega)]; exact h3.2
theorem zm_begin {N : Nat} (hN : 100000 ≤ N) (top : Int32) (P : Nat → Nat → Int32) (J : Nat → Nat → Int64) (F : zz_F) : zf_X12_beginText N top P J F = some (0, zr_m (zz_u (zz_u (zz_u P 52 9 (P 52 4)) 52 10 top) 52 4 0) 0 (-1), J, zz_Fre F (some 55)) := by
  obtain ⟨M, rfl⟩ := zu_one N hN
  have eb : zf_X12_begin (M + 1) 55 (P 52 4) top P J F = some (0, zz_u (zz_u (zz_u (zz_u P 52 9 (P 52 4)) 52 10 top) 52 11 0) 52 12 (-1), J, zz_Fre F (some 55)) := by
    rw [zo_X12_begin]
    rfl
  rw [zo_X12_beginText]
  refine zu_bd eb ?_
  show some ((0 : Int32), zz_u (zz_u (zz_u (zz_u (zz_u P 52 9 (P 52 4)) 52 10 top) 52 11 0) 52 12 (-1)) 52 4 0, J, zz_Fre F (some 55)) = _
  congr 3
  generalize P 52 4 = p4
  funext b j
  unfold zr_m zz_u
  by_cases q : b = 52
  · subst q
    by_cases q1 : j = 4
    · subst q1; simp
    · by_cases q2 : j = 12
      · subst q2; simp
      · by_cases q3 : j = 11
        · subst q3; simp
        · simp [q1, q2, q3]
  · simp [q]
theorem zh_al_le {n m : Nat} {t f : Nat → Int32} : ∀ (l : List (Int32 × Int32)) (a : Nat → Int32), (zh_al n m t f l a).1 ≤ l.length
  | [], a => Nat.le_refl 0
  | x :: l, a => by
    cases e : zh_a1 n m t f a x with
    | none => rw [zh_al_n e]; exact Nat.zero_le _
    | some a' =>
      rw [zh_al_s e]
      have := zh_al_le (n := n) (m := m) (t := t) (f := f) l a'
      simp only [List.length_cons]
      omega
theorem zh_er_len {c : Nat → Int32} {len : Nat} : ∀ f a l, zh_er c len f a = .inr l → l.length ≤ f
  | 0, a, l, h => by
    have : l = [] := (Sum.inr.inj h).symm
    subst this
    exact Nat.le_refl 0
  | f + 1, a, l, h => by
    by_cases q : len ≤ a
    · unfold zh_er at h
      rw [if_pos q] at h
      have : l = [] := (Sum.inr.inj h).symm
      subst this
      exact Nat.zero_le _
    · obtain ⟨y, l', rfl, _, _, cs⟩ := zh_er_i h q
      simp only [List.length_cons]
      rcases cs with ⟨_, c1⟩ | ⟨_, _, _, c1⟩ | ⟨_, _, _, c1⟩
      · have := zh_er_len f _ l' c1; omega
      · have := zh_er_len f _ l' c1; omega
      · have := zh_er_len f _ l' c1; omega
theorem zy_evening {N n : Nat} (hN : 100000 ≤ N) {I : Nat → Nat → Int32} {J : Nat → Nat → Int64} {F : zz_F} (h : zi n I J F) : ∃ v I1 J1 I2 J2 F2, zf_X11_evening N I J = some (v, I1, J1) ∧ zf_X12_evening N I1 J1 F = some (v, I2, J2, F2) ∧ zi n I2 J2 F2 := by
  have hn := h.1.1
  obtain ⟨⟨len, hl, l2, l52⟩, hby⟩ := h.2.2.1
  have hE := zi_emp h
  have ht : ∀ k, k < 80 → zz_u I 2 1 0 3 k = I 55 k &&& 255 := fun k hk => by rw [zu_ux (by omega)]; exact (hby k hk).1
  have hb : ∀ i, i < min len 60 → ∃ b, b < 256 ∧ I 55 i = (nI b).toInt8.toInt32 := fun i hi => (hby i (by omega)).2
  obtain ⟨X0, ef, x0⟩ := zs_fault hN (I := zz_u I 2 1 0) (J := J) hl ht
  -- the reference reads, from any memory that keeps the text
  have rd : ∀ (P : Nat → Nat → Int32) (J' : Nat → Nat → Int64), P 52 4 = nI len → P 55 = I 55 → ∃ B' u', (∀ x, x ≠ 64 → B' x = zz_u (zz_u (zz_u (zz_u P 52 7 0) 52 9 (nI len)) 52 10 60) 52 4 0 x) ∧ 90000 ≤ u' ∧ match zh_er (zq_h (min len 60) (I 55)) len 80 0 with
      | .inl x => x < 1000 ∧ ∃ a', zf_X12_evening N P J' F = some (-1 - nI x, zr_m B' (nI a') (nI x), J', zz_Fre F (some 55))
      | .inr l => zh_enl (B' 64) 0 l ∧ l.length ≤ len ∧ zf_X12_evening N P J' F = zl_X12_evening N u' 72 (nI l.length) 0 (zh_r (zr_m B' (nI len) (-1)) 62 (zh_pt (B' 62) (B' 53) 0 18)) J' (zz_Fre F (some 55)) := by
    intro P J' p4 p55
    obtain ⟨B', u', g1, g2, g3⟩ := zm_er hN (J := J') (F := zz_Fre F (some 55)) hl hb 80 0 (N - 1) 0 (zz_u (zz_u (zz_u (zz_u P 52 7 0) 52 9 (nI len)) 52 10 60) 52 4 0) ⟨rfl, p55, rfl, rfl⟩ (by omega) (by omega) (by omega) (by omega)
    have e0 : zf_X12_evening N P J' F = zl_X12_evening N (N - 1) 13 (nI 0) 0 (zr_m (zz_u (zz_u (zz_u (zz_u P 52 7 0) 52 9 (nI len)) 52 10 60) 52 4 0) (nI 0) (-1)) J' (zz_Fre F (some 55)) := by
      have bg := zm_begin hN 60 (zz_u P 52 7 0) J' F
      rw [show zz_u P 52 7 0 52 4 = nI len from p4] at bg
      obtain ⟨M, rfl⟩ := zu_one N hN
      rw [zo_X12_evening]
      unfold zb_X12_evening_0
      exact zu_bd bg rfl
    generalize hr : zh_er (zq_h (min len 60) (I 55)) len 80 0 = r at g3
    cases r with
    | inl x =>
      obtain ⟨hx, k', a', e1⟩ := g3
      refine ⟨B', 90000, g1, by omega, hx, a', e0.trans (e1.trans ?_)⟩
      rw [zo_X12_evening_44]
      unfold zb_X12_evening_44 zv_X12_wasRight zw_X12_wasRight
      have fz : zw_X12_fault (zr_m B' (nI a') (nI x)) (zr_m B' (nI a') (nI x) 52 11) = zr_m B' (nI a') (nI x) := by
        unfold zw_X12_fault
        rw [zr_bad hx, if_pos rfl]
      rw [fz, ite_self, ite_self, zr_bad hx, if_neg (fun w => w rfl), zr_12]
    | inr l =>
      obtain ⟨e1, e2, e3, e4⟩ := g3
      rw [Nat.zero_add] at e2 e4
      refine ⟨B', u', g1, by omega, e1, e2, e0.trans (e4.trans ?_)⟩
      rw [zo_X12_evening_44]
      unfold zb_X12_evening_44 zv_X12_wasRight zw_X12_wasRight
      have c9 : zr_m B' (nI len) (-1) 52 9 = nI len := by
        show B' 52 9 = _
        rw [g1 52 (by omega)]; rfl
      rw [c9, zr_11, if_pos (nI_le (Nat.le_refl len) (by omega)), if_pos (nI_le (Nat.le_refl len) (by omega)), zr_fine, if_pos (show ¬ (1 : Int32) = 0 by decide)]
      have ly := zm_lay53_62 hN (I := zr_m B' (nI len) (-1)) (J := J') 0 (by omega)
      rw [zr_x (show 62 ≠ 52 by omega), zr_x (show 53 ≠ 52 by omega)] at ly
      exact zu_bd ly rfl
  generalize hr : zh_er (zq_h (min len 60) (I 55)) len 80 0 = r at ef rd
  cases r with
  | inl x =>
    have l0 : ¬ len = 0 := fun w => by
      subst w
      unfold zh_er at hr
      rw [if_pos (by omega)] at hr
      cases hr
    have A : zf_X11_evening N I J = some (-1 - nI x, X0, J) := by
      obtain ⟨M, rfl⟩ := zu_one N hN
      rw [zo_X11_evening]
      unfold zb_X11_evening_0
      rw [show zv_X11_takeText I = nI len from l2, show zw_X11_takeText I = zz_u I 2 1 0 from rfl]
      obtain ⟨B', u', g1, _, hx, _⟩ := rd X0 J (by rw [x0 52 (by omega)]; exact l52) (by rw [x0 55 (by omega)]; rfl)
      exact zu_gn (show ¬ nI len ≤ 0 from nI_ge (a := 0) (by omega) (by omega)) (zu_bd ef (zu_gn (fun q => nI_pos (n := x) (by omega) (by rw [show nI x = -1 from q]; decide)) rfl))
    obtain ⟨B', u', g1, _, hx, a', Bq⟩ := rd X0 J (by rw [x0 52 (by omega)]; exact l52) (by rw [x0 55 (by omega)]; rfl)
    refine ⟨_, _, _, _, _, _, A, Bq, zi_told hE (fun a i hk => ?_) (zc_tol hE.2.2.2.1 ?_ ?_ rfl rfl) h.2.2.2.2.2.2.2.2⟩
    · by_cases a52 : a = 52
      · subst a52
        unfold zr_m
        rw [zz_un (fun w => by rw [w.2] at hk; cases hk), zz_un (fun w => by rw [w.2] at hk; cases hk), g1 52 (by omega)]
        by_cases i4 : i = 4
        · subst i4; rfl
        · rw [zz_un (fun w => i4 w.2), zz_un (fun w => by rw [w.2] at hk; cases hk), zz_un (fun w => by rw [w.2] at hk; cases hk), zz_un (fun w => by rw [w.2] at hk; cases hk), x0 52 (by omega), zz_un (fun w => i4 w.2)]
      · rw [zr_x a52, g1 a (fun w => by subst w; cases hk), zu_ux a52, zu_ux a52, zu_ux a52, zu_ux a52, x0 a (fun w => by subst w; cases hk), zu_ux a52]
    · rw [zr_x (by omega), g1 2 (by omega)]
      exact congrFun (x0 2 (by omega)) 3
    · show B' 52 6 = _
      rw [g1 52 (by omega)]
      exact congrFun (x0 52 (by omega)) 6
  | inr l =>
    obtain ⟨X1, x1, e1⟩ : ∃ X1, (∀ x, x ≠ 40 → X1 x = zz_u I 2 1 0 x) ∧ zf_X11_evening N I J = zl_X11_evening N (N - 1) 33 (nI len) 0 0 0 0 X1 J := by
      by_cases l0 : len = 0
      · subst l0
        refine ⟨zz_u I 2 1 0, fun _ _ => rfl, ?_⟩
        obtain ⟨M, rfl⟩ := zu_one N hN
        rw [zo_X11_evening]
        unfold zb_X11_evening_0
        rw [show zv_X11_takeText I = nI 0 from l2, show zw_X11_takeText I = zz_u I 2 1 0 from rfl]
        exact zu_gd (show nI 0 ≤ 0 by decide) rfl
      · refine ⟨X0, x0, ?_⟩
        obtain ⟨M, rfl⟩ := zu_one N hN
        rw [zo_X11_evening]
        unfold zb_X11_evening_0
        rw [show zv_X11_takeText I = nI len from l2, show zw_X11_takeText I = zz_u I 2 1 0 from rfl]
        exact zu_gn (show ¬ nI len ≤ 0 from nI_ge (a := 0) (by omega) (by omega)) (zu_bd ef (zu_gd rfl rfl))
    have q1 : ∀ x, x ≠ 40 → x ≠ 2 → X1 x = I x := fun x h1 h2 => by rw [x1 x h1, zu_ux h2]
    have s1 : zi_sc n X1 := zc_sc h.1 (congrFun (q1 5 (by omega) (by omega)) 2) (q1 6 (by omega) (by omega)) (q1 7 (by omega) (by omega)) (congrFun (q1 52 (by omega) (by omega)) 1) (q1 54 (by omega) (by omega))
    obtain ⟨X, ex, ruX, fr, xx, x28⟩ := zs_freshG hN (J := J) s1 (zc_rul h.2.2.2.2.2.2.2.1 (congrFun (q1 52 (by omega) (by omega)) 16) (congrFun (q1 28 (by omega) (by omega)) 3) (congrFun (q1 28 (by omega) (by omega)) 4) (q1 29 (by omega) (by omega)) (q1 31 (by omega) (by omega)) (q1 58 (by omega) (by omega)) (q1 54 (by omega) (by omega)))
    obtain ⟨mm, ru, bt'⟩ := zs_betwG hn ruX h.2.2.2.2.2.2.2.2 fr
    have q2 : ∀ x, x ≠ 28 → x ≠ 30 → x ≠ 31 → x ≠ 40 → x ≠ 2 → X x = I x := fun x a1 a2 a3 a4 a5 => by rw [xx x a1 a2 a3, q1 x a4 a5]
    have X2 : ∀ i, i ≠ 1 → X 2 i = I 2 i := fun i hi => by rw [xx 2 (by omega) (by omega) (by omega), x1 2 (by omega), zz_un (fun w => hi w.2)]
    have X21 : X 2 1 = 0 := by rw [xx 2 (by omega) (by omega) (by omega), x1 2 (by omega)]; rfl
    have X52 := q2 52 (by omega) (by omega) (by omega) (by omega) (by omega)
    -- the base of all that follows
    have hZ : zi n (zz_u X 52 4 0) J F := by
      have o : ∀ a, a ≠ 52 → zz_u X 52 4 0 a = X a := fun a ha => zu_ux ha
      have o52 : ∀ i, i ≠ 4 → zz_u X 52 4 0 52 i = I 52 i := fun i hi => by rw [zz_un (fun w => hi w.2), X52]
      have p : ∀ x, x ≠ 28 → x ≠ 30 → x ≠ 31 → x ≠ 40 → x ≠ 2 → x ≠ 52 → zz_u X 52 4 0 x = I x := fun x a1 a2 a3 a4 a5 a6 => by rw [o x a6, q2 x a1 a2 a3 a4 a5]
      obtain ⟨h1, h2, h3, h4, h5, h6, h7, h8, h9⟩ := h
      have e9 := p 9 (by omega) (by omega) (by omega) (by omega) (by omega) (by omega)
      have e54 := p 54 (by omega) (by omega) (by omega) (by omega) (by omega) (by omega)
      refine ⟨zc_sc h1 (congrFun (p 5 (by omega) (by omega) (by omega) (by omega) (by omega) (by omega)) 2) (p 6 (by omega) (by omega) (by omega) (by omega) (by omega) (by omega)) (p 7 (by omega) (by omega) (by omega) (by omega) (by omega) (by omega)) (o52 1 (by omega)) e54, ?_, ⟨⟨0, by omega, ?_, rfl⟩, ?_⟩, zc_tol h4 ?_ (o52 6 (by omega)) rfl rfl, zc_bow h5 ?_ ?_ (o52 43 (by omega)) (o52 44 (by omega)), zc_rng h6 (congrFun e9 4) (congrFun e9 5) (o52 20 (by omega)) (p 61 (by omega) (by omega) (by omega) (by omega) (by omega) (by omega)) (fun k hk => p _ (by omega) (by omega) (by omega) (by omega) (by omega) (by omega)), zc_shl h7 (o52 45 (by omega)) (p 12 (by omega) (by omega) (by omega) (by omega) (by omega) (by omega)) (p 81 (by omega) (by omega) (by omega) (by omega) (by omega) (by omega)) (p 82 (by omega) (by omega) (by omega) (by omega) (by omega) (by omega)) (p 80 (by omega) (by omega) (by omega) (by omega) (by omega) (by omega)) (fun k hk => p _ (by omega) (by omega) (by omega) (by omega) (by omega) (by omega)), zc_rul ruX (zz_un (by omega)) (congrFun (o 28 (by omega)) 3) (congrFun (o 28 (by omega)) 4) (o 29 (by omega)) (o 31 (by omega)) (o 58 (by omega)) (o 54 (by omega)), h9⟩
      · rw [p 53 (by omega) (by omega) (by omega) (by omega) (by omega) (by omega), p 8 (by omega) (by omega) (by omega) (by omega) (by omega) (by omega)]; exact h2
      · rw [o 2 (by omega)]; exact X21
      · rw [p 3 (by omega) (by omega) (by omega) (by omega) (by omega) (by omega), p 55 (by omega) (by omega) (by omega) (by omega) (by omega) (by omega)]; exact h3.2
      · rw [o 2 (by omega)]; exact X2 3 (by omega)
      · rw [o 2 (by omega)]; exact X2 15 (by omega)
      · rw [o 2 (by omega)]; exact X2 16 (by omega)
    have oH : ∀ x, x ≠ 13 → zz_cpn X 13 8 x = X x := fun x hx => zu_cpn hx
    have sX : zi_sc n X := zc_sc hZ.1 (by rw [zu_ux (by omega)]) (by rw [zu_ux (by omega)]) (by rw [zu_ux (by omega)]) (by rw [zz_un (by omega)]) (by rw [zu_ux (by omega)])
    have sH : zi_sc n (zz_cpn X 13 8) := zc_sc sX (congrFun (oH 5 (by omega)) 2) (oH 6 (by omega)) (oH 7 (by omega)) (congrFun (oH 52 (by omega)) 1) (oH 54 (by omega))
    have bH : ∀ a b, a < n → b < n → zv_X1_between (zz_cpn X 13 8) (nI a) (nI b) = zt_c mm (zz_cpn X 13 8) a b := fun a b ha hb => by
      rw [show zv_X1_between (zz_cpn X 13 8) = zv_X1_between X by
        funext u v
        unfold zv_X1_between
        rw [oH 31 (by omega)], bt' a b ha hb]
      unfold zt_c
      rw [oH 58 (by omega), oH 54 (by omega)]
    have rX : zi_row n (X 53) (X 8) := by
      have := hZ.2.1
      rw [zu_ux (by omega), zu_ux (by omega)] at this
      exact this
    have rH : zi_row n (X 53) (zz_cpn X 13 8 8) := by rw [oH 8 (by omega)]; exact rX
    have X3 : ∀ k, k < 80 → zz_cpn X 13 8 3 k = I 55 k &&& 255 := fun k hk => by
      rw [oH 3 (by omega), q2 3 (by omega) (by omega) (by omega) (by omega) (by omega)]
      exact (hby k hk).1
    obtain ⟨I', u', c1, c2, c3⟩ := zs_al hN (J := J) sH bH hl (Nat.min_le_left len 60) X3 80 0 (N - 2) 0 0 (zz_cpn X 13 8) (X 53) l hr (by omega) (by omega) (by omega) (by omega) (fun _ _ => rfl) rH
    rw [oH 58 (by omega), oH 54 (by omega), Nat.zero_add] at c3
    rw [oH 58 (by omega), oH 54 (by omega)] at c2
    have al : (zh_al n mm (X 58) (X 54) l (X 53)).1 ≤ 80 := Nat.le_trans (zh_al_le l _) (zh_er_len 80 0 l hr)
    generalize hA : zh_al n mm (X 58) (X 54) l (X 53) = A at c2 c3 al
    obtain ⟨mr, t, hmr, htr, h5, h20, h4, hk⟩ := hZ.2.2.2.2.2.1
    have I'9 : I' 9 = X 9 := (c1 9 (by omega)).trans (oH 9 (by omega))
    -- what the class has at its end
    obtain ⟨C, eC, Cx, C8, Cp⟩ : ∃ C, zf_X11_evening N I J = some (nI A.1, zz_u C 2 3 2, zz_u (zz_u J 4 0 (if A.2.2 = true then 1 else 0)) 4 1 (A.2.1 12).toInt64) ∧ (∀ x, x ≠ 8 → x ≠ 9 → x ≠ 13 → x ≠ 14 + t → C x = X x) ∧ C 8 = I' 8 ∧ ((A.1 = 0 ∧ C 9 = X 9 ∧ C (14 + t) = X (14 + t)) ∨ (A.1 ≠ 0 ∧ C 9 4 = nI ((t + 1) % 12) ∧ C 9 5 = nI (if mr = 12 then 12 else mr + 1) ∧ ∀ i, i < 9 → C (14 + t) i = X 8 i)) := by
      have hh : zf_X6_hold__8 N X J = some (0, zz_cpn X 13 8, J) := by
        obtain ⟨M, rfl⟩ := zu_one N hN
        rw [zo_X6_hold__8]; rfl
      have e2 : zl_X11_evening N (N - 1) 33 (nI len) 0 0 0 0 X1 J = zl_X11_evening N (N - 2) 65 (nI len) (nI 0) (nI 0) 0 (nI 0) (zz_cpn X 13 8) J := by
        obtain ⟨M, hM⟩ : ∃ M, N - 1 = M + 1 := ⟨N - 2, by omega⟩
        rw [hM, show N - 2 = M by omega, zo_X11_evening_33]
        unfold zb_X11_evening_33
        exact zu_bd ex (zu_bd hh rfl)
      have tl : ∀ (C : Nat → Nat → Int32) (v : Nat), C 8 0 = A.2.1 12 → zl_X11_evening N (v + 1) 152 0 0 (nI A.1) (if A.2.2 = true then 1 else 0) 0 C J = some (nI A.1, zz_u C 2 3 2, zz_u (zz_u J 4 0 (if A.2.2 = true then 1 else 0)) 4 1 (A.2.1 12).toInt64) := fun C v hC => by
        rw [zo_X11_evening_152]
        unfold zb_X11_evening_152
        rw [zu_t2, zu_t2, zu_x2, zu_x2, hC]
        cases A.2.2
        · rw [if_neg Bool.false_ne_true, if_pos rfl, if_neg Bool.false_ne_true]
        · rw [if_pos rfl, if_neg (show ¬ (1 : Int32) = 0 by decide), if_pos rfl]
      by_cases d0 : A.1 = 0
      · refine ⟨I', ?_, fun x a1 a2 a3 a4 => (c1 x a1).trans (oH x a3), rfl, .inl ⟨d0, I'9, (c1 _ (by omega)).trans (oH _ (by omega))⟩⟩
        rw [e1, e2, c3, zo_X11_evening_141]
        unfold zb_X11_evening_141
        rw [if_pos (show nI A.1 ≤ 0 by rw [d0]; decide)]
        exact tl I' _ c2.1
      · obtain ⟨C, p1, p2, p3, p4, p5⟩ := zs_pushH hN (I := I') (J := J) htr hmr (by rw [I'9, ← h4]; rfl) (by rw [I'9, ← h5]; rfl)
        refine ⟨C, ?_, fun x a1 a2 a3 a4 => (p2 x a2 a4).trans ((c1 x a1).trans (oH x a3)), p2 8 (by omega) (by omega), .inr ⟨d0, p3, p4, fun i hi => (p5 i hi).trans ?_⟩⟩
        · have hp : zf_X6_pushHeld N I' J = some (0, C, J) := by
            obtain ⟨M, rfl⟩ := zu_one N hN
            rw [zo_X6_pushHeld]
            exact zu_bd p1 rfl
          rw [e1, e2, c3, zo_X11_evening_141]
          unfold zb_X11_evening_141
          rw [if_neg (show ¬ nI A.1 ≤ 0 from nI_ge (a := 0) (by omega) (by omega))]
          exact zu_bd hp (tl C _ (by rw [p2 8 (by omega) (by omega)]; exact c2.1))
        · rw [c1 13 (by omega), zu_cpi hi]
    -- the reference
    have P52 : ∀ i, zz_u C 2 3 2 52 i = I 52 i := fun i => by rw [zu_ux (by omega), Cx 52 (by omega) (by omega) (by omega) (by omega), X52]
    have Px : ∀ x, x ≠ 2 → x ≠ 8 → x ≠ 9 → x ≠ 13 → x ≠ 14 + t → zz_u C 2 3 2 x = X x := fun x a1 a2 a3 a4 a5 => by rw [zu_ux a1, Cx x a2 a3 a4 a5]
    obtain ⟨B', v', g1, gv, gen, gle, eB⟩ := rd (zz_u C 2 3 2) (zz_u (zz_u J 4 0 (if A.2.2 = true then 1 else 0)) 4 1 (A.2.1 12).toInt64) (by rw [P52]; exact l52) (by rw [Px 55 (by omega) (by omega) (by omega) (by omega) (by omega), q2 55 (by omega) (by omega) (by omega) (by omega) (by omega)])
    generalize hJ1 : zz_u (zz_u J 4 0 (if A.2.2 = true then 1 else 0)) 4 1 (A.2.1 12).toInt64 = J1 at eB eC
    have B'x : ∀ x, x ≠ 64 → x ≠ 52 → B' x = zz_u C 2 3 2 x := fun x a1 a2 => by rw [g1 x a1, zu_ux a2, zu_ux a2, zu_ux a2, zu_ux a2]
    have B'52 : ∀ i, i ≠ 4 → i ≠ 10 → i ≠ 9 → i ≠ 7 → B' 52 i = I 52 i := fun i a1 a2 a3 a4 => by rw [g1 52 (by omega), zz_un (fun w => a1 w.2), zz_un (fun w => a2 w.2), zz_un (fun w => a3 w.2), zz_un (fun w => a4 w.2), P52]
    have B'53 : B' 53 = X 53 := (B'x 53 (by omega) (by omega)).trans (Px 53 (by omega) (by omega) (by omega) (by omega) (by omega))
    generalize hL : zh_r (zr_m B' (nI len) (-1)) 62 (zh_pt (B' 62) (B' 53) 0 18) = L at eB
    have Lx : ∀ x, x ≠ 62 → x ≠ 52 → L x = B' x := fun x a1 a2 => by rw [← hL, zu_rx a1, zr_x a2]
    have L52 : ∀ i, i ≠ 11 → i ≠ 12 → L 52 i = B' 52 i := fun i a1 a2 => by
      rw [← hL, zu_rx (by omega)]
      unfold zr_m
      rw [zz_un (fun w => a2 w.2), zz_un (fun w => a1 w.2)]
    have L62 : ∀ i, i < 18 → L 62 i = X 53 i := fun i hi => by
      have := zh_pt_in (g := B' 62) (f := B' 53) (b := 0) (k := 18) (j := i) hi
      rw [Nat.zero_add] at this
      rw [← hL, zh_rr, this, B'53]
    have L53 : L 53 = X 53 := (Lx 53 (by omega) (by omega)).trans B'53
    have L54 : L 54 = X 54 := by rw [Lx 54 (by omega) (by omega), B'x 54 (by omega) (by omega), Px 54 (by omega) (by omega) (by omega) (by omega) (by omega)]
    have L58 : L 58 = X 58 := by rw [Lx 58 (by omega) (by omega), B'x 58 (by omega) (by omega), Px 58 (by omega) (by omega) (by omega) (by omega) (by omega)]
    have ruL : zr_ru mm (X 58) L (zz_Fre F (some 55)) := ⟨ru.1, by rw [L52 16 (by omega) (by omega), B'52 16 (by omega) (by omega) (by omega) (by omega), ← X52]; exact ru.2.1, L58, ru.2.2.2.1, ru.2.2.2.2⟩
    have le80 : l.length ≤ 80 := by omega
    obtain ⟨Y, F2, w', y1, y2, y3, y4, y5⟩ := zm_al hN hn (J := J1) (m := mm) (t := X 58) (f := X 54) le80 l 0 v' L (zz_Fre F (some 55)) (by omega) (by omega) (zh_er_o 80 0 l hr) (by rw [Lx 64 (by omega) (by omega)]; exact gen) ruL L54 (by rw [L52 1 (by omega) (by omega), B'52 1 (by omega) (by omega) (by omega) (by omega)]; exact h.1.2.1) (by rw [L53]; exact rX.2.2.2.2.2.2.2.2.2.2)
    rw [L53, hA] at y2 y4 y5
    rw [Nat.zero_add] at y4 y5
    have Yx : ∀ x, x ≠ 60 → x ≠ 52 → x ≠ 53 → x ≠ 62 → x ≠ 64 → x ≠ 2 → x ≠ 8 → x ≠ 9 → x ≠ 13 → x ≠ 14 + t → Y x = X x := fun x a1 a2 a3 a4 a5 a6 a7 a8 a9 a10 => by rw [y1.1 x a1 a2 a3, Lx x a4 a2, B'x x a5 a2, Px x a6 a7 a8 a9 a10]
    have Yc : ∀ x, x ≠ 60 → x ≠ 52 → x ≠ 53 → x ≠ 62 → x ≠ 64 → x ≠ 2 → Y x = C x := fun x a1 a2 a3 a4 a5 a6 => by rw [y1.1 x a1 a2 a3, Lx x a4 a2, B'x x a5 a2, zu_ux a6]
    have Y52 : ∀ i, zk_k 52 i = true → i ≠ 4 → Y 52 i = I 52 i := fun i hk i4 => by
      rw [y1.2 i (fun w => by subst w; cases hk) (fun w => by subst w; cases hk) (fun w => by subst w; cases hk) (fun w => by subst w; cases hk) (fun w => by subst w; cases hk), L52 i (fun w => by subst w; cases hk) (fun w => by subst w; cases hk), B'52 i i4 (fun w => by subst w; cases hk) (fun w => by subst w; cases hk) (fun w => by subst w; cases hk)]
    have Y524 : Y 52 4 = 0 := by
      rw [y1.2 4 (by omega) (by omega) (by omega) (by omega) (by omega), L52 4 (by omega) (by omega), g1 52 (by omega)]
      rfl
    have Y2 : ∀ i, i ≠ 3 → Y 2 i = X 2 i := fun i hi => by rw [y1.1 2 (by omega) (by omega) (by omega), Lx 2 (by omega) (by omega), B'x 2 (by omega) (by omega), zz_un (fun w => hi w.2), Cx 2 (by omega) (by omega) (by omega) (by omega)]
    have Y23 : Y 2 3 = 2 := by rw [y1.1 2 (by omega) (by omega) (by omega), Lx 2 (by omega) (by omega), B'x 2 (by omega) (by omega)]; rfl
    have Y62 : ∀ i, i < 18 → Y 62 i = X 53 i := fun i hi => by rw [y1.1 62 (by omega) (by omega) (by omega), L62 i hi]
    have Y8 : Y 8 = I' 8 := (Yc 8 (by omega) (by omega) (by omega) (by omega) (by omega) (by omega)).trans C8
    -- the reference's end
    have tl : ∀ (R : Nat → Nat → Int32) (v : Nat), R 53 12 = A.2.1 12 → zl_X12_evening N (v + 1) 120 (nI l.length) (nI A.1) R J1 F2 = some (nI A.1, zz_u R 52 6 2, zz_u (zz_u J1 56 0 (if A.2.2 = true then 1 else 0)) 56 1 (A.2.1 12).toInt64, F2) := fun R v hR => by
      rw [zo_X12_evening_120]
      unfold zb_X12_evening_120
      by_cases q : A.2.2 = true
      · have lt := y5.mpr q
        rw [if_neg (nI_ge lt (by omega)), if_pos q]
        refine zu_gd zu_20_0 (zu_gd zu_20_1 (zu_bd rfl ?_))
        simp only [zu_m1, zu_m2, zu_m3, zu_y1, zu_y2, zu_y3, zz_us, zu_ga, zu_gb, zu_gc, not_false_eq_true, if_true, ite_true, zu_t1, zu_t2, zu_t3, zu_x1, zu_x2, zu_x3]
        rw [zu_ux (show 53 ≠ 52 by omega), hR]
      · have lt : l.length ≤ A.1 := Nat.le_of_not_lt (fun w => q (y5.mp w))
        rw [if_pos (nI_le lt (by omega)), if_neg q]
        refine zu_gd zu_20_0 (zu_gd zu_20_1 (zu_bd rfl ?_))
        simp only [zu_m1, zu_m2, zu_m3, zu_y1, zu_y2, zu_y3, zz_us, zu_ga, zu_gb, zu_gc, not_false_eq_true, if_true, ite_true, zu_t1, zu_t2, zu_t3, zu_x1, zu_x2, zu_x3]
        rw [zu_ux (show 53 ≠ 52 by omega), hR]
    have tol : ∀ (R : Nat → Nat → Int32), R 2 3 = 2 → zi_tol (zz_u R 52 6 2) (zz_u (zz_u J1 56 0 (if A.2.2 = true then 1 else 0)) 56 1 (A.2.1 12).toInt64) := fun R hR => zi_tol2 (by rw [zu_ux (by omega)]; exact hR) rfl (by rw [← hJ1]; rfl) (by rw [← hJ1]; rfl)
    have fin2 : ∀ a i, zk_k a i = true → a ≠ 8 → a ≠ 9 → a ≠ 53 → a ≠ 61 → a ≠ 14 + t → ¬ (a = 52 ∧ i = 20) → Y a i = zz_u X 52 4 0 a i := fun a i hz h8 h9 h53 h61 h14 h20 => by
      by_cases e : a = 52
      · subst e
        by_cases i4 : i = 4
        · subst i4; rw [Y524]; rfl
        · rw [Y52 i hz i4, zz_un (fun w => i4 w.2), X52]
      · rw [zu_ux e]
        by_cases e2 : a = 2
        · subst e2
          exact Y2 i (fun w => by subst w; cases hz)
        · rw [Yx a (fun w => by subst w; cases hz) e h53 (fun w => by subst w; cases hz) (fun w => by subst w; cases hz) e2 h8 h9 (fun w => by subst w; cases hz) h14]
    rcases Cp with ⟨d0, C9, C14⟩ | ⟨d0, C94, C95, C14⟩
    · have Bq : zf_X12_evening N (zz_u C 2 3 2) J1 F = some (nI A.1, zz_u Y 52 6 2, zz_u (zz_u J1 56 0 (if A.2.2 = true then 1 else 0)) 56 1 (A.2.1 12).toInt64, F2) := by
        rw [eB]
        refine y4.trans ?_
        rw [zo_X12_evening_108]
        unfold zb_X12_evening_108
        rw [if_pos (show nI A.1 ≤ 0 by rw [d0]; decide)]
        exact tl Y _ (by rw [y2])
      refine ⟨_, _, _, _, _, _, eC, Bq, zi_gen hZ (fun a i hz h8 h53 => ?_) ?_ (tol Y Y23) (zF_ok y3 h.2.2.2.2.2.2.2.2)⟩
      · have s6 : zz_u Y 52 6 2 a i = Y a i := zz_un (fun w => by rw [w.1, w.2] at hz; cases hz)
        rw [s6]
        by_cases e9 : a = 9
        · subst e9
          rw [Yc 9 (by omega) (by omega) (by omega) (by omega) (by omega) (by omega), C9, zu_ux (by omega)]
        by_cases e61 : a = 61
        · subst e61
          rw [Yx 61 (by omega) (by omega) (by omega) (by omega) (by omega) (by omega) (by omega) (by omega) (by omega) (by omega), zu_ux (by omega)]
        by_cases e14 : a = 14 + t
        · subst e14
          rw [Yc _ (by omega) (by omega) (by omega) (by omega) (by omega) (by omega), C14, zu_ux (by omega)]
        by_cases e20 : a = 52 ∧ i = 20
        · obtain ⟨rfl, rfl⟩ := e20
          rw [Y52 20 rfl (by omega), zz_un (by omega), X52]
        exact fin2 a i hz h8 e9 h53 e61 e14 e20
      · rw [zu_ux (by omega), zu_ux (by omega), y2, Y8]
        exact c2
    · obtain ⟨R, er, r1, r61, r20, r52⟩ := zm_remH hN (I := Y) (J := J1) hmr (by rw [Y52 20 rfl (by omega), ← X52]; exact h20)
      have Bq : zf_X12_evening N (zz_u C 2 3 2) J1 F = some (nI A.1, zz_u R 52 6 2, zz_u (zz_u J1 56 0 (if A.2.2 = true then 1 else 0)) 56 1 (A.2.1 12).toInt64, F2) := by
        rw [eB]
        refine y4.trans ?_
        rw [zo_X12_evening_108]
        unfold zb_X12_evening_108
        rw [if_neg (show ¬ nI A.1 ≤ 0 from nI_ge (a := 0) (by omega) (by omega))]
        exact zu_bd er (tl R _ (by rw [r1 53 (by omega) (by omega), y2]))
      refine ⟨_, _, _, _, _, _, eC, Bq, zi_pushed hZ htr hmr hk (fun a i hz h8 h9 h53 h61 h14 h20 => ?_) (fun k hk1 hk2 => ?_) ?_ ?_ (fun i hi => ?_) ?_ ?_ ?_ (tol R (by rw [r1 2 (by omega) (by omega)]; exact Y23)) (zF_ok y3 h.2.2.2.2.2.2.2.2)⟩
      · have s6 : zz_u R 52 6 2 a i = R a i := zz_un (fun w => by rw [w.1, w.2] at hz; cases hz)
        rw [s6]
        by_cases e : a = 52
        · subst e
          rw [r52 i (fun w => h20 ⟨rfl, w⟩)]
          exact fin2 52 i hz h8 h9 h53 h61 h14 h20
        · rw [r1 a h61 e]
          exact fin2 a i hz h8 h9 h53 h61 h14 h20
      · rw [zu_ux (by omega), r1 _ (by omega) (by omega), Yx _ (by omega) (by omega) (by omega) (by omega) (by omega) (by omega) (by omega) (by omega) (by omega) (by omega), zu_ux (by omega)]
      · rw [zu_ux (by omega), zu_ux (by omega), r1 53 (by omega) (by omega), r1 8 (by omega) (by omega), y2, Y8]
        exact c2
      · rw [zu_ux (by omega), r61, Yx 61 (by omega) (by omega) (by omega) (by omega) (by omega) (by omega) (by omega) (by omega) (by omega) (by omega), zu_ux (show 61 ≠ 52 by omega), zu_ux (show 53 ≠ 52 by omega)]
        unfold zh_rm zh_pt
        split
        · funext j
          split
          · next q => rw [Y62 _ (by omega)]
          · rfl
        · funext j
          split
          · next q => rw [Y62 _ (by omega)]
          · rfl
      · rw [zu_ux (by omega), r1 _ (by omega) (by omega), Yc _ (by omega) (by omega) (by omega) (by omega) (by omega) (by omega), C14 i hi, zu_ux (by omega)]
      · rw [zu_ux (by omega), r1 9 (by omega) (by omega), Yc 9 (by omega) (by omega) (by omega) (by omega) (by omega) (by omega)]
        exact C95
      · rw [zu_ux (by omega), r1 9 (by omega) (by omega), Yc 9 (by omega) (by omega) (by omega) (by omega) (by omega) (by omega)]
        exact C94
      · rw [zz_un (by omega)]
        exact r20
