/-! LAMPS, the reference and the end -/
theorem zm_lb {I : Nat → Nat → Int32} {l k : Nat} (h0 : 1 ≤ k) (hk : k ≤ l) (hl : l ≤ 40) : zv_X12_leadBy I (nI l) (nI k) = zh_lb (I 79) l k := by
  unfold zv_X12_leadBy zh_lb
  by_cases e : k = l
  · subst e; simp
  · rw [if_neg e, if_pos (fun w => e ((nI_eq (by omega) (by omega)).mp w)), pk_sub hk, nI_clamp (by omega)]
theorem zu_min3 {l k : Nat} (hl : l ≤ 40) (hk : k ≤ 40) : (zz_min 3 (nI l) < nI k) = (3 < k ∨ l < k) := by
  unfold zz_min
  by_cases c : l < 3
  · rw [if_pos (show nI l < 3 from nI_lt (b := 3) c (by omega)), propext (nI_ltI (by omega) (by omega))]
    apply propext; omega
  · rw [if_neg (show ¬ nI l < 3 from nI_nlt (b := 3) (by omega) (by omega)), show (3 : Int32) = nI 3 from rfl, propext (nI_ltI (by omega) (by omega))]
    apply propext; omega
/-- the rest of the takes: j + 1 are tried -/
theorem zm_take_l {N : Nat} {I : Nat → Nat → Int32} {J : Nat → Nat → Int64} {n l : Nat} (h0 : 1 ≤ l) (hl : l ≤ 40) (g : Nat → Int32) (Q : Option (Int32 × (Nat → Nat → Int32) × (Nat → Nat → Int64)) → Prop) : ∀ k j f, j + k = 2 → 2 * k < f → (∀ m, f ≤ m + 2 * k + 1 → Q (zl_X12_lamps N m 21 (nI n) (nI (zh_ft g l 2)) (nI (l + 1)) 0 (zh_r I 79 (zh_up g l (zh_lb g l (zh_ft g l 2)))) J)) → Q (zl_X12_lamps N f 38 (nI n) (nI (zh_ft g l j)) (nI l) (nI (j + 2)) (zh_r I 79 (zh_up g l (zh_lb g l (zh_ft g l j)))) J) := by
  intro k
  induction k with
  | zero =>
    intro j f hs hf hQ
    obtain ⟨m, rfl⟩ : ∃ m, f = m + 1 := ⟨f - 1, by omega⟩
    obtain rfl : j = 2 := by omega
    rw [zo_X12_lamps_38]
    unfold zb_X12_lamps_38
    rw [if_pos (by rw [zu_min3 hl (by omega)]; omega), nI_1]
    exact hQ m (by omega)
  | succ k ih =>
    intro j f hs hf hQ
    obtain ⟨m, rfl⟩ : ∃ m, f = m + 1 + 1 := ⟨f - 2, by omega⟩
    have ft := zh_ft_in g h0 j
    rw [zo_X12_lamps_38]
    unfold zb_X12_lamps_38
    by_cases c : l < j + 2
    · rw [if_pos (by rw [zu_min3 hl (by omega)]; exact .inr c), nI_1]
      have st : ∀ i, j ≤ i → zh_ft g l i = zh_ft g l j := by
        intro i hi
        induction i with
        | zero => have : j = 0 := by omega
                  rw [this]
        | succ i ij =>
          by_cases q : j = i + 1
          · rw [q]
          · rw [show zh_ft g l (i + 1) = if i + 2 ≤ l ∧ zh_lb g l (zh_ft g l i) < zh_lb g l (i + 2) then i + 2 else zh_ft g l i from rfl, if_neg (fun w => by omega), ij (by omega)]
      rw [← st 2 (by omega)]
      exact hQ (m + 1) (by omega)
    · have nx := ih (j + 1) m (by omega) (by omega) (fun m' hm => hQ m' (by omega))
      have cg : ∀ i, 1 ≤ i → i < l → zh_up g l (zh_lb g l (zh_ft g l j)) i = g i := fun i _ hi => if_neg (by omega)
      rw [if_neg (by rw [zu_min3 hl (by omega)]; omega)]
      rw [if_pos (fun w => nI_in (show l - (j + 2) < 41 by omega) (by omega) |> fun z => by rw [pk_sub (show j + 2 ≤ l by omega)]; exact z)]
      rw [if_pos (nI_in (show l < 41 by omega) (by omega)), nI_clamp (by omega), zm_lb (by omega) (by omega) hl, show zh_r I 79 (zh_up g l (zh_lb g l (zh_ft g l j))) 79 = zh_up g l (zh_lb g l (zh_ft g l j)) from rfl, zh_lb_c (by omega) (by omega) cg, zh_ru]
      simp only [zo_X12_lamps_83, zb_X12_lamps_83, nI_1]
      rw [show zh_up g l (zh_lb g l (zh_ft g l j)) l = zh_lb g l (zh_ft g l j) from if_pos rfl]
      rw [show zh_ft g l (j + 1) = if j + 2 ≤ l ∧ zh_lb g l (zh_ft g l j) < zh_lb g l (j + 2) then j + 2 else zh_ft g l j from rfl] at nx
      by_cases d : zh_lb g l (zh_ft g l j) < zh_lb g l (j + 2)
      · rw [if_pos d]
        rw [if_pos ⟨by omega, d⟩] at nx
        have uu : zh_up (zh_up g l (zh_lb g l (zh_ft g l j))) l (zh_lb g l (j + 2)) = zh_up g l (zh_lb g l (j + 2)) := by
          funext i
          unfold zh_up
          split <;> rfl
        rw [uu]
        exact nx
      · rw [if_neg d]
        rw [if_neg (fun w => d w.2)] at nx
        exact nx
theorem zm_lamps_l {N : Nat} {I : Nat → Nat → Int32} {J : Nat → Nat → Int64} {n : Nat} (h0 : 1 ≤ n) (hn : n ≤ 40) : ∀ k s f (x : Nat) (g : Nat → Int32), s + k = n → 8 * k < f → (∀ j, 1 ≤ j → j ≤ s → g j = zh_lt s j) → (1 ≤ s → x = zh_ft (zh_lt (s - 1)) s 2) → ∃ g', zl_X12_lamps N f 21 (nI n) (nI x) (nI (s + 1)) 0 (zh_r I 79 g) J = some (100 + zh_lt n n, zz_u (zh_r I 79 g') 52 6 1, zz_u J 56 0 (nI (zh_ft (zh_lt (n - 1)) n 2)).toInt64) := by
  intro k
  induction k with
  | zero =>
    intro s f x g hs hf hg hx
    obtain ⟨m, rfl⟩ : ∃ m, f = m + 1 := ⟨f - 1, by omega⟩
    obtain rfl : s = n := by omega
    refine ⟨g, ?_⟩
    rw [zo_X12_lamps_21]
    unfold zb_X12_lamps_21
    rw [if_pos (nI_lt (by omega) (by omega))]
    simp only [zu_m1, zu_m2, zu_m3, zu_y1, zu_y2, zu_y3, zz_us, zu_ga, zu_gb, zu_gc, not_false_eq_true, if_true, ite_true, zu_t1, zu_t2, zu_t3, zu_x1, zu_x2, zu_x3]
    rw [if_pos (nI_in (show s < 41 by omega) (by omega)), nI_clamp (by omega)]
    rw [show zz_u (zh_r I 79 g) 52 6 1 79 s = g s from rfl, hg s h0 (Nat.le_refl s), hx h0]
  | succ k ih =>
    intro s f x g hs hf hg hx
    obtain ⟨m, rfl⟩ : ∃ m, f = m + 1 + 1 + 1 := ⟨f - 3, by omega⟩
    rw [zo_X12_lamps_21]
    unfold zb_X12_lamps_21
    rw [if_neg (nI_nlt (show s + 1 ≤ n by omega) (by omega)), if_pos (nI_in (show s + 1 < 41 by omega) (by omega)), nI_clamp (by omega), zh_ru]
    have cg : ∀ j, 1 ≤ j → j < s + 1 → g j = zh_lt s j := fun j a b => hg j a (by omega)
    have cu : ∀ i, 1 ≤ i → i < s + 1 → zh_up g (s + 1) (-1000000) i = g i := fun i _ hi => if_neg (by omega)
    have ft := zh_ft_in g (l := s + 1) (by omega) 2
    have b1 : zh_lb g (s + 1) 1 = zh_lb (zh_lt s) (s + 1) 1 := zh_lb_c (by omega) (by omega) cg
    have big := zh_lt_big s (by omega)
    rw [zo_X12_lamps_38]
    unfold zb_X12_lamps_38
    rw [show (1 : Int32) = nI 1 from rfl, if_neg (by rw [zu_min3 (show s + 1 ≤ 40 by omega) (by omega)]; omega)]
    rw [if_pos (fun w => nI_in (show s + 1 - 1 < 41 by omega) (by omega) |> fun z => by rw [pk_sub (show 1 ≤ s + 1 by omega)]; exact z)]
    rw [if_pos (nI_in (show s + 1 < 41 by omega) (by omega)), nI_clamp (by omega), zm_lb (by omega) (by omega) (by omega), show zh_r I 79 (zh_up g (s + 1) (-1000000)) 79 = zh_up g (s + 1) (-1000000) from rfl, zh_lb_c (by omega) (by omega) cu, zh_ru]
    rw [show zh_up g (s + 1) (-1000000) (s + 1) = -1000000 from if_pos rfl, if_pos (by rw [b1]; exact big), zo_X12_lamps_83]
    unfold zb_X12_lamps_83
    have uu : zh_up (zh_up g (s + 1) (-1000000)) (s + 1) (zh_lb g (s + 1) 1) = zh_up g (s + 1) (zh_lb g (s + 1) 1) := by
      funext i
      unfold zh_up
      split <;> rfl
    rw [uu, nI_1]
    refine zm_take_l (N := N) (I := I) (J := J) (n := n) (l := s + 1) (by omega) (by omega) g (fun r => ∃ g', r = some (100 + zh_lt n n, zz_u (zh_r I 79 g') 52 6 1, zz_u J 56 0 (nI (zh_ft (zh_lt (n - 1)) n 2)).toInt64)) 2 0 m (by omega) (by omega) (fun m' hm => ?_)
    refine ih (s + 1) m' _ _ (by omega) (by omega) (fun j a b => ?_) (fun _ => zh_ft_c (by omega) cg 2)
    show (if j = s + 1 then _ else _) = (if j = s + 1 then _ else _)
    by_cases q : j = s + 1
    · rw [if_pos q, if_pos q, zh_lb_c ft.1 ft.2.2 cg, zh_ft_c (by omega) cg]
    · rw [if_neg q, if_neg q]
      exact hg j a (by omega)
theorem zy_lamps {N n : Nat} (hN : 100000 ≤ N) {I : Nat → Nat → Int32} {J : Nat → Nat → Int64} {F : zz_F} (h : zi n I J F) (x : Int32) : ∃ v I1 J1 I2 J2, zf_X11_lamps N x I J = some (v, I1, J1) ∧ zf_X12_lamps N x I1 J1 = some (v, I2, J2) ∧ zi n I2 J2 F := by
  obtain ⟨M, rfl⟩ := zu_one N hN
  have dec : (x < 1 ∨ 40 < x) ∨ ∃ v, 1 ≤ v ∧ v ≤ 40 ∧ x = nI v := by
    rcases zu_bet x 40 (by omega) with (q | q) | ⟨v, hv, rfl⟩
    · exact .inl (.inl (Int32.lt_trans q (by decide)))
    · exact .inl (.inr q)
    · by_cases z : v = 0
      · subst z; exact .inl (.inl (by decide))
      · exact .inr ⟨v, by omega, hv, rfl⟩
  rcases dec with q | ⟨v, h0, hv, rfl⟩
  · have a : zf_X11_lamps (M + 1) x I J = some (-1, I, J) := by
      rw [zo_X11_lamps]
      unfold zb_X11_lamps_0
      rcases q with q | q
      · exact zu_gd q rfl
      · by_cases z : x < 1
        · exact zu_gd z rfl
        · exact zu_gn z (zu_gn (Int32.not_le.mpr q) rfl)
    have b : zf_X12_lamps (M + 1) x I J = some (-1, zz_u I 52 7 0, J) := by
      rw [zo_X12_lamps]
      refine zu_gn (fun w => w ?_) rfl
      unfold zv_X12_in
      rcases q with q | q
      · rw [if_pos q]
      · by_cases z : x < 1
        · rw [if_pos z]
        · rw [if_neg z, if_pos q]
    exact ⟨_, _, _, _, _, a, b, zi_q0 h⟩
  · obtain ⟨g, e1, e2⟩ := zs_fill_l hN (I := I) (J := J) hv v 0 M (I 51) (by omega) (by omega) (fun j a b => by omega)
    have cg : ∀ j, 1 ≤ j → j < v → g j = zh_lt (v - 1) j := fun j a b => by
      rw [e2 j a (by omega), show v = v - 1 + 1 by omega, zh_lt_old _ _ (by omega)]
      rfl
    have a : zf_X11_lamps (M + 1) (nI v) I J = some (100 + zh_lt v v, zz_u (zh_r I 51 g) 2 3 1, zz_u J 4 0 (nI (zh_ft (zh_lt (v - 1)) v 2)).toInt64) := by
      rw [zo_X11_lamps]
      unfold zb_X11_lamps_0
      rw [if_neg (show ¬ nI v < 1 from nI_nlt (b := 1) h0 (by omega)), if_pos (show nI v ≤ 40 from nI_le (b := 40) hv (by omega))]
      have ef : zf_X2_fillLeads (M + 1) (nI v) I J = some (0, zh_r I 51 g, J) := by
        rw [zo_X2_fillLeads]
        rw [zh_rs] at e1
        exact e1
      refine zu_bd ef ?_
      refine zu_bd (zs_take hN (I := zh_r I 51 g) h0 hv) ?_
      simp only [zu_t1, zu_x1]
      rw [show zh_r I 51 g 51 = g from rfl, zh_ft_c h0 cg]
      have : zv_X2_leadWith (zz_u (zh_r I 51 g) 2 3 1) (nI v) = g v := by
        unfold zv_X2_leadWith
        rw [if_neg (nI_pos (by omega)), if_neg (nI_ge (show v < 41 by omega) (by omega)), nI_clamp (by omega)]
        rfl
      rw [this, e2 v h0 (Nat.le_refl v)]
    have b : ∀ (I' : Nat → Nat → Int32) (J : Nat → Nat → Int64), ∃ g', zf_X12_lamps (M + 1) (nI v) I' J = some (100 + zh_lt v v, zz_u (zh_r (zz_u I' 52 7 0) 79 g') 52 6 1, zz_u J 56 0 (nI (zh_ft (zh_lt (v - 1)) v 2)).toInt64) := by
      intro I' J
      rw [zo_X12_lamps]
      unfold zb_X12_lamps_0
      rw [if_pos (by
        unfold zv_X12_in
        rw [if_neg (show ¬ nI v < 1 from nI_nlt (b := 1) h0 (by omega)), if_neg (show ¬ (40 : Int32) < nI v from nI_nlt (a := 40) hv (by omega))]
        decide)]
      have := zm_lamps_l (N := M + 1) (I := zz_u I' 52 7 0) (J := J) h0 hv v 0 M 0 (zz_u I' 52 7 0 79) (by omega) (by omega) (fun j a b => by omega) (fun w => by omega)
      rw [zh_rs] at this
      exact this
    obtain ⟨g', b⟩ := b (zz_u (zh_r I 51 g) 2 3 1) (zz_u J 4 0 (nI (zh_ft (zh_lt (v - 1)) v 2)).toInt64)
    exact ⟨_, _, _, _, _, a, b, zi_told h (zk_u rfl (zk_r (fun _ => rfl) (zk_u rfl (zk_u rfl (zk_r (fun _ => rfl) (zk_refl I)))))) (zi_tol1 rfl rfl rfl) h.2.2.2.2.2.2.2.2⟩
