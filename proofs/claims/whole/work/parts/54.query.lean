/-! WHO, KINGS -/
theorem zu_in0 {x hi : Int32} (q : x < 0) : zv_X12_in x 0 hi = 0 := by unfold zv_X12_in; rw [if_pos q]
theorem zu_in1 {x hi : Int32} (q : hi < x) : zv_X12_in x 0 hi = 0 := by unfold zv_X12_in; by_cases p : x < 0; rw [if_pos p]; rw [if_neg p, if_pos q]
theorem zu_in2 {x hi : Int32} (p : ¬ x < 0) (q : ¬ hi < x) : zv_X12_in x 0 hi = 1 := by unfold zv_X12_in; rw [if_neg p, if_neg q]
/-- a number between 0 and k, or not, for both -/
theorem zu_bet (x : Int32) (k : Nat) (hk : k < 1000) : (x < 0 ∨ nI k < x) ∨ ∃ v, v ≤ k ∧ x = nI v := by
  by_cases h : x < 0
  · exact .inl (.inl h)
  · by_cases g : nI k < x
    · exact .inl (.inr g)
    · obtain ⟨j, hj, e⟩ := nI_of h
      refine .inr ⟨j, ?_, e⟩
      rw [e, nI_ltI (by omega) hj] at g
      omega
theorem zu_inN {x : Int32} (k : Nat) (h : x < 0 ∨ nI k < x) : zv_X12_in x 0 (nI k) = 0 := h.elim zu_in0 zu_in1
theorem zu_inY {k v : Nat} (hk : k < 1000) (h : v ≤ k) : zv_X12_in (nI v) 0 (nI k) = 1 := zu_in2 (nI_pos (by omega)) (fun q => by rw [nI_ltI (by omega) (by omega)] at q; omega)
theorem zu_perN {x : Int32} (h : x < 0 ∨ nI 5 < x) : zv_X11_isPerson x = 0 := by
  unfold zv_X11_isPerson
  rcases h with q | q
  · rw [if_pos q]
  · split
    · rfl
    · next p =>
      obtain ⟨j, hj, rfl⟩ := nI_of p
      rw [nI_ltI (by omega) hj] at q
      rw [if_pos (show (6 : Int32) ≤ nI j from (nI_leI (a := 6) (by omega) hj).mpr (by omega))]
theorem zu_perY {v : Nat} (h : v ≤ 5) : zv_X11_isPerson (nI v) = 1 := by
  unfold zv_X11_isPerson
  rw [if_neg (nI_pos (by omega)), if_neg (show ¬ (6 : Int32) ≤ nI v from fun q => by rw [show (6 : Int32) = nI 6 from rfl, nI_leI (by omega) (by omega)] at q; omega)]
theorem zs_who {N n : Nat} (hN : 100000 ≤ N) {I : Nat → Nat → Int32} {J : Nat → Nat → Int64} {F : zz_F} (h : zi n I J F) {x : Nat} (hx : x ≤ 5) : zf_X11_who N (nI x) I J = some (zu_set (fun s => decide (¬ I 54 (7 * s + 2) &&& ((1 : Int32) <<< (nI x &&& 31)) = 0)) n, zz_u I 2 3 2, zz_u (zz_u J 4 0 (zv_J6_bitCount (zh_P n (I 54) (zu_set (fun s => decide (¬ I 54 (7 * s + 2) &&& ((1 : Int32) <<< (nI x &&& 31)) = 0)) n) 0)).toInt64) 4 1 (zv_J6_bitCount (zh_P n (I 54) (zu_set (fun s => decide (¬ I 54 (7 * s + 2) &&& ((1 : Int32) <<< (nI x &&& 31)) = 0)) n) 1)).toInt64) := by
  obtain ⟨M, rfl⟩ := zu_one N hN
  rw [zo_X11_who]
  unfold zb_X11_who_0
  refine zu_gd (by rw [zu_perY hx]; decide) (zu_bd (zs_with hN h.1 _) ?_)
  simp only [zs_of0 h.1, zs_of1 h.1, zu_t2, zu_x2]
theorem zm_who {N n : Nat} (hN : 100000 ≤ N) (hn : n ≤ 12) {I : Nat → Nat → Int32} {J : Nat → Nat → Int64} (h1 : I 52 1 = nI n) {x : Nat} (hx : x ≤ 5) : zf_X12_who N (nI x) I J = some (zu_set (fun s => decide (¬ I 54 (7 * s + 2) &&& ((1 : Int32) <<< (nI x &&& 31)) = 0)) n, zz_u (zz_u I 52 7 0) 52 6 2, zz_u (zz_u J 56 0 (zv_J6_bitCount (zh_P n (I 54) (zu_set (fun s => decide (¬ I 54 (7 * s + 2) &&& ((1 : Int32) <<< (nI x &&& 31)) = 0)) n) 0)).toInt64) 56 1 (zv_J6_bitCount (zh_P n (I 54) (zu_set (fun s => decide (¬ I 54 (7 * s + 2) &&& ((1 : Int32) <<< (nI x &&& 31)) = 0)) n) 1)).toInt64) := by
  obtain ⟨M, rfl⟩ := zu_one N hN
  rw [zo_X12_who]
  unfold zb_X12_who_0
  simp only [zu_m1, zu_m2, zu_m3, zu_y1, zu_y2, zu_y3, zz_us, zu_ga, zu_gb, zu_gc, not_false_eq_true, if_true, ite_true, zu_t1, zu_t2, zu_t3, zu_x1, zu_x2, zu_x3]
  refine zu_gd (by rw [show (5 : Int32) = nI 5 from rfl, zu_inY (by omega) hx]; decide) (zu_bd (zm_with hN hn (by exact h1) _ _) (zu_bd (zm_ofPlay hN hn (by exact h1) _ _) (zu_bd (zm_ofPlay hN hn (by exact h1) _ _) ?_)))
  rw [h1, zh_T_all hn]
  rfl
theorem zy_who {N n : Nat} (hN : 100000 ≤ N) {I : Nat → Nat → Int32} {J : Nat → Nat → Int64} {F : zz_F} (h : zi n I J F) (x : Int32) : ∃ v I1 J1 I2 J2, zf_X11_who N x I J = some (v, I1, J1) ∧ zf_X12_who N x I1 J1 = some (v, I2, J2) ∧ zi n I2 J2 F := by
  rcases zu_bet x 5 (by omega) with q | ⟨v, hv, rfl⟩
  · obtain ⟨M, rfl⟩ := zu_one N hN
    exact ⟨_, _, _, _, _, zu_gn (fun p => p (zu_perN q)) rfl, zu_gn (fun p => p (zu_inN 5 q)) rfl, zi_q0 h⟩
  · exact ⟨_, _, _, _, _, zs_who hN h hv, zm_who (I := zz_u I 2 3 2) hN h.1.1 h.1.2.1 hv, zi_q2 h _ _⟩
