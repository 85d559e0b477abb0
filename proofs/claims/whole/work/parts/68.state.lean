/-! WHAT HOLDS, PART BY PART -/
theorem zc_sc {n : Nat} {I I' : Nat → Nat → Int32} (h : zi_sc n I) (e5 : I' 5 2 = I 5 2) (e6 : I' 6 = I 6) (e7 : I' 7 = I 7) (e52 : I' 52 1 = I 52 1) (e54 : I' 54 = I 54) : zi_sc n I' := by
  unfold zi_sc at h ⊢; rw [e5, e6, e7, e52, e54]; exact h
theorem zc_txt {I I' : Nat → Nat → Int32} (h : zi_txt I) (e2 : I' 2 1 = I 2 1) (e52 : I' 52 4 = I 52 4) (e3 : I' 3 = I 3) (e55 : I' 55 = I 55) : zi_txt I' := by
  unfold zi_txt at h ⊢; rw [e2, e52, e3, e55]; exact h
theorem zc_tol {I I' : Nat → Nat → Int32} {J J' : Nat → Nat → Int64} (h : zi_tol I J) (e2 : I' 2 3 = I 2 3) (e52 : I' 52 6 = I 52 6) (e4 : J' 4 = J 4) (e56 : J' 56 = J 56) : zi_tol I' J' := by
  unfold zi_tol at h ⊢; rw [e2, e52, e4, e56]; exact h
theorem zc_bow {I I' : Nat → Nat → Int32} (h : zi_bow I) (a : I' 2 15 = I 2 15) (b : I' 2 16 = I 2 16) (c : I' 52 43 = I 52 43) (d : I' 52 44 = I 52 44) : zi_bow I' := by
  unfold zi_bow at h ⊢; rw [a, b, c, d]; exact h
theorem zc_rng {n : Nat} {I I' : Nat → Nat → Int32} (h : zi_rng n I) (a : I' 9 4 = I 9 4) (b : I' 9 5 = I 9 5) (c : I' 52 20 = I 52 20) (d : I' 61 = I 61) (e : ∀ k, k < 12 → I' (14 + k) = I (14 + k)) : zi_rng n I' := by
  obtain ⟨m, t, a1, a2, a3, a4, a5, a6⟩ := h
  exact ⟨m, t, a1, a2, by rw [b]; exact a3, by rw [c]; exact a4, by rw [a]; exact a5, fun k hq => by rw [d, e _ (Nat.mod_lt _ (by omega))]; exact a6 k hq⟩
theorem zc_shl {n : Nat} {I I' : Nat → Nat → Int32} (h : zi_shl n I) (a : I' 52 45 = I 52 45) (b : I' 12 = I 12) (c : I' 81 = I 81) (d : I' 82 = I 82) (e : I' 80 = I 80) (f : ∀ k, k < 2 → I' (26 + k) = I (26 + k)) : zi_shl n I' := by
  obtain ⟨c0, a1, a2, a3⟩ := h
  refine ⟨c0, a1, by rw [a]; exact a2, fun i hi => ?_⟩
  rw [b, c, d, a, e, f i hi]
  exact a3 i hi
theorem zc_rul {n : Nat} {I I' : Nat → Nat → Int32} (h : zi_rul n I) (a : I' 52 16 = I 52 16) (b : I' 28 3 = I 28 3) (c : I' 28 4 = I 28 4) (d : I' 29 = I 29) (e : I' 31 = I 31) (f : I' 58 = I 58) (g : I' 54 = I 54) : zi_rul n I' := by
  unfold zi_rul at h ⊢; rw [a, b, c, d, e, f, g]; exact h
/-- copies of nights leave all else as it was -/
theorem zu_cpn {I : Nat → Nat → Int32} {a b x : Nat} (h : x ≠ a) : zz_cpn I a b x = I x := by
  funext i
  unfold zz_cpn
  rw [if_neg (fun w => h w.1)]
theorem zu_cpi {I : Nat → Nat → Int32} {a b i : Nat} (h : i < 9) : zz_cpn I a b a i = I b i := by
  unfold zz_cpn
  rw [if_pos ⟨rfl, h⟩]
theorem zu_ux {α : Type} {f : Nat → Nat → α} {a i x : Nat} {v : α} (h : x ≠ a) : zz_u f a i v x = f x := by
  funext j
  unfold zz_u
  rw [if_neg (fun w => h w.1)]
theorem zu_rx {α : Type} {f : Nat → Nat → α} {a x : Nat} {g : Nat → α} (h : x ≠ a) : zh_r f a g x = f x := by
  funext j
  unfold zh_r
  rw [if_neg h]
/-! end, pause, bow, forget -/
theorem zy_end {N n : Nat} (hN : 100000 ≤ N) {I : Nat → Nat → Int32} {J : Nat → Nat → Int64} {F : zz_F} (h : zi n I J F) (x : Int32) : zv_X11_end I x = zv_X12_end (zw_X11_end I x) x ∧ zi n (zw_X12_end (zw_X11_end I x) x) J F := by
  obtain ⟨t, ht, e1, e2⟩ := h.2.2.1.1
  by_cases c : x < 0 ∨ nI t < x
  · have a : zw_X11_end I x = I := by
      unfold zw_X11_end
      rcases c with c | c
      · rw [if_pos c]
      · by_cases z : x < 0
        · rw [if_pos z]
        · rw [if_neg z, e1, if_neg (Int32.not_le.mpr c)]
    have a2 : zv_X11_end I x = 0 := by
      unfold zv_X11_end
      rcases c with c | c
      · rw [if_pos c]
      · by_cases z : x < 0
        · rw [if_pos z]
        · rw [if_neg z, e1, if_neg (Int32.not_le.mpr c)]
    have b : zv_X12_in x 0 (I 52 4) = 0 := by rw [e2]; exact zu_inN t c
    rw [a, a2]
    unfold zv_X12_end zw_X12_end
    rw [b, if_neg (fun w => w rfl), if_neg (fun w => w rfl)]
    exact ⟨rfl, zi_q0 h⟩
  · have z : ¬ x < 0 := fun w => c (.inl w)
    have y : x ≤ nI t := Int32.not_lt.mp (fun w => c (.inr w))
    obtain ⟨v, hv, rfl⟩ := nI_of z
    have hv2 : v ≤ t := (nI_leI hv (by omega)).mp y
    have a : zw_X11_end I (nI v) = zz_u I 2 1 (nI v) := by unfold zw_X11_end; rw [if_neg z, e1, if_pos y]
    have a2 : zv_X11_end I (nI v) = 1 := by unfold zv_X11_end; rw [if_neg z, e1, if_pos y]
    have b : zv_X12_in (nI v) 0 ((zz_u I 2 1 (nI v)) 52 4) = 1 := by
      rw [show (zz_u I 2 1 (nI v)) 52 4 = I 52 4 from rfl, e2]
      exact zu_inY (by omega) hv2
    rw [a, a2]
    unfold zv_X12_end zw_X12_end
    rw [b, if_pos (by decide), if_pos (by decide)]
    exact ⟨rfl, h.1, h.2.1, ⟨⟨v, by omega, rfl, rfl⟩, h.2.2.1.2⟩, h.2.2.2.1, h.2.2.2.2.1, zc_rng h.2.2.2.2.2.1 rfl rfl rfl rfl (fun k hk => by simp (disch := omega) only [zu_ux, zu_cpn, zu_rx]), zc_shl h.2.2.2.2.2.2.1 rfl rfl rfl rfl rfl (fun k hk => by simp (disch := omega) only [zu_ux, zu_cpn, zu_rx]), h.2.2.2.2.2.2.2.1, h.2.2.2.2.2.2.2.2⟩
theorem zy_forget {N n : Nat} (hN : 100000 ≤ N) {I : Nat → Nat → Int32} {J : Nat → Nat → Int64} {F : zz_F} (h : zi n I J F) : zv_X11_forget I = zv_X12_forget (zw_X11_forget I) ∧ zi n (zw_X12_forget (zw_X11_forget I)) J F := by
  have hb := h.2.2.2.2.1
  show _ ∧ zi n (zz_u (zz_u (zz_u (zz_u (zz_u I 2 15 0) 2 16 0) 52 7 0) 52 43 0) 52 44 0) J F
  refine ⟨?_, h.1, h.2.1, h.2.2.1, h.2.2.2.1, ⟨rfl, rfl, fun i hi => hi, fun i _ => b_0 i⟩, zc_rng h.2.2.2.2.2.1 rfl rfl rfl rfl (fun k hk => by simp (disch := omega) only [zu_ux, zu_cpn, zu_rx]), zc_shl h.2.2.2.2.2.2.1 rfl rfl rfl rfl rfl (fun k hk => by simp (disch := omega) only [zu_ux, zu_cpn, zu_rx]), h.2.2.2.2.2.2.2.1, h.2.2.2.2.2.2.2.2⟩
  show zv_J6_bitCount (I 2 15) = zv_J6_bitCount (I 52 43)
  rw [hb.1]
theorem zy_bow {N n : Nat} (hN : 100000 ≤ N) {I : Nat → Nat → Int32} {J : Nat → Nat → Int64} {F : zz_F} (h : zi n I J F) (x y : Int32) : zv_X11_bow I x y = zv_X12_bow (zw_X11_bow I x y) x y ∧ zi n (zw_X12_bow (zw_X11_bow I x y) x y) J F := by
  have hb := h.2.2.2.2.1
  rcases zu_bet x 5 (by omega) with q | ⟨p, hp, rfl⟩
  · have a : zw_X11_bow I x y = I := by unfold zw_X11_bow; rw [if_pos (zu_perN q)]
    have a2 : zv_X11_bow I x y = -1 := by unfold zv_X11_bow; rw [if_pos (zu_perN q)]
    rw [a, a2]
    unfold zv_X12_bow zw_X12_bow
    rw [if_pos (show zv_X12_in x 0 5 = 0 from zu_inN 5 q), if_pos (show zv_X12_in x 0 5 = 0 from zu_inN 5 q)]
    exact ⟨rfl, zi_q0 h⟩
  · have p1 : ¬ zv_X11_isPerson (nI p) = 0 := by rw [zu_perY hp]; decide
    have p2 : ¬ zv_X12_in (nI p) 0 5 = 0 := by rw [show (5 : Int32) = nI 5 from rfl, zu_inY (by omega) hp]; decide
    rcases zu_bet y 1 (by omega) with q | ⟨v, hv, rfl⟩
    · have a : zw_X11_bow I (nI p) y = I := by
        unfold zw_X11_bow
        rw [if_neg p1]
        rcases q with q | q
        · rw [if_pos q]
        · by_cases z : y < 0
          · rw [if_pos z]
          · rw [if_neg z, if_neg (show ¬ y ≤ 1 from Int32.not_le.mpr q)]
      have a2 : zv_X11_bow I (nI p) y = -1 := by
        unfold zv_X11_bow
        rw [if_neg p1]
        rcases q with q | q
        · rw [if_pos q]
        · by_cases z : y < 0
          · rw [if_pos z]
          · rw [if_neg z, if_neg (show ¬ y ≤ 1 from Int32.not_le.mpr q)]
      rw [a, a2]
      unfold zv_X12_bow zw_X12_bow
      rw [if_neg p2, if_neg p2, if_neg (show ¬ ¬ zv_X12_in y 0 1 = 0 from fun w => w (zu_inN 1 q)), if_neg (show ¬ ¬ zv_X12_in y 0 1 = 0 from fun w => w (zu_inN 1 q))]
      exact ⟨rfl, zi_q0 h⟩
    · have p3 : ¬ zv_X12_in (nI v) 0 1 = 0 := by rw [show (1 : Int32) = nI 1 from rfl, zu_inY (by omega) hv]; decide
      have v0 : ¬ nI v < 0 := nI_pos (by omega)
      have v1 : nI v ≤ 1 := nI_le (b := 1) hv (by omega)
      have hc := hb.2.2.1
      have hd := hb.2.2.2
      have big : ∀ i, 6 ≤ i → bt (I 52 43 ||| ((1 : Int32) <<< (nI p &&& 31))) i = false := fun i hi => by
        rcases Nat.lt_or_ge i 32 with w | w
        · rw [b_or, hd i hi, b_bit p (by omega) w]
          simp; omega
        · exact b_big w
      have sub1 : ∀ i, bt (I 52 44 ||| ((1 : Int32) <<< (nI p &&& 31))) i = true → bt (I 52 43 ||| ((1 : Int32) <<< (nI p &&& 31))) i = true := fun i hi => by
        rw [b_or] at hi ⊢
        cases c1 : bt (I 52 44) i
        · rw [c1, Bool.false_or] at hi
          rw [hi, Bool.or_true]
        · rw [hc i c1, Bool.true_or]
      have sub0 : ∀ i, bt (I 52 44 &&& (((1 : Int32) <<< (nI p &&& 31)) ^^^ (-1))) i = true → bt (I 52 43 ||| ((1 : Int32) <<< (nI p &&& 31))) i = true := fun i hi => by
        rw [b_and] at hi
        rw [b_or]
        cases c1 : bt (I 52 44) i
        · rw [c1, Bool.false_and] at hi; cases hi
        · rw [hc i c1, Bool.true_or]
      have e1 : (I 52 44 &&& (((1 : Int32) <<< (nI p &&& 31)) ^^^ (-1))) ||| ((1 : Int32) <<< (nI p &&& 31)) = I 52 44 ||| ((1 : Int32) <<< (nI p &&& 31)) := by
        apply b_ext
        intro i hi
        rw [b_or, b_and, b_not hi, b_or]
        cases bt (I 52 44) i <;> cases bt ((1 : Int32) <<< (nI p &&& 31)) i <;> rfl
      have e0 : (I 52 44 &&& (((1 : Int32) <<< (nI p &&& 31)) ^^^ (-1))) ||| ((0 : Int32) <<< (nI p &&& 31)) = I 52 44 &&& (((1 : Int32) <<< (nI p &&& 31)) ^^^ (-1)) := by
        have z : (0 : Int32) <<< (nI p &&& 31) = 0 := by
          apply b_ext
          intro i hi
          rw [b_shl p (by omega) 0 hi, b_0, b_0, Bool.and_false]
        rw [z, zu_or0]
      refine ⟨?_, ?_⟩
      · unfold zv_X11_bow zv_X12_bow
        rw [if_neg p1, if_neg v0, if_pos v1, if_neg p2, if_pos p3, hb.1]
        congr 2
        unfold zw_X11_bow
        rw [if_neg p1, if_neg v0, if_pos v1]
        split <;> rfl
      · unfold zw_X12_bow
        rw [if_neg p2, if_pos p3]
        unfold zw_X11_bow
        rw [if_neg p1, if_neg v0, if_pos v1]
        rcases (by omega : v = 0 ∨ v = 1) with rfl | rfl
        · rw [if_pos (by decide), hb.1, hb.2.1]
          exact ⟨h.1, h.2.1, h.2.2.1, h.2.2.2.1, ⟨rfl, e0.symm, fun i hi => sub0 i (by rw [← e0]; exact hi), big⟩, zc_rng h.2.2.2.2.2.1 rfl rfl rfl rfl (fun k hk => by simp (disch := omega) only [zu_ux, zu_cpn, zu_rx]), zc_shl h.2.2.2.2.2.2.1 rfl rfl rfl rfl rfl (fun k hk => by simp (disch := omega) only [zu_ux, zu_cpn, zu_rx]), h.2.2.2.2.2.2.2.1, h.2.2.2.2.2.2.2.2⟩
        · rw [if_neg (fun w => w rfl), hb.1, hb.2.1]
          exact ⟨h.1, h.2.1, h.2.2.1, h.2.2.2.1, ⟨rfl, e1.symm, fun i hi => sub1 i (by rw [← e1]; exact hi), big⟩, zc_rng h.2.2.2.2.2.1 rfl rfl rfl rfl (fun k hk => by simp (disch := omega) only [zu_ux, zu_cpn, zu_rx]), zc_shl h.2.2.2.2.2.2.1 rfl rfl rfl rfl rfl (fun k hk => by simp (disch := omega) only [zu_ux, zu_cpn, zu_rx]), h.2.2.2.2.2.2.2.1, h.2.2.2.2.2.2.2.2⟩
