/-! A LINE IN THE REFERENCE, READ -/
theorem zn_g_c {k w : Nat} {B : Nat → Nat → Int32} {fl fl' : Nat → Int32} (h : zn_g k w B fl) (e : ∀ i, i < w → fl i = fl' i) : zn_g k w B fl' := fun i hi => (h i hi).trans (e i hi)
theorem zn_f6 (p mi pe pr to ne ch ch' : Int32) : ∀ i, i < 6 → zn_fl p mi pe pr to ne ch i = zn_fl p mi pe pr to ne ch' i := fun i hi => by
  rcases (by omega : i = 0 ∨ i = 1 ∨ i = 2 ∨ i = 3 ∨ i = 4 ∨ i = 5) with rfl | rfl | rfl | rfl | rfl | rfl <;> rfl
theorem zn_f5 (p mi pe pr to ne ne' ch ch' : Int32) : ∀ i, i < 5 → zn_fl p mi pe pr to ne ch i = zn_fl p mi pe pr to ne' ch' i := fun i hi => by
  rcases (by omega : i = 0 ∨ i = 1 ∨ i = 2 ∨ i = 3 ∨ i = 4) with rfl | rfl | rfl | rfl | rfl <;> rfl
theorem zn_f4 (p mi pe pr to to' ne ne' ch ch' : Int32) : ∀ i, i < 4 → zn_fl p mi pe pr to ne ch i = zn_fl p mi pe pr to' ne' ch' i := fun i hi => by
  rcases (by omega : i = 0 ∨ i = 1 ∨ i = 2 ∨ i = 3) with rfl | rfl | rfl | rfl <;> rfl
theorem zn_f3 (p mi pe pr pr' : Int32) : ∀ i, i < 3 → zn_fl p mi pe pr 0 0 0 i = zn_fl p mi pe pr' 0 0 0 i := fun i hi => by
  rcases (by omega : i = 0 ∨ i = 1 ∨ i = 2) with rfl | rfl | rfl <;> rfl
theorem zn_f2 (p mi pe pe' : Int32) : ∀ i, i < 2 → zn_fl p mi pe 0 0 0 0 i = zn_fl p mi pe' 0 0 0 0 i := fun i hi => by
  rcases (by omega : i = 0 ∨ i = 1) with rfl | rfl <;> rfl
theorem zn_f1 (p mi mi' : Int32) : ∀ i, i < 1 → zn_fl p mi 0 0 0 0 0 i = zn_fl p mi' 0 0 0 0 0 i := fun i hi => by
  obtain rfl : i = 0 := by omega
  rfl
theorem zn_ok7 {N : Nat} (hN : 100000 ≤ N) {k : Nat} (hk : k < 12) {J : Nat → Nat → Int64} {F : zz_F} {len : Nat} (hl : len ≤ 80) {t : Nat → Int32} (hb : ∀ i, i < min len 76 → ∃ b, b < 256 ∧ t i = (nI b).toInt8.toInt32) {p mi pe pr to ne : Int32} {B : Nat → Nat → Int32} (h : zn_B B F len t) (hg : zn_g k 6 B (zn_fl p mi pe pr to ne 0)) {a : Nat} (ha : a ≤ 80) : zn_P k B J F (zn_t7 N (nI (7 * k)) (zr_m B (nI a) (-1)) J F) (zn_p7 (zq_h (min len 76) t) p mi pe pr to ne a) := by
  have g := zn_gu hk (show 6 < 7 by omega)
  have nd := zr_need hN (J := J) (zr_ok_u h hl) (show a < 1000 by omega) 61
  unfold zn_t7 zn_p7
  by_cases c : zq_h (min len 76) t a = 61
  · rw [if_pos c] at nd ⊢
    have on := zr_one hN (J := J) (zr_ok_u h hl) hb (show a + 1 < 1000 by omega) (c := 48) (k := 10) (by omega) (by omega)
    by_cases d : 48 ≤ zq_h (min len 76) t (a + 1) ∧ zq_h (min len 76) t (a + 1) ≤ 57
    · rw [if_pos (show nI 48 ≤ zq_h (min len 76) t (a + 1) ∧ zq_h (min len 76) t (a + 1) ≤ nI (48 + 10 - 1) from d)] at on
      rw [if_pos d]
      refine ⟨zz_u B 57 (7 * k + 6) (zq_h (min len 76) t (a + 1) - 48), zn_fr_u (zn_fr_refl k B) 6 _, zn_g_u (zn_g_c hg (zn_f6 _ _ _ _ _ _ _ _)) rfl, zu_bd nd (zu_bd on (zu_gd g.1 ?_))⟩
      show some ((0 : Int32), zz_u (zr_m B (nI (a + 1 + 1)) (-1)) 57 ((nI (7 * k) + nI 6).toNatClampNeg) _, J, F) = _
      rw [g.2, zr_u57]
      rfl
    · rw [if_neg (show ¬ (nI 48 ≤ zq_h (min len 76) t (a + 1) ∧ zq_h (min len 76) t (a + 1) ≤ nI (48 + 10 - 1)) from d)] at on
      rw [if_neg d]
      refine zn_P_bad (a := a + 1) (by omega) ⟨zz_u B 57 (7 * k + 6) 0, zn_fr_u (zn_fr_refl k B) 6 _, zu_bd nd (zu_bd on (zu_gd g.1 ?_))⟩
      show some ((0 : Int32), zz_u (zr_m B (nI (a + 1)) (nI (a + 1))) 57 ((nI (7 * k) + nI 6).toNatClampNeg) _, J, F) = _
      rw [g.2, zr_u57]
  · rw [if_neg c] at nd ⊢
    refine zn_P_bad (a := a) (by omega) ⟨zz_u B 57 (7 * k + 6) 0, zn_fr_u (zn_fr_refl k B) 6 _, zu_bd nd (zu_bd (zr_oneB hN (show a < 1000 by omega) _ _) (zu_gd g.1 ?_))⟩
    show some ((0 : Int32), zz_u (zr_m B (nI a) (nI a)) 57 ((nI (7 * k) + nI 6).toNatClampNeg) _, J, F) = _
    rw [g.2, zr_u57]
theorem zn_ok5 {N : Nat} (hN : 100000 ≤ N) {k : Nat} (hk : k < 12) {J : Nat → Nat → Int64} {F : zz_F} {len : Nat} (hl : len ≤ 80) {t : Nat → Int32} (hb : ∀ i, i < min len 76 → ∃ b, b < 256 ∧ t i = (nI b).toInt8.toInt32) {p mi pe pr to : Int32} {B : Nat → Nat → Int32} (h : zn_B B F len t) (hg : zn_g k 5 B (zn_fl p mi pe pr to 0 0)) {a : Nat} (ha : a ≤ min len 76) : zn_P k B J F (zn_t5 N (nI (7 * k)) (zr_m B (nI a) (-1)) J F) (zn_p5 (zq_h (min len 76) t) p mi pe pr to a) := by
  have g := zn_gu hk (show 5 < 7 by omega)
  have ps := zr_pass hN (J := J) (zr_ok_u h hl) (show a < 1000 by omega) 60
  unfold zn_t5 zn_p5
  by_cases c : zq_h (min len 76) t a = 60
  · rw [if_pos c] at ps ⊢
    have am := zq_hlt (k := 60) (by omega) c
    have on := zr_one hN (J := J) (zr_ok_u h hl) hb (show a + 1 < 1000 by omega) (c := 97) (k := 8) (by omega) (by omega)
    rw [ps, Option.bind_some, if_neg (show ¬ (1 : Int32) = 0 by decide)]
    by_cases d : 97 ≤ zq_h (min len 76) t (a + 1) ∧ zq_h (min len 76) t (a + 1) ≤ 104
    · rw [if_pos (show nI 97 ≤ zq_h (min len 76) t (a + 1) ∧ zq_h (min len 76) t (a + 1) ≤ nI (97 + 8 - 1) from d)] at on
      have am2 := zh_rl (c := 97) (k := 0) (by omega) d.1
      rw [if_pos d]
      have := zn_ok7 hN hk (J := J) hl hb (zn_B_u h (7 * k + 5) (zq_h (min len 76) t (a + 1) - 97)) (zn_g_u (zn_g_c hg (zn_f5 p mi pe pr to 0 (zq_h (min len 76) t (a + 1) - 97) 0 0)) rfl) (show a + 2 ≤ 80 by omega)
      refine zn_P_pre (zn_fr_u (zn_fr_refl k B) 5 (zq_h (min len 76) t (a + 1) - 97)) ?_
      have e : ((zf_X12_oneOf N 97 8 (zr_m B (nI (a + 1)) (-1)) J F).bind fun q => if ¬ ((nI (7 * k) + 5) < 0 ∨ 84 ≤ (nI (7 * k) + 5).toNatClampNeg) then zn_t7 N (nI (7 * k)) (zz_u q.2.1 57 ((nI (7 * k) + 5).toNatClampNeg) q.1) q.2.2.1 q.2.2.2 else none) = zn_t7 N (nI (7 * k)) (zr_m (zz_u B 57 (7 * k + 5) (zq_h (min len 76) t (a + 1) - 97)) (nI (a + 2)) (-1)) J F := by
        refine zu_bd on (zu_gd g.1 ?_)
        show zn_t7 N (nI (7 * k)) (zz_u (zr_m B (nI (a + 1 + 1)) (-1)) 57 ((nI (7 * k) + nI 5).toNatClampNeg) _) J F = _
        rw [g.2, zr_u57]
        rfl
      rw [e]
      exact this
    · rw [if_neg (show ¬ (nI 97 ≤ zq_h (min len 76) t (a + 1) ∧ zq_h (min len 76) t (a + 1) ≤ nI (97 + 8 - 1)) from d)] at on
      rw [if_neg d]
      obtain ⟨B', f1, e1⟩ := zn_b7 hN hk (B := zz_u B 57 (7 * k + 5) 0) (J := J) (F := F) (a := nI (a + 1)) (show a + 1 < 1000 by omega)
      refine zn_P_bad (a := a + 1) (by omega) ⟨B', ⟨fun y hy => by rw [f1.1 y hy, zu_ux hy], fun j hj => by rw [f1.2 j hj, zz_un (by omega)]⟩, zu_bd on (zu_gd g.1 ?_)⟩
      show zn_t7 N (nI (7 * k)) (zz_u (zr_m B (nI (a + 1)) (nI (a + 1))) 57 ((nI (7 * k) + nI 5).toNatClampNeg) 0) J F = _
      rw [g.2, zr_u57]
      exact e1
  · rw [if_neg c] at ps ⊢
    have := zn_ok7 hN hk (J := J) hl hb (zn_B_u h (7 * k + 5) (-1)) (zn_g_u (zn_g_c hg (zn_f5 p mi pe pr to 0 (-1) 0 0)) rfl) (show a ≤ 80 by omega)
    refine zn_P_pre (zn_fr_u (zn_fr_refl k B) 5 (-1)) ?_
    rw [ps, Option.bind_some, if_pos rfl, if_pos (show ¬ ((nI (7 * k) + 5) < 0 ∨ 84 ≤ (nI (7 * k) + 5).toNatClampNeg) from g.1)]
    have e : zz_u (zr_m B (nI a) (-1)) 57 ((nI (7 * k) + nI 5).toNatClampNeg) (-1) = zr_m (zz_u B 57 (7 * k + 5) (-1)) (nI a) (-1) := by rw [g.2, zr_u57]
    show zn_P k _ J F (zn_t7 N (nI (7 * k)) (zz_u (zr_m B (nI a) (-1)) 57 ((nI (7 * k) + nI 5).toNatClampNeg) (-1)) J F) _
    rw [e]
    exact this
theorem zn_ok4 {N : Nat} (hN : 100000 ≤ N) {k : Nat} (hk : k < 12) {J : Nat → Nat → Int64} {F : zz_F} {len : Nat} (hl : len ≤ 80) {t : Nat → Int32} (hb : ∀ i, i < min len 76 → ∃ b, b < 256 ∧ t i = (nI b).toInt8.toInt32) {p mi pe pr : Int32} {B : Nat → Nat → Int32} (h : zn_B B F len t) (hg : zn_g k 4 B (zn_fl p mi pe pr 0 0 0)) {a : Nat} (ha : a ≤ min len 76) : zn_P k B J F (zn_t4 N (nI (7 * k)) (zr_m B (nI a) (-1)) J F) (zn_p4 (zq_h (min len 76) t) p mi pe pr a) := by
  have g := zn_gu hk (show 4 < 7 by omega)
  have ps := zr_pass hN (J := J) (zr_ok_u h hl) (show a < 1000 by omega) 62
  unfold zn_t4 zn_p4
  by_cases c : zq_h (min len 76) t a = 62
  · rw [if_pos c] at ps ⊢
    have am := zq_hlt (k := 62) (by omega) c
    have on := zr_one hN (J := J) (zr_ok_u h hl) hb (show a + 1 < 1000 by omega) (c := 97) (k := 8) (by omega) (by omega)
    rw [ps, Option.bind_some, if_neg (show ¬ (1 : Int32) = 0 by decide)]
    by_cases d : 97 ≤ zq_h (min len 76) t (a + 1) ∧ zq_h (min len 76) t (a + 1) ≤ 104
    · rw [if_pos (show nI 97 ≤ zq_h (min len 76) t (a + 1) ∧ zq_h (min len 76) t (a + 1) ≤ nI (97 + 8 - 1) from d)] at on
      have am2 := zh_rl (c := 97) (k := 0) (by omega) d.1
      rw [if_pos d]
      have := zn_ok5 hN hk (J := J) hl hb (zn_B_u h (7 * k + 4) (zq_h (min len 76) t (a + 1) - 97)) (zn_g_u (zn_g_c hg (zn_f4 p mi pe pr 0 (zq_h (min len 76) t (a + 1) - 97) 0 0 0 0)) rfl) (show a + 2 ≤ min len 76 by omega)
      refine zn_P_pre (zn_fr_u (zn_fr_refl k B) 4 (zq_h (min len 76) t (a + 1) - 97)) ?_
      have e : ((zf_X12_oneOf N 97 8 (zr_m B (nI (a + 1)) (-1)) J F).bind fun q => if ¬ ((nI (7 * k) + 4) < 0 ∨ 84 ≤ (nI (7 * k) + 4).toNatClampNeg) then zn_t5 N (nI (7 * k)) (zz_u q.2.1 57 ((nI (7 * k) + 4).toNatClampNeg) q.1) q.2.2.1 q.2.2.2 else none) = zn_t5 N (nI (7 * k)) (zr_m (zz_u B 57 (7 * k + 4) (zq_h (min len 76) t (a + 1) - 97)) (nI (a + 2)) (-1)) J F := by
        refine zu_bd on (zu_gd g.1 ?_)
        show zn_t5 N (nI (7 * k)) (zz_u (zr_m B (nI (a + 1 + 1)) (-1)) 57 ((nI (7 * k) + nI 4).toNatClampNeg) _) J F = _
        rw [g.2, zr_u57]
        rfl
      rw [e]
      exact this
    · rw [if_neg (show ¬ (nI 97 ≤ zq_h (min len 76) t (a + 1) ∧ zq_h (min len 76) t (a + 1) ≤ nI (97 + 8 - 1)) from d)] at on
      rw [if_neg d]
      obtain ⟨B', f1, e1⟩ := zn_b5 hN hk (B := zz_u B 57 (7 * k + 4) 0) (J := J) (F := F) (a := nI (a + 1)) (show a + 1 < 1000 by omega)
      refine zn_P_bad (a := a + 1) (by omega) ⟨B', ⟨fun y hy => by rw [f1.1 y hy, zu_ux hy], fun j hj => by rw [f1.2 j hj, zz_un (by omega)]⟩, zu_bd on (zu_gd g.1 ?_)⟩
      show zn_t5 N (nI (7 * k)) (zz_u (zr_m B (nI (a + 1)) (nI (a + 1))) 57 ((nI (7 * k) + nI 4).toNatClampNeg) 0) J F = _
      rw [g.2, zr_u57]
      exact e1
  · rw [if_neg c] at ps ⊢
    have := zn_ok5 hN hk (J := J) hl hb (zn_B_u h (7 * k + 4) (-1)) (zn_g_u (zn_g_c hg (zn_f4 p mi pe pr 0 (-1) 0 0 0 0)) rfl) ha
    refine zn_P_pre (zn_fr_u (zn_fr_refl k B) 4 (-1)) ?_
    rw [ps, Option.bind_some, if_pos rfl, if_pos (show ¬ ((nI (7 * k) + 4) < 0 ∨ 84 ≤ (nI (7 * k) + 4).toNatClampNeg) from g.1)]
    have e : zz_u (zr_m B (nI a) (-1)) 57 ((nI (7 * k) + nI 4).toNatClampNeg) (-1) = zr_m (zz_u B 57 (7 * k + 4) (-1)) (nI a) (-1) := by rw [g.2, zr_u57]
    show zn_P k _ J F (zn_t5 N (nI (7 * k)) (zz_u (zr_m B (nI a) (-1)) 57 ((nI (7 * k) + nI 4).toNatClampNeg) (-1)) J F) _
    rw [e]
    exact this
theorem zn_ok3 {N : Nat} (hN : 100000 ≤ N) {k : Nat} (hk : k < 12) {J : Nat → Nat → Int64} {F : zz_F} {len : Nat} (hl : len ≤ 80) {t : Nat → Int32} (hb : ∀ i, i < min len 76 → ∃ b, b < 256 ∧ t i = (nI b).toInt8.toInt32) {p mi pe : Int32} {B : Nat → Nat → Int32} (h : zn_B B F len t) (hg : zn_g k 3 B (zn_fl p mi pe 0 0 0 0)) {a : Nat} (ha : a ≤ min len 76) : zn_P k B J F (zn_t3 N (nI (7 * k)) (zr_m B (nI a) (-1)) J F) (zn_p3 (zq_h (min len 76) t) p mi pe a) := by
  have g := zn_gu hk (show 3 < 7 by omega)
  have ri := zr_rif hN (J := J) (zr_ok_u h hl) (by omega) (lo := 49) (k := 3) (by omega) (by omega) ha
  unfold zn_t3 zn_p3
  generalize hq : zn_ri (zq_h (min len 76) t) 49 52 99 a 0 = q
  have ri : zr_riP B J F (zf_X12_rising N 49 4 (zr_m B (nI a) (-1)) J F) q := by rw [← hq]; exact ri
  cases q with
  | inl x =>
    obtain ⟨hx, v, e⟩ := ri
    obtain ⟨B', f1, e1⟩ := zn_b4 hN hk (B := zz_u B 57 (7 * k + 3) v) (J := J) (F := F) (a := nI x) (show x < 1000 by omega)
    refine zn_P_bad (a := x) hx ⟨B', ⟨fun y hy => by rw [f1.1 y hy, zu_ux hy], fun j hj => by rw [f1.2 j hj, zz_un (by omega)]⟩, zu_bd e (zu_gd g.1 ?_)⟩
    show zn_t4 N (nI (7 * k)) (zz_u (zr_m B (nI x) (nI x)) 57 ((nI (7 * k) + nI 3).toNatClampNeg) v) J F = _
    rw [g.2, zr_u57]
    exact e1
  | inr pr =>
    obtain ⟨b, c⟩ := pr
    have ri : zf_X12_rising N 49 4 (zr_m B (nI a) (-1)) J F = some (nI b, zr_m B (nI c) (-1), J, F) := ri
    obtain ⟨_, _, c2, _⟩ := zn_ri_ok (lo := 49) (k := 3) (by omega) (by omega) 16 (fun v hv j hj => zn_or4 v hv j (by omega)) 99 a 0 b c (by omega) ha (by omega) hq
    have := zn_ok4 hN hk (J := J) hl hb (zn_B_u h (7 * k + 3) (nI b)) (zn_g_u (zn_g_c hg (zn_f3 p mi pe 0 (nI b))) rfl) c2
    refine zn_P_pre (zn_fr_u (zn_fr_refl k B) 3 (nI b)) ?_
    have e : zz_u (zr_m B (nI c) (-1)) 57 ((nI (7 * k) + nI 3).toNatClampNeg) (nI b) = zr_m (zz_u B 57 (7 * k + 3) (nI b)) (nI c) (-1) := by rw [g.2, zr_u57]
    rw [ri, Option.bind_some, if_pos (show ¬ ((nI (7 * k) + 3) < 0 ∨ 84 ≤ (nI (7 * k) + 3).toNatClampNeg) from g.1)]
    show zn_P k _ J F (zn_t4 N (nI (7 * k)) (zz_u (zr_m B (nI c) (-1)) 57 ((nI (7 * k) + nI 3).toNatClampNeg) (nI b)) J F) _
    rw [e]
    exact this
theorem zn_ok2 {N : Nat} (hN : 100000 ≤ N) {k : Nat} (hk : k < 12) {J : Nat → Nat → Int64} {F : zz_F} {len : Nat} (hl : len ≤ 80) {t : Nat → Int32} (hb : ∀ i, i < min len 76 → ∃ b, b < 256 ∧ t i = (nI b).toInt8.toInt32) {p mi : Int32} {B : Nat → Nat → Int32} (h : zn_B B F len t) (hg : zn_g k 2 B (zn_fl p mi 0 0 0 0 0)) {a : Nat} (ha : a ≤ min len 76) : zn_P k B J F (zn_t2 N (nI (7 * k)) (zr_m B (nI a) (-1)) J F) (zn_p2 (zq_h (min len 76) t) p mi a) := by
  have g := zn_gu hk (show 2 < 7 by omega)
  have ri := zr_rif hN (J := J) (zr_ok_u h hl) (by omega) (lo := 65) (k := 5) (by omega) (by omega) ha
  unfold zn_t2 zn_p2
  generalize hq : zn_ri (zq_h (min len 76) t) 65 70 99 a 0 = q
  have ri : zr_riP B J F (zf_X12_rising N 65 6 (zr_m B (nI a) (-1)) J F) q := by rw [← hq]; exact ri
  cases q with
  | inl x =>
    obtain ⟨hx, v, e⟩ := ri
    obtain ⟨B', f1, e1⟩ := zn_b3 hN hk (B := zz_u B 57 (7 * k + 2) v) (J := J) (F := F) (a := nI x) (show x < 1000 by omega)
    refine zn_P_bad (a := x) hx ⟨B', ⟨fun y hy => by rw [f1.1 y hy, zu_ux hy], fun j hj => by rw [f1.2 j hj, zz_un (by omega)]⟩, zu_bd e (zu_gd g.1 ?_)⟩
    show zn_t3 N (nI (7 * k)) (zz_u (zr_m B (nI x) (nI x)) 57 ((nI (7 * k) + nI 2).toNatClampNeg) v) J F = _
    rw [g.2, zr_u57]
    exact e1
  | inr pr =>
    obtain ⟨b, c⟩ := pr
    have ri : zf_X12_rising N 65 6 (zr_m B (nI a) (-1)) J F = some (nI b, zr_m B (nI c) (-1), J, F) := ri
    obtain ⟨_, _, c2, _⟩ := zn_ri_ok (lo := 65) (k := 5) (by omega) (by omega) 64 (fun v hv j hj => (zn_or v hv j (by omega)).2) 99 a 0 b c (by omega) ha (by omega) hq
    have := zn_ok3 hN hk (J := J) hl hb (zn_B_u h (7 * k + 2) (nI b)) (zn_g_u (zn_g_c hg (zn_f2 p mi 0 (nI b))) rfl) c2
    refine zn_P_pre (zn_fr_u (zn_fr_refl k B) 2 (nI b)) ?_
    have e : zz_u (zr_m B (nI c) (-1)) 57 ((nI (7 * k) + nI 2).toNatClampNeg) (nI b) = zr_m (zz_u B 57 (7 * k + 2) (nI b)) (nI c) (-1) := by rw [g.2, zr_u57]
    rw [ri, Option.bind_some, if_pos (show ¬ ((nI (7 * k) + 2) < 0 ∨ 84 ≤ (nI (7 * k) + 2).toNatClampNeg) from g.1)]
    show zn_P k _ J F (zn_t3 N (nI (7 * k)) (zz_u (zr_m B (nI c) (-1)) 57 ((nI (7 * k) + nI 2).toNatClampNeg) (nI b)) J F) _
    rw [e]
    exact this
theorem zn_mi {c : Int32} (h : 49 ≤ c ∧ c ≤ 57) : c - 49 + 1 = c - 48 ∧ ∃ v, 1 ≤ v ∧ v ≤ 9 ∧ c - 48 = nI v := by
  obtain ⟨j, hj, ej⟩ := zh_rg (c := 49) (k := 8) (by omega) h.1 h.2
  have q0 : ¬ c < 0 := fun w => nI_pos (n := 49) (by omega) (Int32.lt_of_le_of_lt h.1 w)
  obtain ⟨i, hi, rfl⟩ := nI_of q0
  have i1 : 49 ≤ i := (nI_leI (by omega) hi).mp h.1
  have i2 : i ≤ 57 := (nI_leI hi (by omega)).mp h.2
  have a : nI i - 49 = nI (i - 49) := pk_sub i1
  have b : nI i - 48 = nI (i - 48) := pk_sub (show 48 ≤ i by omega)
  rw [a, b, nI_1]
  exact ⟨by rw [show i - 49 + 1 = i - 48 by omega], i - 48, by omega, by omega, rfl⟩
theorem zn_ok0 {N : Nat} (hN : 100000 ≤ N) {k : Nat} (hk : k < 12) {J : Nat → Nat → Int64} {F : zz_F} {len : Nat} (hl : len ≤ 80) {t : Nat → Int32} (hb : ∀ i, i < min len 76 → ∃ b, b < 256 ∧ t i = (nI b).toInt8.toInt32) {B : Nat → Nat → Int32} (h : zn_B B F len t) {a : Nat} (ha : a ≤ min len 76) : zn_P k B J F (zf_X12_readScene N (nI (7 * k)) (zr_m B (nI a) (-1)) J F) (zn_p0 (zq_h (min len 76) t) a) := by
  have g0 : ¬ (nI (7 * k) < 0 ∨ 84 ≤ (nI (7 * k)).toNatClampNeg) := nI_in (by omega) (by omega)
  have c0 : (nI (7 * k)).toNatClampNeg = 7 * k + 0 := nI_clamp (by omega)
  have g := zn_gu hk (show 1 < 7 by omega)
  rw [show zf_X12_readScene N (nI (7 * k)) (zr_m B (nI a) (-1)) J F = zn_t0 N (nI (7 * k)) (zr_m B (nI a) (-1)) J F by
    obtain ⟨M, rfl⟩ := zu_one N hN
    exact zn_t_eq _ _ _ _ _]
  unfold zn_t0 zn_p0
  have on := zr_one hN (J := J) (zr_ok_u h hl) hb (show a < 1000 by omega) (c := 48) (k := 2) (by omega) (by omega)
  by_cases d : 48 ≤ zq_h (min len 76) t a ∧ zq_h (min len 76) t a ≤ 49
  · rw [if_pos (show nI 48 ≤ zq_h (min len 76) t a ∧ zq_h (min len 76) t a ≤ nI (48 + 2 - 1) from d)] at on
    have am := zh_rl (c := 48) (k := 0) (by omega) d.1
    have h1 := zn_B_u h (7 * k + 0) (zq_h (min len 76) t a - 48)
    have on2 := zr_one hN (J := J) (zr_ok_u h1 hl) hb (show a + 1 < 1000 by omega) (c := 49) (k := 9) (by omega) (by omega)
    have e0 : ((zf_X12_oneOf N 48 2 (zr_m B (nI a) (-1)) J F).bind fun r => if ¬ (nI (7 * k) < 0 ∨ 84 ≤ (nI (7 * k)).toNatClampNeg) then zn_t1 N (nI (7 * k)) (zz_u r.2.1 57 ((nI (7 * k)).toNatClampNeg) r.1) r.2.2.1 r.2.2.2 else none) = zn_t1 N (nI (7 * k)) (zr_m (zz_u B 57 (7 * k + 0) (zq_h (min len 76) t a - 48)) (nI (a + 1)) (-1)) J F := by
      refine zu_bd on (zu_gd g0 ?_)
      show zn_t1 N (nI (7 * k)) (zz_u (zr_m B (nI (a + 1)) (-1)) 57 ((nI (7 * k)).toNatClampNeg) _) J F = _
      rw [c0, zr_u57]
      rfl
    rw [if_pos d, e0]
    refine zn_P_pre (zn_fr_u (zn_fr_refl k B) 0 (zq_h (min len 76) t a - 48)) ?_
    unfold zn_t1
    by_cases d2 : 49 ≤ zq_h (min len 76) t (a + 1) ∧ zq_h (min len 76) t (a + 1) ≤ 57
    · rw [if_pos (show nI 49 ≤ zq_h (min len 76) t (a + 1) ∧ zq_h (min len 76) t (a + 1) ≤ nI (49 + 9 - 1) from d2)] at on2
      have am2 := zh_rl (c := 49) (k := 0) (by omega) d2.1
      rw [if_pos d2]
      have gg : zn_g k 1 (zz_u B 57 (7 * k + 0) (zq_h (min len 76) t a - 48)) (zn_fl (zq_h (min len 76) t a - 48) 0 0 0 0 0 0) := zn_g_u (w := 0) (fun i hi => by omega) rfl
      have := zn_ok2 hN hk (J := J) hl hb (zn_B_u h1 (7 * k + 1) (zq_h (min len 76) t (a + 1) - 48)) (zn_g_u (zn_g_c gg (zn_f1 _ 0 (zq_h (min len 76) t (a + 1) - 48))) rfl) (show a + 2 ≤ min len 76 by omega)
      refine zn_P_pre (zn_fr_u (zn_fr_refl k _) 1 (zq_h (min len 76) t (a + 1) - 48)) ?_
      rw [show (49 : Int32) = nI 49 from rfl, show (9 : Int32) = nI 9 from rfl, on2, Option.bind_some, if_pos (show ¬ ((nI (7 * k) + 1) < 0 ∨ 84 ≤ (nI (7 * k) + 1).toNatClampNeg) from g.1)]
      have e : zz_u (zr_m (zz_u B 57 (7 * k + 0) (zq_h (min len 76) t a - 48)) (nI (a + 1 + 1)) (-1)) 57 ((nI (7 * k) + nI 1).toNatClampNeg) (zq_h (min len 76) t (a + 1) - nI 49 + 1) = zr_m (zz_u (zz_u B 57 (7 * k + 0) (zq_h (min len 76) t a - 48)) 57 (7 * k + 1) (zq_h (min len 76) t (a + 1) - 48)) (nI (a + 2)) (-1) := by
        rw [g.2, zr_u57, show zq_h (min len 76) t (a + 1) - nI 49 + 1 = zq_h (min len 76) t (a + 1) - 48 from (zn_mi d2).1]
      show zn_P k _ J F (zn_t2 N (nI (7 * k)) (zz_u (zr_m (zz_u B 57 (7 * k + 0) (zq_h (min len 76) t a - 48)) (nI (a + 1 + 1)) (-1)) 57 ((nI (7 * k) + nI 1).toNatClampNeg) (zq_h (min len 76) t (a + 1) - nI 49 + 1)) J F) _
      rw [e]
      exact this
    · rw [if_neg (show ¬ (nI 49 ≤ zq_h (min len 76) t (a + 1) ∧ zq_h (min len 76) t (a + 1) ≤ nI (49 + 9 - 1)) from d2)] at on2
      rw [if_neg d2]
      obtain ⟨B', f1, e1⟩ := zn_b2 hN hk (B := zz_u (zz_u B 57 (7 * k + 0) (zq_h (min len 76) t a - 48)) 57 (7 * k + 1) (0 + 1)) (J := J) (F := F) (a := nI (a + 1)) (show a + 1 < 1000 by omega)
      refine zn_P_bad (a := a + 1) (by omega) ⟨B', ⟨fun y hy => by rw [f1.1 y hy, zu_ux hy], fun j hj => by rw [f1.2 j hj, zz_un (by omega)]⟩, zu_bd on2 (zu_gd g.1 ?_)⟩
      show zn_t2 N (nI (7 * k)) (zz_u (zr_m (zz_u B 57 (7 * k + 0) (zq_h (min len 76) t a - 48)) (nI (a + 1)) (nI (a + 1))) 57 ((nI (7 * k) + nI 1).toNatClampNeg) (0 + 1)) J F = _
      rw [g.2, zr_u57]
      exact e1
  · rw [if_neg (show ¬ (nI 48 ≤ zq_h (min len 76) t a ∧ zq_h (min len 76) t a ≤ nI (48 + 2 - 1)) from d)] at on
    rw [if_neg d]
    obtain ⟨B', f1, e1⟩ := zn_b1 hN hk (B := zz_u B 57 (7 * k + 0) 0) (J := J) (F := F) (a := nI a) (show a < 1000 by omega)
    refine zn_P_bad (a := a) (by omega) ⟨B', ⟨fun y hy => by rw [f1.1 y hy, zu_ux hy], fun j hj => by rw [f1.2 j hj, zz_un (by omega)]⟩, zu_bd on (zu_gd g0 ?_)⟩
    show zn_t1 N (nI (7 * k)) (zz_u (zr_m B (nI a) (nI a)) 57 ((nI (7 * k)).toNatClampNeg) 0) J F = _
    rw [c0, zr_u57]
    exact e1
