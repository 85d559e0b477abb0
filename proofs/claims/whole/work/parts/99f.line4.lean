/-! A LINE IN THE CLASS, ITS PHASES -/
def zn_W (N C len m a : Nat) (X : Nat → Nat → Int32) (J : Nat → Nat → Int64) : Option (Int32 × (Nat → Nat → Int32) × (Nat → Nat → Int64)) := zl_X7_faultIn_X3__3 N (C - a) 19 (nI len) 76 (nI m) (nI a) X J
def zn_F (n : Nat) (I X : Nat → Nat → Int32) : Prop := (∀ x, x ≠ 36 → x ≠ 6 → X x = I x) ∧ ∀ k, k < 7 * n → X 6 k = I 6 k
theorem zn_F_s {n L : Nat} {I X : Nat → Nat → Int32} (h : zn_F n I X) (i : Nat) (v : Int32) : zn_F n I (zz_u X 36 i v) := ⟨fun x a b => by rw [zu_ux a]; exact h.1 x a b, fun k hk => by rw [zu_ux (by omega)]; exact h.2 k hk⟩
theorem zn_F_f {n L : Nat} (hn : n ≤ L) {I X : Nat → Nat → Int32} (h : zn_F n I X) (w : Nat) (v : Int32) : zn_F n I (zz_u X 6 (7 * L + w) v) := ⟨fun x a b => by rw [zu_ux b]; exact h.1 x a b, fun k hk => by rw [zz_un (by omega)]; exact h.2 k hk⟩
theorem zn_go {N C len m a : Nat} (hC : 1000 ≤ C) (hl : len ≤ 80) (hm : m = min len 76) {n : Nat} {I X : Nat → Nat → Int32} {J : Nat → Nat → Int64} {t : Nat → Int32} (ht : ∀ k, k < 80 → I 3 k = t k &&& 255) (hF : zn_F n I X) (am : a < m) {X' : Nat → Nat → Int32} (e : zf_X3_takes N (zq_h m t a) X J = some (1, X', J)) : zn_W N C len m a X J = zn_W N C len m (a + 1) X' J := by
  unfold zn_W
  rw [show C - a = C - (a + 1) + 1 by omega, zo_X7_faultIn_X3__3_19]
  unfold zb_X7_faultIn_X3__3_19
  have c3 : X 3 a = zq_h m t a := by
    rw [hF.1 3 (by omega) (by omega), ht a (by omega)]
    exact (if_pos am).symm
  rw [if_neg (nI_ge am (by omega)), if_pos (nI_in (show a < 80 by omega) (by omega)), nI_clamp (by omega), c3, e, Option.bind_some, if_pos (show ¬ (1 : Int32) = 0 by decide), nI_1]
/-- it ends here: the sign is refused, or the text is at its end -/
theorem zn_no {N C len m a : Nat} (hC : 1000 ≤ C) (hl : len ≤ 80) (hm : m = min len 76) {n : Nat} {I X : Nat → Nat → Int32} {J : Nat → Nat → Int64} {t : Nat → Int32} (ht : ∀ k, k < 80 → I 3 k = t k &&& 255) (hF : zn_F n I X) (am : a ≤ m) (h9 : ¬ X 36 1 = 9) (e : a < m → zf_X3_takes N (zq_h m t a) X J = some (0, X, J)) : zn_W N C len m a X J = some (nI a, X, J) := by
  unfold zn_W
  rw [show C - a = C - (a + 1) + 1 by omega, zo_X7_faultIn_X3__3_19]
  unfold zb_X7_faultIn_X3__3_19
  by_cases q : a < m
  · have c3 : X 3 a = zq_h m t a := by
      rw [hF.1 3 (by omega) (by omega), ht a (by omega)]
      exact (if_pos q).symm
    rw [if_neg (nI_ge q (by omega)), if_pos (nI_in (show a < 80 by omega) (by omega)), nI_clamp (by omega), c3, e q, Option.bind_some, if_neg (fun w => w rfl)]
  · obtain rfl : a = m := by omega
    rw [if_pos (nI_le (Nat.le_refl a) (by omega))]
    by_cases l : len ≤ 76
    · rw [if_pos (show nI len ≤ 76 from nI_le (b := 76) l (by omega)), if_pos (show zv_X3_mayEnd X = 0 from if_pos h9)]
    · rw [if_neg (show ¬ nI len ≤ 76 from nI_ge (a := 76) (by omega) (by omega)), show a = 76 by omega]
      rfl
/-- how a line's reading comes out in the class -/
def zn_Q (N C len m n L k : Nat) (I X : Nat → Nat → Int32) (J : Nat → Nat → Int64) (o : Option (Int32 × (Nat → Nat → Int32) × (Nat → Nat → Int64))) (r : Nat ⊕ ((Nat → Int32) × Nat)) : Prop := match r with
  | .inl x => ∃ X', zn_F n I X' ∧ o = some (nI x, X', J)
  | .inr (fl, b) => b ≤ m ∧ ∃ X', zn_F n I X' ∧ (∀ j, j < 7 * L → X' 6 j = X 6 j) ∧ (∀ i, i < 7 → X' 6 (7 * L + i) = fl i) ∧ X' 36 1 = nI 9 ∧ X' 36 2 = nI (L + 1) ∧ X' 36 3 = nI (k + 1) ∧ o = zn_W N C len m b X' J
theorem zn_Q_pre {N C len m n L k : Nat} {I X X1 : Nat → Nat → Int32} {J : Nat → Nat → Int64} {o : Option (Int32 × (Nat → Nat → Int32) × (Nat → Nat → Int64))} {r : Nat ⊕ ((Nat → Int32) × Nat)} (h : ∀ j, j < 7 * L → X1 6 j = X 6 j) (h2 : zn_Q N C len m n L k I X1 J o r) : zn_Q N C len m n L k I X J o r := by
  cases r with
  | inl x => exact h2
  | inr p =>
    obtain ⟨fl, b⟩ := p
    obtain ⟨hb, X', h1, h3, h4⟩ := h2
    exact ⟨hb, X', h1, fun j hj => (h3 j hj).trans (h j hj), h4⟩
/-- where the class stands in a line -/
def zn_c (L k st w : Nat) (X : Nat → Nat → Int32) (fl : Nat → Int32) : Prop := X 36 1 = nI st ∧ X 36 2 = nI L ∧ X 36 3 = nI k ∧ ∀ i, i < w → X 6 (7 * L + i) = fl i
theorem zn_c_s {L k st st' w : Nat} {X : Nat → Nat → Int32} {fl : Nat → Int32} (h : zn_c L k st w X fl) : zn_c L k st' w (zz_u X 36 1 (nI st')) fl := ⟨zz_us _ _ _ _, by rw [zz_un (by omega)]; exact h.2.1, by rw [zz_un (by omega)]; exact h.2.2.1, fun i hi => by rw [zu_ux (by omega)]; exact h.2.2.2 i hi⟩
theorem zn_c_f {L k st w : Nat} {X : Nat → Nat → Int32} {fl fl' : Nat → Int32} (h : zn_c L k st w X fl) (j : Nat) (v : Int32) (hv : fl' j = v) (hf : ∀ i, i < w → i ≠ j → fl i = fl' i) : zn_c L k st w (zz_u X 6 (7 * L + j) v) fl' := ⟨by rw [zu_ux (by omega)]; exact h.1, by rw [zu_ux (by omega)]; exact h.2.1, by rw [zu_ux (by omega)]; exact h.2.2.1, fun i hi => by
  by_cases q : i = j
  · rw [q, zz_us]; exact hv.symm
  · rw [zz_un (by omega), h.2.2.2 i hi]; exact hf i hi q⟩
theorem zn_h1 {m : Nat} {t : Nat → Int32} : zq_h m t m = -1 := if_neg (by omega)
theorem zn_c7 {N C len m : Nat} (hN : 100000 ≤ N) (hC : 1000 ≤ C) (hl : len ≤ 80) (hm : m = min len 76) {n L k st : Nat} (hn : n ≤ L) (hL : L < 12) {I X : Nat → Nat → Int32} {J : Nat → Nat → Int64} {t : Nat → Int32} (ht : ∀ k, k < 80 → I 3 k = t k &&& 255) (hF : zn_F n I X) {p mi pe pr to ne : Int32} (hst : st = 2 ∨ st = 3 ∨ st = 5 ∨ st = 7) (hc : zn_c L k st 6 X (zn_fl p mi pe pr to ne 0)) {a : Nat} (am : a ≤ m) (k1 : st = 2 → ¬ zn_per (zq_h m t a)) (k2 : st ≤ 3 → ¬ zn_pro (zq_h m t a)) (k3 : st ≤ 3 → ¬ zq_h m t a = 62) (k4 : st ≤ 5 → ¬ zq_h m t a = 60) : zn_Q N C len m n L k I X J (zn_W N C len m a X J) (zn_p7 (zq_h m t) p mi pe pr to ne a) := by
  have tk := zn_Tmk hN (J := J) hst hc.1 k1 k2
  rw [if_neg (fun w => k3 w.2 w.1), if_neg (fun w => k4 w.2 w.1)] at tk
  unfold zn_p7
  by_cases c : zq_h m t a = 61
  · rw [if_pos c] at tk ⊢
    have al := zq_hlt (k := 61) (by omega) c
    rw [zn_go hC hl hm ht hF al tk]
    have hF2 := zn_F_s (L := L) hF 1 8
    have hc2 : zn_c L k 8 6 (zz_u X 36 1 8) (zn_fl p mi pe pr to ne 0) := zn_c_s (st' := 8) hc
    have t8 := zn_T8 hN (J := J) hL hc2.1 hc2.2.1 hc2.2.2.1 (zq_h m t (a + 1))
    by_cases d : 48 ≤ zq_h m t (a + 1) ∧ zq_h m t (a + 1) ≤ 57
    · rw [if_pos d] at t8 ⊢
      have al2 := zh_rl (c := 48) (k := 0) (by omega) d.1
      rw [zn_go hC hl hm ht hF2 al2 t8]
      refine ⟨by omega, _, zn_F_s (L := L) (zn_F_s (L := L) (zn_F_s (L := L) (zn_F_f hn hF2 6 _) 1 _) 2 _) 3 _, fun j hj => ?_, fun i hi => ?_, ?_, ?_, ?_, rfl⟩
      · rw [zu_ux (by omega), zu_ux (by omega), zu_ux (by omega), zz_un (by omega), zu_ux (by omega)]
      · rw [zu_ux (by omega), zu_ux (by omega), zu_ux (by omega)]
        by_cases q : i = 6
        · rw [q, zz_us]; rfl
        · rw [zz_un (by omega), hc2.2.2.2 i (by omega)]
          exact zn_f6 _ _ _ _ _ _ _ _ i (by omega)
      · rw [zz_un (by omega), zz_un (by omega), zz_us]
      · rw [zz_un (by omega), zz_us]
      · rw [zz_us]
    · rw [if_neg d] at t8 ⊢
      exact ⟨_, hF2, zn_no hC hl hm ht hF2 (by omega) (by rw [hc2.1]; decide) (fun _ => t8)⟩
  · rw [if_neg c] at tk ⊢
    refine ⟨_, hF, zn_no hC hl hm ht hF am ?_ (fun _ => tk)⟩
    rw [hc.1]
    rcases hst with rfl | rfl | rfl | rfl <;> decide
theorem zn_c5 {N C len m : Nat} (hN : 100000 ≤ N) (hC : 1000 ≤ C) (hl : len ≤ 80) (hm : m = min len 76) {n L k st : Nat} (hn : n ≤ L) (hL : L < 12) {I X : Nat → Nat → Int32} {J : Nat → Nat → Int64} {t : Nat → Int32} (ht : ∀ k, k < 80 → I 3 k = t k &&& 255) (hF : zn_F n I X) {p mi pe pr to : Int32} (hst : st = 2 ∨ st = 3 ∨ st = 5) (hc : zn_c L k st 6 X (zn_fl p mi pe pr to (-1) 0)) {a : Nat} (am : a ≤ m) (k1 : st = 2 → ¬ zn_per (zq_h m t a)) (k2 : st ≤ 3 → ¬ zn_pro (zq_h m t a)) (k3 : st ≤ 3 → ¬ zq_h m t a = 62) : zn_Q N C len m n L k I X J (zn_W N C len m a X J) (zn_p5 (zq_h m t) p mi pe pr to a) := by
  unfold zn_p5
  by_cases c : zq_h m t a = 60
  · have tk := zn_Tmk hN (J := J) (by omega) hc.1 k1 k2
    rw [if_neg (fun w => k3 w.2 w.1), if_pos ⟨c, by omega⟩] at tk
    rw [if_pos c]
    have al := zq_hlt (k := 60) (by omega) c
    rw [zn_go hC hl hm ht hF al tk]
    have hF2 := zn_F_s (L := L) hF 1 6
    have hc2 : zn_c L k 6 6 (zz_u X 36 1 6) (zn_fl p mi pe pr to (-1) 0) := zn_c_s (st' := 6) hc
    have t8 := (zn_Tnm hN (J := J) hL hc2.2.1 (zq_h m t (a + 1))).2.2 hc2.1
    by_cases d : 97 ≤ zq_h m t (a + 1) ∧ zq_h m t (a + 1) ≤ 104
    · rw [if_pos d] at t8 ⊢
      have al2 := zh_rl (c := 97) (k := 0) (by omega) d.1
      rw [zn_go hC hl hm ht hF2 al2 t8]
      refine zn_Q_pre (X1 := zz_u (zz_u (zz_u X 36 1 6) 6 (7 * L + 5) (zq_h m t (a + 1) - 97)) 36 1 (nI 7)) (fun j hj => by rw [zu_ux (by omega), zz_un (by omega), zu_ux (by omega)]) ?_
      exact zn_c7 hN hC hl hm hn hL ht (zn_F_s (L := L) (zn_F_f hn hF2 5 _) 1 _) (.inr (.inr (.inr rfl))) (zn_c_s (st' := 7) (zn_c_f hc2 5 _ rfl (fun i hi q => zn_f5 _ _ _ _ _ _ _ _ _ i (by omega)))) (by omega) (fun q => by omega) (fun q => by omega) (fun q => by omega) (fun q => by omega)
    · rw [if_neg d] at t8 ⊢
      exact ⟨_, hF2, zn_no hC hl hm ht hF2 (by omega) (by rw [hc2.1]; decide) (fun _ => t8)⟩
  · rw [if_neg c]
    exact zn_c7 hN hC hl hm hn hL ht hF (by omega) hc am k1 k2 k3 (fun _ => c)
theorem zn_c4 {N C len m : Nat} (hN : 100000 ≤ N) (hC : 1000 ≤ C) (hl : len ≤ 80) (hm : m = min len 76) {n L k st : Nat} (hn : n ≤ L) (hL : L < 12) {I X : Nat → Nat → Int32} {J : Nat → Nat → Int64} {t : Nat → Int32} (ht : ∀ k, k < 80 → I 3 k = t k &&& 255) (hF : zn_F n I X) {p mi pe pr : Int32} (hst : st = 2 ∨ st = 3) (hc : zn_c L k st 6 X (zn_fl p mi pe pr (-1) (-1) 0)) {a : Nat} (am : a ≤ m) (k1 : st = 2 → ¬ zn_per (zq_h m t a)) (k2 : st ≤ 3 → ¬ zn_pro (zq_h m t a)) : zn_Q N C len m n L k I X J (zn_W N C len m a X J) (zn_p4 (zq_h m t) p mi pe pr a) := by
  unfold zn_p4
  by_cases c : zq_h m t a = 62
  · have tk := zn_Tmk hN (J := J) (by omega) hc.1 k1 k2
    rw [if_pos ⟨c, by omega⟩] at tk
    rw [if_pos c]
    have al := zq_hlt (k := 62) (by omega) c
    rw [zn_go hC hl hm ht hF al tk]
    have hF2 := zn_F_s (L := L) hF 1 4
    have hc2 : zn_c L k 4 6 (zz_u X 36 1 4) (zn_fl p mi pe pr (-1) (-1) 0) := zn_c_s (st' := 4) hc
    have t8 := (zn_Tnm hN (J := J) hL hc2.2.1 (zq_h m t (a + 1))).2.1 hc2.1
    by_cases d : 97 ≤ zq_h m t (a + 1) ∧ zq_h m t (a + 1) ≤ 104
    · rw [if_pos d] at t8 ⊢
      have al2 := zh_rl (c := 97) (k := 0) (by omega) d.1
      rw [zn_go hC hl hm ht hF2 al2 t8]
      refine zn_Q_pre (X1 := zz_u (zz_u (zz_u X 36 1 4) 6 (7 * L + 4) (zq_h m t (a + 1) - 97)) 36 1 (nI 5)) (fun j hj => by rw [zu_ux (by omega), zz_un (by omega), zu_ux (by omega)]) ?_
      exact zn_c5 hN hC hl hm hn hL ht (zn_F_s (L := L) (zn_F_f hn hF2 4 _) 1 _) (.inr (.inr rfl)) (zn_c_s (st' := 5) (zn_c_f hc2 4 _ rfl (fun i hi q => by
        by_cases q5 : i = 5
        · rw [q5]; rfl
        · exact zn_f4 _ _ _ _ _ _ _ _ _ _ i (by omega)))) (by omega) (fun q => by omega) (fun q => by omega) (fun q => by omega)
    · rw [if_neg d] at t8 ⊢
      exact ⟨_, hF2, zn_no hC hl hm ht hF2 (by omega) (by rw [hc2.1]; decide) (fun _ => t8)⟩
  · rw [if_neg c]
    exact zn_c5 hN hC hl hm hn hL ht hF (by omega) hc am k1 k2 (fun _ => c)
theorem zn_c3 {N C len m : Nat} (hN : 100000 ≤ N) (hC : 1000 ≤ C) (hl : len ≤ 80) (hm : m = min len 76) {n L k : Nat} (hn : n ≤ L) (hL : L < 12) {I : Nat → Nat → Int32} {J : Nat → Nat → Int64} {t : Nat → Int32} (ht : ∀ k, k < 80 → I 3 k = t k &&& 255) {p mi pe : Int32} : ∀ f a b st (X : Nat → Nat → Int32), b < 16 → a ≤ m → m < a + f → zn_F n I X → (st = 2 ∨ st = 3) → zn_c L k st 6 X (zn_fl p mi pe (nI b) (-1) (-1) 0) → (st = 2 → ¬ zn_per (zq_h m t a)) → zn_Q N C len m n L k I X J (zn_W N C len m a X J) (match zn_ri (zq_h m t) 49 52 f a b with
    | .inl x => .inl x
    | .inr (b, a) => zn_p4 (zq_h m t) p mi pe (nI b) a) := by
  intro f
  induction f with
  | zero => intro a b st X _ _ h3; omega
  | succ f ih =>
    intro a b st X hb am hf hF hst hc k1
    unfold zn_ri
    by_cases q : nI 49 ≤ zq_h m t a ∧ zq_h m t a ≤ nI 52
    · have al := zh_rl (c := 49) (k := 0) (by omega) q.1
      obtain ⟨j, hj, ej⟩ := zh_rg (c := 49) (k := 3) (by omega) q.1 q.2
      have tk := zn_Tpr hN (J := J) hL hst hc.1 hc.2.1 (show b < 64 by omega) hj (hc.2.2.2 3 (by omega)) q ej
      rw [if_pos q, ej, nI_clamp (by omega)]
      by_cases q2 : b < 2 ^ j
      · rw [if_pos q2] at tk ⊢
        rw [zn_go hC hl hm ht hF al tk]
        refine zn_Q_pre (X1 := zz_u (zz_u X 6 (7 * L + 3) (nI (b ||| 2 ^ j))) 36 1 3) (fun j hj => by rw [zu_ux (by omega), zz_un (by omega)]) ?_
        exact ih (a + 1) (b ||| 2 ^ j) 3 _ (zn_or4 b hb j (by omega)) (by omega) (by omega) (zn_F_s (L := L) (zn_F_f hn hF 3 _) 1 _) (.inr rfl) (zn_c_s (st' := 3) (zn_c_f hc 3 _ rfl (fun i hi q => by
          rcases (by omega : i = 0 ∨ i = 1 ∨ i = 2 ∨ i = 4 ∨ i = 5) with rfl | rfl | rfl | rfl | rfl <;> rfl))) (fun q => by omega)
      · rw [if_neg q2] at tk ⊢
        refine ⟨_, hF, zn_no hC hl hm ht hF am ?_ (fun _ => tk)⟩
        rw [hc.1]
        rcases hst with rfl | rfl <;> decide
    · rw [if_neg q]
      exact zn_c4 hN hC hl hm hn hL ht hF hst hc am k1 (fun _ => q)
theorem zn_c2 {N C len m : Nat} (hN : 100000 ≤ N) (hC : 1000 ≤ C) (hl : len ≤ 80) (hm : m = min len 76) {n L k : Nat} (hn : n ≤ L) (hL : L < 12) {I : Nat → Nat → Int32} {J : Nat → Nat → Int64} {t : Nat → Int32} (ht : ∀ k, k < 80 → I 3 k = t k &&& 255) {p mi : Int32} : ∀ f a b (X : Nat → Nat → Int32), b < 64 → a ≤ m → m < a + f → zn_F n I X → zn_c L k 2 6 X (zn_fl p mi (nI b) 0 (-1) (-1) 0) → zn_Q N C len m n L k I X J (zn_W N C len m a X J) (match zn_ri (zq_h m t) 65 70 f a b with
    | .inl x => .inl x
    | .inr (b, a) => zn_p3 (zq_h m t) p mi (nI b) a) := by
  intro f
  induction f with
  | zero => intro a b X _ _ h3; omega
  | succ f ih =>
    intro a b X hb am hf hF hc
    unfold zn_ri
    by_cases q : nI 65 ≤ zq_h m t a ∧ zq_h m t a ≤ nI 70
    · have al := zh_rl (c := 65) (k := 0) (by omega) q.1
      obtain ⟨j, hj, ej⟩ := zh_rg (c := 65) (k := 5) (by omega) q.1 q.2
      have tk := zn_T2p hN (J := J) hL hc.1 hc.2.1 hb hj (hc.2.2.2 2 (by omega)) q ej
      rw [if_pos q, ej, nI_clamp (by omega)]
      by_cases q2 : b < 2 ^ j
      · rw [if_pos q2] at tk ⊢
        rw [zn_go hC hl hm ht hF al tk]
        refine zn_Q_pre (X1 := zz_u X 6 (7 * L + 2) (nI (b ||| 2 ^ j))) (fun j hj => by rw [zz_un (by omega)]) ?_
        exact ih (a + 1) (b ||| 2 ^ j) _ (zn_or b hb j (by omega)).2 (by omega) (by omega) (zn_F_f hn hF 2 _) (zn_c_f hc 2 _ rfl (fun i hi q => by
          rcases (by omega : i = 0 ∨ i = 1 ∨ i = 3 ∨ i = 4 ∨ i = 5) with rfl | rfl | rfl | rfl | rfl <;> rfl))
      · rw [if_neg q2] at tk ⊢
        exact ⟨_, hF, zn_no hC hl hm ht hF am (by rw [hc.1]; decide) (fun _ => tk)⟩
    · rw [if_neg q]
      have := zn_c3 hN hC hl hm hn hL (J := J) ht 99 a 0 2 X (by omega) am (by omega) hF (.inl rfl) hc (fun _ => q)
      exact this
theorem zn_c0 {N C len m : Nat} (hN : 100000 ≤ N) (hC : 1000 ≤ C) (hl : len ≤ 80) (hm : m = min len 76) {n L k : Nat} (hn : n ≤ L) (hL : L < 12) {I X : Nat → Nat → Int32} {J : Nat → Nat → Int64} {t : Nat → Int32} (ht : ∀ k, k < 80 → I 3 k = t k &&& 255) (hF : zn_F n I X) (h1 : X 36 1 = nI 0) (h2 : X 36 2 = nI L) (h3 : X 36 3 = nI k) {a : Nat} (am : a ≤ m) : zn_Q N C len m n L k I X J (zn_W N C len m a X J) (zn_p0 (zq_h m t) a) := by
  have t0 := zn_T0 hN (J := J) h1 h2 (by omega) (zq_h m t a)
  unfold zn_p0
  by_cases c : 48 ≤ zq_h m t a ∧ zq_h m t a ≤ 49
  · have c' : zq_h m t a = 48 ∨ zq_h m t a = 49 := by
      obtain ⟨j, hj, ej⟩ := zh_rg (c := 48) (k := 1) (by omega) c.1 c.2
      have q0 : ¬ zq_h m t a < 0 := fun w => nI_pos (n := 48) (by omega) (Int32.lt_of_le_of_lt c.1 w)
      obtain ⟨i, hi, e⟩ := nI_of q0
      rw [e] at c ⊢
      have i1 : 48 ≤ i := (nI_leI (by omega) hi).mp c.1
      have i2 : i ≤ 49 := (nI_leI hi (by omega)).mp c.2
      rcases (by omega : i = 48 ∨ i = 49) with rfl | rfl
      · exact .inl rfl
      · exact .inr rfl
    rw [if_pos ⟨hL, c'⟩] at t0
    rw [if_pos c]
    have al := zh_rl (c := 48) (k := 0) (by omega) c.1
    rw [zn_go hC hl hm ht hF al t0]
    generalize hX1 : zz_u (zz_u (zz_u (zz_u (zz_u (zz_u X 6 (7 * L + 0) (zq_h m t a - 48)) 6 (7 * L + 2) 0) 6 (7 * L + 3) 0) 6 (7 * L + 4) (-1)) 6 (7 * L + 5) (-1)) 36 1 1 = X1
    have hF1 : zn_F n I X1 := by
      rw [← hX1]
      exact zn_F_s (L := L) (zn_F_f hn (zn_F_f hn (zn_F_f hn (zn_F_f hn (zn_F_f hn hF 0 _) 2 _) 3 _) 4 _) 5 _) 1 _
    have x1 : X1 36 1 = nI 1 := by rw [← hX1, zz_us]; rfl
    have x2 : X1 36 2 = nI L := by rw [← hX1, zz_un (by omega), zu_ux (by omega), zu_ux (by omega), zu_ux (by omega), zu_ux (by omega), zu_ux (by omega)]; exact h2
    have x3 : X1 36 3 = nI k := by rw [← hX1, zz_un (by omega), zu_ux (by omega), zu_ux (by omega), zu_ux (by omega), zu_ux (by omega), zu_ux (by omega)]; exact h3
    have xf : ∀ i, i < 6 → i ≠ 1 → X1 6 (7 * L + i) = zn_fl (zq_h m t a - 48) 0 0 0 (-1) (-1) 0 i := fun i hi q => by
      rw [← hX1, zu_ux (by omega)]
      rcases (by omega : i = 0 ∨ i = 2 ∨ i = 3 ∨ i = 4 ∨ i = 5) with rfl | rfl | rfl | rfl | rfl
      · rw [zz_un (by omega), zz_un (by omega), zz_un (by omega), zz_un (by omega), zz_us]; rfl
      · rw [zz_un (by omega), zz_un (by omega), zz_un (by omega), zz_us]; rfl
      · rw [zz_un (by omega), zz_un (by omega), zz_us]; rfl
      · rw [zz_un (by omega), zz_us]; rfl
      · rw [zz_us]; rfl
    have xl : ∀ j, j < 7 * L → X1 6 j = X 6 j := fun j hj => by
      rw [← hX1, zu_ux (by omega), zz_un (by omega), zz_un (by omega), zz_un (by omega), zz_un (by omega), zz_un (by omega)]
    refine zn_Q_pre xl ?_
    have t8 := (zn_Tnm hN (J := J) hL x2 (zq_h m t (a + 1))).1 x1
    by_cases d : 49 ≤ zq_h m t (a + 1) ∧ zq_h m t (a + 1) ≤ 57
    · rw [if_pos d] at t8 ⊢
      have al2 := zh_rl (c := 49) (k := 0) (by omega) d.1
      rw [zn_go hC hl hm ht hF1 al2 t8]
      refine zn_Q_pre (X1 := zz_u (zz_u X1 6 (7 * L + 1) (zq_h m t (a + 1) - 48)) 36 1 (nI 2)) (fun j hj => by rw [zu_ux (by omega), zz_un (by omega)]) ?_
      have := zn_c2 hN hC hl hm hn hL (J := J) ht (p := zq_h m t a - 48) (mi := zq_h m t (a + 1) - 48) (k := k) 99 (a + 2) 0 (zz_u (zz_u X1 6 (7 * L + 1) (zq_h m t (a + 1) - 48)) 36 1 (nI 2)) (by omega) (by omega) (by omega) (zn_F_s (L := L) (zn_F_f hn hF1 1 _) 1 _) ⟨zz_us _ _ _ _, by rw [zz_un (by omega), zu_ux (by omega)]; exact x2, by rw [zz_un (by omega), zu_ux (by omega)]; exact x3, fun i hi => by
        rw [zu_ux (by omega)]
        by_cases q : i = 1
        · rw [q, zz_us]; rfl
        · rw [zz_un (by omega), xf i hi q]
          rcases (by omega : i = 0 ∨ i = 2 ∨ i = 3 ∨ i = 4 ∨ i = 5) with rfl | rfl | rfl | rfl | rfl <;> rfl⟩
      exact this
    · rw [if_neg d] at t8 ⊢
      exact ⟨_, hF1, zn_no hC hl hm ht hF1 (by omega) (by rw [x1]; decide) (fun _ => t8)⟩
  · rw [if_neg (fun w => c (by rcases w.2 with w | w <;> rw [w] <;> exact ⟨by decide, by decide⟩))] at t0
    rw [if_neg c]
    exact ⟨_, hF, zn_no hC hl hm ht hF am (by rw [h1]; decide) (fun _ => t0)⟩
