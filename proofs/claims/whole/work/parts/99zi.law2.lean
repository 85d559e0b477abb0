theorem zm_shortE {N n : Nat} (hN : 100000 ≤ N) (hn : n ≤ 12) {J : Nat → Nat → Int64} {F : zz_F} {c m : Nat} {t f : Nat → Int32} {L : Int32} {I : Nat → Nat → Int32} (h54 : I 54 = f) (h13 : I 53 13 = L) (hf : ∀ s, s < n → zi_fd (fun w => f (7 * s + w))) (h1 : I 52 1 = nI n) (hL : L = -1 ∨ ∃ s, s < n ∧ L = nI s) (ru : zr_rv c m t I F) (set : Int32) (hW : ∀ x y, (x = 12 ∨ zw_in (zw_p n f set 0) (zw_p n f set 1) (zw_a n f set 0) (zw_a n f set 1) x) → zw_in (zw_p n f set 0) (zw_p n f set 1) (zw_a n f set 0) (zw_a n f set 1) y → zw_c m t f L x y ≤ 108) : ∃ I' F', zf_X12_shortestOf N set I J F = some (nI (zw_D min (zw_p n f set 0) (zw_p n f set 1) (zw_a n f set 0) (zw_a n f set 1) (zw_c m t f L) 0 0 12), I', J, F') ∧ zw_f5 I I' ∧ zF_re F F' := by
  subst h54; subst h13
  exact zm_short hN hn hf h1 hL ru set hW
theorem zm_law {N n : Nat} (hN : 100000 ≤ N) (hn : n ≤ 12) {I C : Nat → Nat → Int32} {J : Nat → Nat → Int64} {F : zz_F} (hF : zi_F F) (hf : ∀ s, s < n → zi_fd (fun w => I 54 (7 * s + w))) (hL : I 53 13 = -1 ∨ ∃ s, s < n ∧ I 53 13 = nI s) (h1 : C 52 1 = nI n) {len : Nat} (hl : len ≤ 40) (h4 : C 52 4 = nI len) (h53 : C 53 = I 53) (h54 : C 54 = I 54) (h55 : C 55 = I 55) (ok : zq_ok len (I 55)) {m : Nat} (ru : zr_ru m (I 58) C F) {set : Int32} (hset : set = zh_W n (I 53) 0) (hW : ∀ x y, (x = 12 ∨ zw_in (zw_p n (I 54) set 0) (zw_p n (I 54) set 1) (zw_a n (I 54) set 0) (zw_a n (I 54) set 1) x) → zw_in (zw_p n (I 54) set 0) (zw_p n (I 54) set 1) (zw_a n (I 54) set 0) (zw_a n (I 54) set 1) y → zw_c len (I 55) (I 54) (I 53 13) x y ≤ 108 ∧ zw_c m (I 58) (I 54) (I 53 13) x y ≤ 108) {D1 D2 : Nat} (e1 : D1 = zw_D min (zw_p n (I 54) set 0) (zw_p n (I 54) set 1) (zw_a n (I 54) set 0) (zw_a n (I 54) set 1) (zw_c len (I 55) (I 54) (I 53 13)) 0 0 12) (e2 : D2 = zw_D min (zw_p n (I 54) set 0) (zw_p n (I 54) set 1) (zw_a n (I 54) set 0) (zw_a n (I 54) set 1) (zw_c m (I 58) (I 54) (I 53 13)) 0 0 12) : ∃ Z F5, zf_X12_law N C J F = some (nI D1 - nI D2, zz_u Z 52 6 2, zz_u (zz_u J 56 0 (nI D1).toInt64) 56 1 (nI D2).toInt64, F5) ∧ (∀ y, y ≠ 52 → y ≠ 59 → y ≠ 60 → y ≠ 74 → y ≠ 75 → y ≠ 76 → Z y = C y) ∧ (∀ i, i ≠ 4 → i ≠ 6 → i ≠ 7 → i ≠ 9 → i ≠ 10 → i ≠ 11 → i ≠ 12 → i ≠ 17 → Z 52 i = C 52 i) ∧ Z 52 4 = 0 ∧ zi_F F5 := by
  have hb : ∀ i, i < min len 40 → ∃ b, b < 256 ∧ I 55 i = (nI b).toInt8.toInt32 := fun i hi => ok.2 i (by omega)
  obtain ⟨v, Y, r1, r2, r3, r4, r5⟩ := zm_rr hN (P := zz_u C 52 7 0) (J := J) (F := F) (show len ≤ 80 by omega) hb (by rw [zz_un (by omega)]; exact h4) (by rw [zu_ux (by omega)]; exact h55)
  have v1 : v = 1 := by
    rcases r5 with ⟨_, w⟩ | ⟨_, u, _, w⟩ | ⟨w0, _, y, w2, _⟩
    · exact w
    · exact w
    · obtain ⟨u, w⟩ := (ok.1.resolve_left (by omega)) (fun _ => 0)
      rw [show min len 40 = len by omega] at w2
      exact (zg_bad_no w2 w).elim
  subst v1
  have Yx : ∀ x, x ≠ 52 → Y x = C x := fun x hx => (r2 x hx).trans (zu_ux hx)
  have Y52 : ∀ i, i ≠ 4 → i ≠ 7 → i ≠ 9 → i ≠ 10 → i ≠ 11 → i ≠ 12 → i ≠ 17 → Y 52 i = C 52 i := fun i a b c d e f g => (r3 i a c d e f g).trans (zz_un (fun w => b w.2))
  have ruY : zr_rv 58 m (I 58) Y (zz_Fre F (some 55)) := .inl ⟨rfl, ru.1, by rw [Y52 16 (by omega) (by omega) (by omega) (by omega) (by omega) (by omega) (by omega)]; exact ru.2.1, by rw [Yx 58 (by omega)]; exact ru.2.2.1, ru.2.2.2.1, hF.2.1⟩
  have y1 : Y 52 1 = nI n := by rw [Y52 1 (by omega) (by omega) (by omega) (by omega) (by omega) (by omega) (by omega)]; exact h1
  have w1 := zm_where hN hn (I := Y) (J := J) y1 0
  rw [Yx 53 (by omega), h53, ← hset] at w1
  obtain ⟨R, F3, s1, s2, s3⟩ := zm_shortE hN hn (J := J) (I := Y) (f := I 54) (L := I 53 13) (by rw [Yx 54 (by omega)]; exact h54) (by rw [Yx 53 (by omega), h53]) hf y1 hL ruY set (fun x y hx hy => (hW x y hx hy).2)
  rw [← e2] at s1
  obtain ⟨fr, rfl⟩ := s3
  -- the text is copied
  obtain ⟨Y2, c1, c2, c3⟩ := zm_cp9 (N := N) (J := J) (F := zz_Fru (zz_Fre (zz_Fre F (some 55)) fr) 59) rfl hl (l2 := nI D2) (l4 := R 52 16) (a3 := 58) len 0 (N - 1) (zz_u R 52 16 (nI len)) (by omega) (by omega) (fun j hj => by rw [zu_ux (by omega), s2.1 55 (by omega) (by omega) (by omega) (by omega) (by omega), Yx 55 (by omega), h55]; exact ok.2 j hj) (fun j hj => by omega)
  have Q52 : ∀ i, i ≠ 16 → Y2 52 i = R 52 i := fun i hi => by rw [c2 52 (by omega), zz_un (fun w => hi w.2)]
  have Qx : ∀ x, x ≠ 52 → x ≠ 59 → Y2 x = R x := fun x a b => by rw [c2 x b, zu_ux a]
  have Rx : ∀ x, x ≠ 52 → x ≠ 60 → x ≠ 74 → x ≠ 75 → x ≠ 76 → R x = C x := fun x a b c d e => by rw [s2.1 x b a c d e, Yx x a]
  have t59 : ∀ j, j < len → Y2 59 j = I 55 j := fun j hj => by rw [c3 j hj, zu_ux (by omega), Rx 55 (by omega) (by omega) (by omega) (by omega) (by omega), h55]
  have hh : zq_h len (Y2 59) = zq_h len (I 55) := funext fun a => by
    unfold zq_h
    by_cases q : a < len
    · rw [if_pos q, if_pos q, t59 a q]
    · rw [if_neg q, if_neg q]
  have wc := zw_c_cong hh (I 54) (I 53 13)
  have ru9 : zr_rv 59 len (Y2 59) Y2 (zz_Fru (zz_Fre (zz_Fre F (some 55)) fr) 59) := .inr ⟨rfl, hl, by rw [c2 52 (by omega)]; exact zz_us _ _ _ _, rfl, ⟨ok.1.imp id (fun w e => by obtain ⟨v, z⟩ := w e; exact ⟨v, by rw [zq_g_c hh]; exact z⟩), fun k hk => by rw [t59 k hk]; exact ok.2 k hk⟩, rfl⟩
  have q1 : Y2 52 1 = nI n := by rw [Q52 1 (by omega), s2.2 1 (by omega) (by omega) (by omega) (by omega) (by omega)]; exact y1
  have w2 := zm_where hN hn (I := Y2) (J := J) q1 0
  rw [Qx 53 (by omega) (by omega), Rx 53 (by omega) (by omega) (by omega) (by omega) (by omega), h53, ← hset] at w2
  obtain ⟨T, F4, t1, t2, t3⟩ := zm_shortE hN hn (J := J) (I := Y2) (f := I 54) (L := I 53 13) (by rw [Qx 54 (by omega) (by omega), Rx 54 (by omega) (by omega) (by omega) (by omega) (by omega)]; exact h54) (by rw [Qx 53 (by omega) (by omega), Rx 53 (by omega) (by omega) (by omega) (by omega) (by omega), h53]) hf q1 hL ru9 set (fun x y hx hy => by rw [wc]; exact (hW x y hx hy).1)
  rw [wc, ← e1] at t1
  obtain ⟨fr2, rfl⟩ := t3
  refine ⟨zz_u T 52 16 (R 52 16), zz_Fru (zz_Fre (zz_Fru (zz_Fre (zz_Fre F (some 55)) fr) 59) fr2) 58, ?_, fun y a b c d e f => by rw [zu_ux a, t2.1 y c a d e f, Qx y a b, Rx y a c d e f], fun i a1 a2 a3 a4 a5 a6 a7 a8 => ?_, ?_, ⟨hF.1, rfl, hF.2.2⟩⟩
  · obtain ⟨M, hM⟩ := zu_one N hN
    have st : zf_X12_law N C J F = zb_X12_law_0 N (zl_X12_law N M) 0 0 0 0 0 C J F := by rw [hM]; exact zo_X12_law M C J F
    rw [st]
    unfold zb_X12_law_0
    refine zu_bd r1 (zu_gd (show ¬ (1 : Int32) = 0 by decide) (zu_bd w1 (zu_bd s1 ?_)))
    dsimp only
    rw [h4, show zz_ru (zz_Fre (zz_Fre F (some 55)) fr) = 58 from hF.2.1]
    have NM : N - 1 = M := by omega
    rw [NM] at c1
    refine c1.trans ?_
    obtain ⟨w, hw⟩ : ∃ w, M - len = w + 1 := ⟨M - len - 1, by omega⟩
    rw [hw, zo_X12_law_63]
    unfold zb_X12_law_63
    rw [if_pos (nI_le (Nat.le_refl len) (by omega))]
    refine zu_bd w2 (zu_bd t1 ?_)
    dsimp only
    rw [zu_m1, zu_m2, zu_y1, zu_y2]
    refine zu_gd zu_20_0 (zu_gd (show ¬ ((1 : Int32) < 0 ∨ 20 ≤ (1 : Int32).toNatClampNeg) by decide) rfl)
  · by_cases e : i = 16
    · rw [e, zz_us, s2.2 16 (by omega) (by omega) (by omega) (by omega) (by omega), Y52 16 (by omega) (by omega) (by omega) (by omega) (by omega) (by omega) (by omega)]
    · rw [zz_un (fun w => e w.2), t2.2 i a4 a5 a6 a7 a8, Q52 i e, s2.2 i a4 a5 a6 a7 a8, Y52 i a1 a3 a4 a5 a6 a7 a8]
  · rw [zz_un (by omega), t2.2 4 (by omega) (by omega) (by omega) (by omega) (by omega), Q52 4 (by omega), s2.2 4 (by omega) (by omega) (by omega) (by omega) (by omega)]
    exact r4
