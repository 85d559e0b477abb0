/-! ALL WEAVES -/
theorem zw_R_u {I : Nat → Nat → Int32} {a : zw_K} (h : zw_R I a) (z : Nat) (v : Int32) : zw_R (zz_u I 67 z v) a := by
  obtain ⟨r1, r2, r3, r4, r5, r6, r7, r8, r9, r10⟩ := h
  have o : ∀ y, y ≠ 67 → zz_u I 67 z v y = I y := fun y hy => zu_ux hy
  exact ⟨by rw [o 52 (by omega)]; exact r1, by rw [o 52 (by omega)]; exact r2, by rw [o 52 (by omega)]; exact r3, by rw [o 66 (by omega)]; exact r4, by rw [o 52 (by omega)]; exact r5, by rw [o 73 (by omega)]; exact r6, by rw [o 69 (by omega)]; exact r7, by rw [o 69 (by omega)]; exact r8, by rw [o 68 (by omega)]; exact r9, by rw [o 70 (by omega), o 71 (by omega)]; exact r10⟩
theorem zw_R_n {I : Nat → Nat → Int32} {a : zw_K} (h : zw_R I a) {k T : Nat} (hk : k < 13) : zw_R (zz_u I 68 k (zz_min (I 68 k) (nI T))) (zw_n1 a k T) := by
  obtain ⟨r1, r2, r3, r4, r5, r6, r7, r8, r9, r10⟩ := h
  have o : ∀ y, y ≠ 68 → zz_u I 68 k (zz_min (I 68 k) (nI T)) y = I y := fun y hy => zu_ux hy
  refine ⟨by rw [o 52 (by omega)]; exact r1, by rw [o 52 (by omega)]; exact r2, by rw [o 52 (by omega)]; exact r3, by rw [o 66 (by omega)]; exact r4, by rw [o 52 (by omega)]; exact r5, by rw [o 73 (by omega)]; exact r6, by rw [o 69 (by omega)]; exact r7, by rw [o 69 (by omega)]; exact r8, fun k' hk' => ?_, by rw [o 70 (by omega), o 71 (by omega)]; exact r10⟩
  show _ = zh_up a.2.2.2.2.2.2.2.1 k (zz_min (a.2.2.2.2.2.2.2.1 k) (nI T)) k'
  by_cases e : k' = k
  · rw [e, zz_us, r9 k hk]; exact (if_pos rfl).symm
  · rw [zz_un (fun w => e w.2), r9 k' hk']; exact (if_neg e).symm
theorem zw_fr_67 {I I' : Nat → Nat → Int32} (h : zw_fr I I') (z : Nat) (v : Int32) : zw_fr I (zz_u I' 67 z v) := ⟨fun y a1 a2 a3 a4 a5 a6 a7 a8 a9 a10 => by rw [zu_ux a5]; exact h.1 y a1 a2 a3 a4 a5 a6 a7 a8 a9 a10, fun i a1 a2 a3 a4 a5 a6 a7 a8 a9 => by rw [zu_ux (by omega)]; exact h.2 i a1 a2 a3 a4 a5 a6 a7 a8 a9⟩
theorem zr_ru_w {m : Nat} {t : Nat → Int32} {I I' : Nat → Nat → Int32} {F F' : zz_F} (h : zr_ru m t I F) (hi : zw_fr I I') (hF : zF_re F F') : zr_ru m t I' F' := by
  obtain ⟨r, rfl⟩ := hF
  exact ⟨h.1, by rw [hi.2 16 (by omega) (by omega) (by omega) (by omega) (by omega) (by omega) (by omega) (by omega) (by omega)]; exact h.2.1, by rw [hi.1 58 (by omega) (by omega) (by omega) (by omega) (by omega) (by omega) (by omega) (by omega) (by omega) (by omega)]; exact h.2.2.1, h.2.2.2.1, h.2.2.2.2⟩
theorem zw_getL {l : List Nat} {v k : Nat} (hk : k < l.length) : (l ++ [v]).getD k 0 = l.getD k 0 := by
  rw [zw_getA, if_pos hk]
theorem zm_gw {N n : Nat} (hN : 100000 ≤ N) (hn : n ≤ 12) {J : Nat → Nat → Int64} {m : Nat} {t f : Nat → Int32} (hf : ∀ s, s < n → zi_fd (fun w => f (7 * s + w))) {L X Y : Int32} (hL : L = -1 ∨ ∃ s, s < n ∧ L = nI s) {p q : Nat} {A B : Nat → Nat} (hH : zw_H n f p q A B) : ∀ r i j x T ln e0 e1 a (left : Int32) D (I : Nat → Nat → Int32) (F : zz_F), p - i + (q - j) = r → i ≤ p → j ≤ q → (x = 12 ∨ x < n) → T ≤ 108 * (i + j) → ln.length = i + j → (∀ v, v ∈ ln → v ≤ 1) → zw_lft p q A B i j left → r < D → zr_ru m t I F → I 54 = f → I 52 1 = nI n → zw_R I a → (∀ k, k < i + j → I 65 k = nI (ln.getD k 0)) → I 67 0 = nI e0 → I 67 1 = nI e1 → I 72 0 = X → I 72 1 = Y →
    ∃ I' F', zg_weaves N D 0 left (zw_last L x) (nI (i + j)) (nI T) I J F = some (0, I', J, F') ∧ zw_R I' (zw_go p q A B (zw_c m t f L) X Y r i j x T ln e0 e1 a) ∧ zw_fr I I' ∧ zF_re F F' ∧ (∀ k, k < i + j → I' 65 k = I 65 k) ∧ I' 67 0 = nI e0 ∧ I' 67 1 = nI e1 := by
  have pq := hH.2.1
  intro r
  induction r with
  | zero =>
    intro i j x T ln e0 e1 a left D I F hr hi hj hx hT hl h01 hlf hD ru h54 h1 hR h65 h67 h67' h72 h72'
    obtain ⟨D', rfl⟩ : ∃ D', D = D' + 1 := ⟨D - 1, by omega⟩
    have l0 : left = 0 := b_ext (fun s hs => by
      rw [b_0]
      cases hb : bt left s with
      | false => rfl
      | true =>
        exfalso
        rcases (hlf s hs).mp hb with ⟨i', a1, a2, _⟩ | ⟨i', a1, a2, _⟩ <;> omega)
    have R0 := zw_R_n hR (k := i + j) (T := T) (by omega)
    obtain ⟨I', g1, g2, g3, g4⟩ := zm_end hN (J := J) R0 (ln := ln) (T := T) (e0 := e0) (e1 := e1) (X := X) (Y := Y) (by omega) h01 (fun k hk => by rw [zu_ux (by omega)]; exact h65 k (by omega)) (by rw [zu_ux (by omega)]; exact h67) (by rw [zu_ux (by omega)]; exact h67') (by rw [zu_ux (by omega)]; exact h72) (by rw [zu_ux (by omega)]; exact h72')
    refine ⟨I', F, ?_, g2, ⟨fun y a1 a2 a3 a4 a5 a6 a7 a8 a9 a10 => by rw [g3 y a2 a4 a7 a10, zu_ux a6], fun z a1 a2 a3 a4 a5 a6 a7 a8 a9 => by rw [g4 z a6 a7 a8 a9, zu_ux (by omega)]⟩, zF_refl F, fun k hk => by rw [g3 65 (by omega) (by omega) (by omega) (by omega), zu_ux (by omega)], by rw [g3 67 (by omega) (by omega) (by omega) (by omega), zu_ux (by omega)]; exact h67, by rw [g3 67 (by omega) (by omega) (by omega) (by omega), zu_ux (by omega)]; exact h67'⟩
    rw [zge_weaves_0]
    unfold zf_X12_goWeaves
    obtain ⟨M, hM⟩ := zu_one N hN
    rw [show zl_X12_goWeaves N (zg_weaves N D') N = zl_X12_goWeaves N (zg_weaves N D') (M + 1) by rw [← hM], ze_X12_goWeaves_0]
    unfold zb_X12_goWeaves_0
    rw [if_pos (nI_in (show i + j < 13 by omega) (by omega)), l0, if_neg (fun w => w rfl), nI_clamp (by omega)]
    rw [hl] at g1
    exact zu_bd g1 rfl
  | succ r ih =>
    intro i j x T ln e0 e1 a left D I F hr hi hj hx hT hl h01 hlf hD ru h54 h1 hR h65 h67 h67' h72 h72'
    obtain ⟨D', rfl⟩ : ∃ D', D = D' + 1 := ⟨D - 1, by omega⟩
    obtain ⟨_, _, hA, hB, mA, mB⟩ := id hH
    have l0 : ¬ left = 0 := fun w => by
      by_cases c : i < p
      · have := (hlf (A i) (by have := (hA i c).1; omega)).mpr (.inl ⟨i, Nat.le_refl i, c, rfl⟩)
        rw [w, b_0] at this; cases this
      · have c2 : j < q := by omega
        have := (hlf (B j) (by have := (hB j c2).1; omega)).mpr (.inr ⟨j, Nat.le_refl j, c2, rfl⟩)
        rw [w, b_0] at this; cases this
    have R0 := zw_R_n hR (k := i + j) (T := T) (by omega)
    generalize hI0 : zz_u I 68 (i + j) (zz_min (I 68 (i + j)) (nI T)) = I0 at R0
    have o0 : ∀ y, y ≠ 68 → I0 y = I y := fun y hy => by rw [← hI0, zu_ux hy]
    have fr0 : zw_fr I I0 := ⟨fun y a1 a2 a3 a4 a5 a6 a7 a8 a9 a10 => o0 y a6, fun z a1 a2 a3 a4 a5 a6 a7 a8 a9 => by rw [o0 52 (by omega)]⟩
    have ru0 : zr_ru m t I0 F := zr_ru_w ru fr0 (zF_refl F)
    -- from a play on, at any memory
    have ent : zg_weaves N (D' + 1) 0 left (zw_last L x) (nI (i + j)) (nI T) I J F = zl_X12_goWeaves N (zg_weaves N D') (N - 1) 32 left (zw_last L x) (nI (i + j)) (nI T) (nI 0) 0 0 I0 J F := by
      rw [zge_weaves_0]
      unfold zf_X12_goWeaves
      obtain ⟨M, hM⟩ := zu_one N hN
      rw [show zl_X12_goWeaves N (zg_weaves N D') N = zl_X12_goWeaves N (zg_weaves N D') (M + 1) by rw [← hM], ze_X12_goWeaves_0]
      unfold zb_X12_goWeaves_0
      rw [if_pos (nI_in (show i + j < 13 by omega) (by omega)), if_pos l0, nI_clamp (by omega), hI0, show M = N - 1 by omega]
      rfl
    -- no scene of this play is left
    have skip : ∀ (v pl : Nat) (I2 : Nat → Nat → Int32) (F2 : zz_F) (y : Int32), pl ≤ 1 → zf_X12_ofPlay N left (nI pl) I2 J = some (y, I2, J) → zf_X12_firstOf N y I2 J = some (-1, I2, J) → zl_X12_goWeaves N (zg_weaves N D') (v + 2) 32 left (zw_last L x) (nI (i + j)) (nI T) (nI pl) 0 0 I2 J F2 = zl_X12_goWeaves N (zg_weaves N D') v 32 left (zw_last L x) (nI (i + j)) (nI T) (nI (pl + 1)) 0 0 I2 J F2 := fun v pl I2 F2 y hpl e1 e2 => by
      rw [ze_X12_goWeaves_32]
      unfold zb_X12_goWeaves_32
      rw [if_neg (show ¬ (2 : Int32) ≤ nI pl from nI_ge (b := 2) (by omega) (by omega)), e1, Option.bind_some]
      dsimp only
      rw [e2, Option.bind_some]
      dsimp only
      rw [if_neg (fun w => w rfl), ze_X12_goWeaves_194]
      unfold zb_X12_goWeaves_194
      rw [nI_1]
    have done : ∀ (v : Nat) (I2 : Nat → Nat → Int32) (F2 : zz_F), zl_X12_goWeaves N (zg_weaves N D') (v + 1) 32 left (zw_last L x) (nI (i + j)) (nI T) (nI 2) 0 0 I2 J F2 = some (0, I2, J, F2) := fun v I2 F2 => by
      rw [ze_X12_goWeaves_32]
      unfold zb_X12_goWeaves_32
      rw [if_pos (show (2 : Int32) ≤ nI 2 by decide)]
    have ln01 : ∀ v, v ≤ 1 → ∀ w, w ∈ ln ++ [v] → w ≤ 1 := fun v hv w hw => by
      rcases List.mem_append.mp hw with z | z
      · exact h01 w z
      · rw [List.mem_singleton.mp z]; exact hv
    have lnl : ∀ v : Nat, (ln ++ [v]).length = i + j + 1 := fun v => by rw [List.length_append, List.length_singleton, hl]
    have lng : ∀ v : Nat, (ln ++ [v]).getD (i + j) 0 = v := fun v => by rw [zw_getA, if_neg (by omega), if_pos hl.symm]
    -- the second play
    have snd : ∀ (I2 : Nat → Nat → Int32) (F2 : zz_F) (a2 : zw_K) (v : Nat), 20 < v → zw_fr I I2 → zF_re F F2 → zw_R I2 a2 → (∀ k, k < i + j → I2 65 k = I 65 k) → I2 67 0 = nI e0 → I2 67 1 = nI e1 → ∃ I' F', zl_X12_goWeaves N (zg_weaves N D') v 32 left (zw_last L x) (nI (i + j)) (nI T) (nI 1) 0 0 I2 J F2 = some (0, I', J, F') ∧ zw_R I' (if j < q then zw_go p q A B (zw_c m t f L) X Y r i (j + 1) (B j) (T + zw_c m t f L x (B j)) (ln ++ [1]) e0 (T + zw_c m t f L x (B j)) (zw_n2 a2 (B j) (i + j) (T + zw_c m t f L x (B j))) else a2) ∧ zw_fr I I' ∧ zF_re F F' ∧ (∀ k, k < i + j → I' 65 k = I 65 k) ∧ I' 67 0 = nI e0 ∧ I' 67 1 = nI e1 := fun I2 F2 a2 v hv fr2 fF2 R2 e65 e670 e671 => by
      have h54' : I2 54 = f := by rw [fr2.1 54 (by omega) (by omega) (by omega) (by omega) (by omega) (by omega) (by omega) (by omega) (by omega) (by omega)]; exact h54
      have h1' : I2 52 1 = nI n := by rw [fr2.2 1 (by omega) (by omega) (by omega) (by omega) (by omega) (by omega) (by omega) (by omega) (by omega)]; exact h1
      have h72a : I2 72 = I 72 := fr2.1 72 (by omega) (by omega) (by omega) (by omega) (by omega) (by omega) (by omega) (by omega) (by omega) (by omega)
      obtain ⟨y, y1, y2⟩ := (zm_nf hN (J := J) h1' (by rw [h54']; exact hH) hlf).2
      by_cases c : j < q
      · rw [if_pos c] at y2 ⊢
        have W108 := zw_cT (m := m) (t := t) hf (hB j c).1 hn hx hL
        obtain ⟨I3, F3, v3, hv3, k1, k2, k3, k4, k5, k6, k7, k8, k9⟩ := zm_child hN (call := zg_weaves N D') (J := J) hn hf (zr_ru_w ru fr2 fF2) h54' hL hx (hB j c).1 (show 1 ≤ 1 by omega) (show i + j < 12 by omega) (show T ≤ 2000 by omega) R2 y1 y2 (u := v) (by omega)
        have fr3 := zw_fr_trans fr2 k3
        obtain ⟨I4, F4, q1, q2, q3, q4, q5, q6, q7⟩ := ih i (j + 1) (B j) (T + zw_c m t f L x (B j)) (ln ++ [1]) e0 (T + zw_c m t f L x (B j)) _ _ D' I3 F3 (by omega) hi (by omega) (.inr (hB j c).1) (by omega) (by rw [lnl]; omega) (ln01 1 (by omega)) (zw_lft1 hH hlf c) (by omega) k4 (by rw [fr3.1 54 (by omega) (by omega) (by omega) (by omega) (by omega) (by omega) (by omega) (by omega) (by omega) (by omega)]; exact h54) (by rw [fr3.2 1 (by omega) (by omega) (by omega) (by omega) (by omega) (by omega) (by omega) (by omega) (by omega)]; exact h1) k2 (fun k hk => by
          by_cases e : k = i + j
          · rw [e, k6, lng]
          · rw [k7 k e, e65 k (by omega), h65 k (by omega), zw_getL (by omega)]) (by rw [k9 0 (by omega)]; exact e670) k8 (by rw [k3.1 72 (by omega) (by omega) (by omega) (by omega) (by omega) (by omega) (by omega) (by omega) (by omega) (by omega), h72a]; exact h72) (by rw [k3.1 72 (by omega) (by omega) (by omega) (by omega) (by omega) (by omega) (by omega) (by omega) (by omega) (by omega), h72a]; exact h72')
        rw [show i + (j + 1) = i + j + 1 by omega] at q1 q5
        rw [show zw_last L (B j) = nI (B j) from if_neg (by have := (hB j c).1; omega)] at q1
        refine ⟨zz_u I4 67 1 (I2 67 1), F4, ?_, zw_R_u q2 1 _, zw_fr_67 (zw_fr_trans fr3 q3) 1 _, zF_trans fF2 (zF_trans k5 q4), fun k hk => ?_, ?_, ?_⟩
        · rw [k1]
          obtain ⟨v4, rfl⟩ : ∃ v4, v3 = v4 + 1 := ⟨v3 - 1, by omega⟩
          exact zu_bd q1 (done v4 _ _)
        · rw [zu_ux (by omega), q5 k (by omega), k7 k (by omega), e65 k hk]
        · rw [zz_un (by omega), q6]
        · rw [zz_us, e671]
      · rw [if_neg c] at y2 ⊢
        obtain ⟨v2, rfl⟩ : ∃ v2, v = v2 + 3 := ⟨v - 3, by omega⟩
        exact ⟨I2, F2, (skip (v2 + 1) 1 I2 F2 y (by omega) y1 y2).trans (done v2 I2 F2), R2, fr2, fF2, e65, e670, e671⟩
    rw [ent]
    have h54' : I0 54 = f := by rw [o0 54 (by omega)]; exact h54
    have h1' : I0 52 1 = nI n := by rw [o0 52 (by omega)]; exact h1
    obtain ⟨y, y1, y2⟩ := (zm_nf hN (J := J) h1' (by rw [h54']; exact hH) hlf).1
    by_cases c : i < p
    · rw [if_pos c] at y2
      have W108 := zw_cT (m := m) (t := t) hf (hA i c).1 hn hx hL
      obtain ⟨I3, F3, v3, hv3, k1, k2, k3, k4, k5, k6, k7, k8, k9⟩ := zm_child hN (call := zg_weaves N D') (J := J) hn hf ru0 h54' hL hx (hA i c).1 (show 0 ≤ 1 by omega) (show i + j < 12 by omega) (show T ≤ 2000 by omega) R0 y1 y2 (u := N - 1) (by omega)
      have fr3 := zw_fr_trans fr0 k3
      obtain ⟨I4, F4, q1, q2, q3, q4, q5, q6, q7⟩ := ih (i + 1) j (A i) (T + zw_c m t f L x (A i)) (ln ++ [0]) (T + zw_c m t f L x (A i)) e1 _ _ D' I3 F3 (by omega) (by omega) hj (.inr (hA i c).1) (by omega) (by rw [lnl]; omega) (ln01 0 (by omega)) (zw_lft0 hH hlf c) (by omega) k4 (by rw [fr3.1 54 (by omega) (by omega) (by omega) (by omega) (by omega) (by omega) (by omega) (by omega) (by omega) (by omega)]; exact h54) (by rw [fr3.2 1 (by omega) (by omega) (by omega) (by omega) (by omega) (by omega) (by omega) (by omega) (by omega)]; exact h1) k2 (fun k hk => by
        by_cases e : k = i + j
        · rw [e, k6, lng]
        · rw [k7 k e, o0 65 (by omega), h65 k (by omega), zw_getL (by omega)]) k8 (by rw [k9 1 (by omega), o0 67 (by omega)]; exact h67') (by rw [k3.1 72 (by omega) (by omega) (by omega) (by omega) (by omega) (by omega) (by omega) (by omega) (by omega) (by omega), o0 72 (by omega)]; exact h72) (by rw [k3.1 72 (by omega) (by omega) (by omega) (by omega) (by omega) (by omega) (by omega) (by omega) (by omega) (by omega), o0 72 (by omega)]; exact h72')
      rw [show i + 1 + j = i + j + 1 by omega] at q1 q5
      rw [show zw_last L (A i) = nI (A i) from if_neg (by have := (hA i c).1; omega)] at q1
      obtain ⟨I', F', z1, z2⟩ := snd (zz_u I4 67 0 (I0 67 0)) F4 _ v3 (by omega) (zw_fr_67 (zw_fr_trans fr3 q3) 0 _) (zF_trans k5 q4) (zw_R_u q2 0 _) (fun k hk => by rw [zu_ux (by omega), q5 k (by omega), k7 k (by omega), o0 65 (by omega)]) (by rw [zz_us, o0 67 (by omega)]; exact h67) (by rw [zz_un (by omega), q7])
      refine ⟨I', F', ?_, ?_⟩
      · rw [k1]
        exact zu_bd q1 z1
      · unfold zw_go
        rw [if_pos c]
        exact z2
    · rw [if_neg c] at y2
      have c2 : j < q := by omega
      obtain ⟨I', F', z1, z2⟩ := snd I0 F _ (N - 3) (by omega) fr0 (zF_refl F) R0 (fun k hk => by rw [o0 65 (by omega)]) (by rw [o0 67 (by omega)]; exact h67) (by rw [o0 67 (by omega)]; exact h67')
      refine ⟨I', F', ?_, ?_⟩
      · rw [show N - 1 = N - 3 + 2 by omega, skip (N - 3) 0 I0 F y (by omega) y1 y2]
        exact z1
      · unfold zw_go
        rw [if_neg c]
        rw [if_pos c2] at z2
        exact z2
