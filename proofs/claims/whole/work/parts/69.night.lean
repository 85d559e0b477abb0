/-! THE NIGHT CHANGES, and what was is kept -/
def zkp (t : Nat) (I I2 : Nat → Nat → Int32) : Prop := ∀ a i, zk_k a i = true → a ≠ 8 → a ≠ 9 → a ≠ 53 → a ≠ 61 → a ≠ 14 + t → ¬ (a = 52 ∧ i = 20) → I2 a i = I a i
theorem zkp_refl (t : Nat) (I : Nat → Nat → Int32) : zkp t I I := fun _ _ _ _ _ _ _ _ _ => rfl
theorem zkp_u {t : Nat} {I X : Nat → Nat → Int32} {b j : Nat} {v : Int32} (hb : zk_k b j = false ∨ b = 8 ∨ b = 9 ∨ b = 53 ∨ b = 61 ∨ (b = 52 ∧ j = 20)) (h : zkp t I X) : zkp t I (zz_u X b j v) := fun a i hk h8 h9 h53 h61 h14 h20 => by
  rw [zz_un (fun w => ?_)]
  · exact h a i hk h8 h9 h53 h61 h14 h20
  · obtain ⟨rfl, rfl⟩ := w
    rcases hb with q | q | q | q | q | q
    · rw [q] at hk; cases hk
    · exact h8 q
    · exact h9 q
    · exact h53 q
    · exact h61 q
    · exact h20 q
theorem zkp_r {t : Nat} {I X : Nat → Nat → Int32} {b : Nat} {g : Nat → Int32} (hb : b = 53 ∨ b = 61 ∨ ∀ i, zk_k b i = false) (h : zkp t I X) : zkp t I (zh_r X b g) := fun a i hk h8 h9 h53 h61 h14 h20 => by
  unfold zh_r
  split
  · next e =>
    subst e
    rcases hb with q | q | q
    · exact absurd q h53
    · exact absurd q h61
    · rw [q] at hk; cases hk
  · exact h a i hk h8 h9 h53 h61 h14 h20
theorem zkp_c {t c : Nat} {I X : Nat → Nat → Int32} (h : zkp t I X) : zkp t I (zz_cpn X (14 + t) c) := fun a i hk h8 h9 h53 h61 h14 h20 => by
  rw [zu_cpn h14]
  exact h a i hk h8 h9 h53 h61 h14 h20
theorem zkp_c8 {t c : Nat} {I X : Nat → Nat → Int32} (h : zkp t I X) : zkp t I (zz_cpn X 8 c) := fun a i hk h8 h9 h53 h61 h14 h20 => by
  rw [zu_cpn h8]
  exact h a i hk h8 h9 h53 h61 h14 h20
theorem zkp_c13 {t c : Nat} {I X : Nat → Nat → Int32} (h : zkp t I X) : zkp t I (zz_cpn X 13 c) := fun a i hk h8 h9 h53 h61 h14 h20 => by
  rw [zu_cpn (fun w => by subst w; cases hk)]
  exact h a i hk h8 h9 h53 h61 h14 h20
theorem zkp_k {t : Nat} {I X Y : Nat → Nat → Int32} (h : zkp t I X) (hk : zk X Y) : zkp t I Y := fun a i k h8 h9 h53 h61 h14 h20 => (hk a i k).trans (h a i k h8 h9 h53 h61 h14 h20)
/-- all parts but the night and the ring -/
theorem zi_pushed {n : Nat} {I I2 : Nat → Nat → Int32} {J J2 : Nat → Nat → Int64} {F F2 : zz_F} (h : zi n I J F) {t m : Nat} (ht : t < 12) (hm : m ≤ 12) (hk : ∀ k, k < m → zi_row n (fun i => I 61 (18 * k + i)) (I (14 + (t + 12 - m + k) % 12))) (ek : zkp t I I2) (en : ∀ k, k < 12 → k ≠ t → I2 (14 + k) = I (14 + k)) (hr : zi_row n (I2 53) (I2 8)) (e61 : I2 61 = zh_rm (I 61) (I 53) m) (eb : ∀ i, i < 9 → I2 (14 + t) i = I 8 i) (e5 : I2 9 5 = nI (if m = 12 then 12 else m + 1)) (e4 : I2 9 4 = nI ((t + 1) % 12)) (e20 : I2 52 20 = nI (if m = 12 then 12 else m + 1)) (htol : zi_tol I2 J2) (hF : zi_F F2) : zi n I2 J2 F2 := by
  have f : ∀ a, (∀ i, zk_k a i = true) → a ≠ 8 → a ≠ 9 → a ≠ 53 → a ≠ 61 → a ≠ 14 + t → a ≠ 52 → I2 a = I a := fun a ha h8 h9 h53 h61 h14 h52 => funext fun i => ek a i (ha i) h8 h9 h53 h61 h14 (fun w => h52 w.1)
  have c : ∀ a i, zk_k a i = true → a ≠ 8 → a ≠ 9 → a ≠ 53 → a ≠ 61 → a ≠ 14 + t → ¬ (a = 52 ∧ i = 20) → I2 a i = I a i := ek
  have e54 : I2 54 = I 54 := f 54 (fun _ => rfl) (by omega) (by omega) (by omega) (by omega) (by omega) (by omega)
  refine ⟨zc_sc h.1 (c 5 2 rfl (by omega) (by omega) (by omega) (by omega) (by omega) (by omega)) (f 6 (fun _ => rfl) (by omega) (by omega) (by omega) (by omega) (by omega) (by omega)) (f 7 (fun _ => rfl) (by omega) (by omega) (by omega) (by omega) (by omega) (by omega)) (c 52 1 rfl (by omega) (by omega) (by omega) (by omega) (by omega) (by omega)) e54, hr, zc_txt h.2.2.1 (c 2 1 rfl (by omega) (by omega) (by omega) (by omega) (by omega) (by omega)) (c 52 4 rfl (by omega) (by omega) (by omega) (by omega) (by omega) (by omega)) (f 3 (fun _ => rfl) (by omega) (by omega) (by omega) (by omega) (by omega) (by omega)) (f 55 (fun _ => rfl) (by omega) (by omega) (by omega) (by omega) (by omega) (by omega)), htol, zc_bow h.2.2.2.2.1 (c 2 15 rfl (by omega) (by omega) (by omega) (by omega) (by omega) (by omega)) (c 2 16 rfl (by omega) (by omega) (by omega) (by omega) (by omega) (by omega)) (c 52 43 rfl (by omega) (by omega) (by omega) (by omega) (by omega) (by omega)) (c 52 44 rfl (by omega) (by omega) (by omega) (by omega) (by omega) (by omega)), zi_rng_push h.1.1 ht hm hk h.2.1 e61 en eb e5 e4 e20, zc_shl h.2.2.2.2.2.2.1 (c 52 45 rfl (by omega) (by omega) (by omega) (by omega) (by omega) (by omega)) (f 12 (fun _ => rfl) (by omega) (by omega) (by omega) (by omega) (by omega) (by omega)) (f 81 (fun _ => rfl) (by omega) (by omega) (by omega) (by omega) (by omega) (by omega)) (f 82 (fun _ => rfl) (by omega) (by omega) (by omega) (by omega) (by omega) (by omega)) (f 80 (fun _ => rfl) (by omega) (by omega) (by omega) (by omega) (by omega) (by omega)) (fun k hk2 => ?_), zc_rul h.2.2.2.2.2.2.2.1 (c 52 16 rfl (by omega) (by omega) (by omega) (by omega) (by omega) (by omega)) (c 28 3 rfl (by omega) (by omega) (by omega) (by omega) (by omega) (by omega)) (c 28 4 rfl (by omega) (by omega) (by omega) (by omega) (by omega) (by omega)) (f 29 (fun _ => rfl) (by omega) (by omega) (by omega) (by omega) (by omega) (by omega)) (f 31 (fun _ => rfl) (by omega) (by omega) (by omega) (by omega) (by omega) (by omega)) (f 58 (fun _ => rfl) (by omega) (by omega) (by omega) (by omega) (by omega) (by omega)) e54, hF⟩
  rcases (by omega : k = 0 ∨ k = 1) with rfl | rfl
  · exact f 26 (fun _ => rfl) (by omega) (by omega) (by omega) (by omega) (by omega) (by omega)
  · exact f 27 (fun _ => rfl) (by omega) (by omega) (by omega) (by omega) (by omega) (by omega)
theorem zu_r53 {X : Nat → Nat → Int32} {a s : Nat} {v : Int32} : zz_u X a s v a = zh_up (X a) s v := by
  funext j
  unfold zz_u zh_up
  by_cases e : j = s <;> simp [e]
theorem zkp_push {t : Nat} {I C : Nat → Nat → Int32} (hC : ∀ a, a ≠ 9 → a ≠ 14 + t → C a = I a) : zkp t I C := fun a i _ _ h9 _ _ h14 _ => congrFun (hC a h9 h14) i
theorem zkp_rem {t : Nat} {I X R : Nat → Nat → Int32} (h : zkp t I X) (hR : ∀ a, a ≠ 61 → a ≠ 52 → R a = X a) (h52 : ∀ i, i ≠ 20 → R 52 i = X 52 i) : zkp t I R := fun a i hk h8 h9 h53 h61 h14 h20 => by
  by_cases e : a = 52
  · subst e
    rw [h52 i (fun w => h20 ⟨rfl, w⟩)]
    exact h 52 i hk h8 h9 h53 h61 h14 h20
  · rw [hR a h61 e]
    exact h a i hk h8 h9 h53 h61 h14 h20
theorem zs_push {N : Nat} (hN : 100000 ≤ N) {I : Nat → Nat → Int32} {J : Nat → Nat → Int64} {t m : Nat} (ht : t < 12) (hm : m ≤ 12) (h4 : I 9 4 = nI t) (h5 : I 9 5 = nI m) : ∃ C, zf_X6_push__8 N I J = some (0, C, J) ∧ (∀ a, a ≠ 9 → a ≠ 14 + t → C a = I a) ∧ C 9 4 = nI ((t + 1) % 12) ∧ C 9 5 = nI (if m = 12 then 12 else m + 1) ∧ ∀ i, i < 9 → C (14 + t) i = I 8 i := by
  refine ⟨_, zs_push8 hN ht hm h4 h5, fun a h9 h14 => ?_, rfl, rfl, fun i hi => ?_⟩
  · rw [zu_ux h9, zu_ux h9, zu_cpn h14]
  · rw [zu_ux (by omega), zu_ux (by omega)]
    exact zu_cpi hi
theorem zs_pushH {N : Nat} (hN : 100000 ≤ N) {I : Nat → Nat → Int32} {J : Nat → Nat → Int64} {t m : Nat} (ht : t < 12) (hm : m ≤ 12) (h4 : I 9 4 = nI t) (h5 : I 9 5 = nI m) : ∃ C, zf_X6_push__13 N I J = some (0, C, J) ∧ (∀ a, a ≠ 9 → a ≠ 14 + t → C a = I a) ∧ C 9 4 = nI ((t + 1) % 12) ∧ C 9 5 = nI (if m = 12 then 12 else m + 1) ∧ ∀ i, i < 9 → C (14 + t) i = I 13 i := by
  refine ⟨_, zs_push13 hN ht hm h4 h5, fun a h9 h14 => ?_, rfl, rfl, fun i hi => ?_⟩
  · rw [zu_ux h9, zu_ux h9, zu_cpn h14]
  · rw [zu_ux (by omega), zu_ux (by omega)]
    exact zu_cpi hi
theorem zm_rem {N : Nat} (hN : 100000 ≤ N) {I : Nat → Nat → Int32} {J : Nat → Nat → Int64} {m : Nat} (hm : m ≤ 12) (h : I 52 20 = nI m) : ∃ R, zf_X12_remember__53 N I J = some (0, R, J) ∧ (∀ a, a ≠ 61 → a ≠ 52 → R a = I a) ∧ R 61 = zh_rm (I 61) (I 53) m ∧ R 52 20 = nI (if m = 12 then 12 else m + 1) ∧ ∀ i, i ≠ 20 → R 52 i = I 52 i := by
  refine ⟨_, zm_rem53 hN hm h, fun a h61 h52 => ?_, ?_, rfl, fun i hi => ?_⟩
  · rw [zu_ux h52, zu_rx h61]
  · rw [zu_ux (by omega)]
    funext j
    exact zh_rr _ _ _ _
  · rw [zz_un (fun w => hi w.2), zu_rx (by omega)]
theorem zm_remH {N : Nat} (hN : 100000 ≤ N) {I : Nat → Nat → Int32} {J : Nat → Nat → Int64} {m : Nat} (hm : m ≤ 12) (h : I 52 20 = nI m) : ∃ R, zf_X12_remember__62 N I J = some (0, R, J) ∧ (∀ a, a ≠ 61 → a ≠ 52 → R a = I a) ∧ R 61 = zh_rm (I 61) (I 62) m ∧ R 52 20 = nI (if m = 12 then 12 else m + 1) ∧ ∀ i, i ≠ 20 → R 52 i = I 52 i := by
  refine ⟨_, zm_rem62 hN hm h, fun a h61 h52 => ?_, ?_, rfl, fun i hi => ?_⟩
  · rw [zu_ux h52, zu_rx h61]
  · rw [zu_ux (by omega)]
    funext j
    exact zh_rr _ _ _ _
  · rw [zz_un (fun w => hi w.2), zu_rx (by omega)]
/-- push, then the night as X has it; remember, then the row as Y has it -/
theorem zi_step {n : Nat} {I C X R Y : Nat → Nat → Int32} {J J2 : Nat → Nat → Int64} {F F2 : zz_F} (h : zi n I J F) {t m : Nat} (ht : t < 12) (hm : m ≤ 12) (hk : ∀ k, k < m → zi_row n (fun i => I 61 (18 * k + i)) (I (14 + (t + 12 - m + k) % 12)))
    (c1 : ∀ a, a ≠ 9 → a ≠ 14 + t → C a = I a) (c4 : C 9 4 = nI ((t + 1) % 12)) (c5 : C 9 5 = nI (if m = 12 then 12 else m + 1)) (c8 : ∀ i, i < 9 → C (14 + t) i = I 8 i)
    (x1 : ∀ a, a ≠ 8 → a ≠ 2 → a ≠ 52 → X a = C a) (x2 : ∀ i, i ≠ 3 → X 2 i = C 2 i) (x52 : ∀ i, i ≠ 7 → X 52 i = C 52 i)
    (r1 : ∀ a, a ≠ 61 → a ≠ 52 → R a = X a) (r61 : R 61 = zh_rm (X 61) (X 53) m) (r20 : R 52 20 = nI (if m = 12 then 12 else m + 1)) (r52 : ∀ i, i ≠ 20 → R 52 i = X 52 i)
    (y1 : ∀ a, a ≠ 53 → a ≠ 52 → a ≠ 60 → Y a = R a) (y52 : ∀ i, zk_k 52 i = true → Y 52 i = R 52 i) (hr : zi_row n (Y 53) (X 8)) (htol : zi_tol Y J2) (hF : zi_F F2) : zi n Y J2 F2 := by
  have e61 : X 61 = I 61 := by rw [x1 61 (by omega) (by omega) (by omega), c1 61 (by omega) (by omega)]
  have e53 : X 53 = I 53 := by rw [x1 53 (by omega) (by omega) (by omega), c1 53 (by omega) (by omega)]
  refine zi_pushed h ht hm hk (fun a i hz h8 h9 h53 h61 h14 h20 => ?_) (fun k hk1 hk2 => ?_) ?_ ?_ (fun i hi => ?_) ?_ ?_ ?_ htol hF
  · by_cases e : a = 52
    · subst e
      rw [y52 i hz, r52 i (fun w => h20 ⟨rfl, w⟩), x52 i (fun w => by subst w; cases hz)]
      exact congrFun (c1 52 h9 h14) i
    · by_cases e2 : a = 2
      · subst e2
        rw [y1 2 h53 e (by omega), r1 2 h61 e, x2 i (fun w => by subst w; cases hz)]
        exact congrFun (c1 2 h9 h14) i
      · rw [y1 a h53 e (fun w => by subst w; cases hz), r1 a h61 e, x1 a h8 e2 e]
        exact congrFun (c1 a h9 h14) i
  · rw [y1 _ (by omega) (by omega) (by omega), r1 _ (by omega) (by omega), x1 _ (by omega) (by omega) (by omega), c1 _ (by omega) (by omega)]
  · rw [y1 8 (by omega) (by omega) (by omega), r1 8 (by omega) (by omega)]
    exact hr
  · rw [y1 61 (by omega) (by omega) (by omega), r61, e61, e53]
  · rw [y1 _ (by omega) (by omega) (by omega), r1 _ (by omega) (by omega), x1 _ (by omega) (by omega) (by omega)]
    exact c8 i hi
  · rw [y1 9 (by omega) (by omega) (by omega), r1 9 (by omega) (by omega), x1 9 (by omega) (by omega) (by omega)]
    exact c5
  · rw [y1 9 (by omega) (by omega) (by omega), r1 9 (by omega) (by omega), x1 9 (by omega) (by omega) (by omega)]
    exact c4
  · rw [y52 20 rfl]
    exact r20
theorem zy_pause {N n : Nat} (hN : 100000 ≤ N) {I : Nat → Nat → Int32} {J : Nat → Nat → Int64} {F : zz_F} (h : zi n I J F) (x : Int32) : ∃ v I1 J1 I2 J2, zf_X11_pause N x I J = some (v, I1, J1) ∧ zf_X12_pause N x I1 J1 = some (v, I2, J2) ∧ zi n I2 J2 F := by
  have hn := h.1.1
  have w0 : I 8 0 = I 53 12 := h.2.1.1
  obtain ⟨m, t, hm, ht, h5, h20, h4, hk⟩ := h.2.2.2.2.2.1
  obtain ⟨M, rfl⟩ := zu_one N hN
  rcases zu_bet x 99 (by omega) with q | ⟨v, hv, rfl⟩
  · have a : zf_X11_pause (M + 1) x I J = some (-1, I, J) := by
      rw [zo_X11_pause]
      unfold zb_X11_pause_0
      rcases q with q | q
      · exact zu_gd q rfl
      · by_cases z : x < 0
        · exact zu_gd z rfl
        · exact zu_gn z (zu_gn (show ¬ x ≤ nI 99 from Int32.not_le.mpr q) rfl)
    have b : zf_X12_pause (M + 1) x I J = some (-1, zz_u I 52 7 0, J) := by
      rw [zo_X12_pause]
      exact zu_gn (fun w => w (zu_inN 99 q)) rfl
    exact ⟨_, _, _, _, _, a, b, zi_q0 h⟩
  · have p2 : ¬ zv_X12_in (nI v) 0 99 = 0 := by rw [show (99 : Int32) = nI 99 from rfl, zu_inY (by omega) hv]; decide
    have p1 : nI v ≤ 99 := nI_le (b := 99) hv (by omega)
    by_cases z : v = 0
    · subst z
      have a : zf_X11_pause (M + 1) (nI 0) I J = some (I 8 0, I, J) := by
        rw [zo_X11_pause]
        exact zu_gn (by decide) (zu_gd (by decide) (zu_gd (by decide) rfl))
      have b : zf_X12_pause (M + 1) (nI 0) I J = some (I 8 0, zz_u (zz_u I 52 7 0) 53 12 (I 53 12), J) := by
        rw [zo_X12_pause]
        unfold zb_X12_pause_0
        refine zu_gd p2 (zu_gd (by decide) ?_)
        rw [show I 53 12 + nI 0 = I 53 12 from Int32.add_zero _, w0]
      refine ⟨_, _, _, _, _, a, b, zi_told h (fun a i k => ?_) h.2.2.2.1 h.2.2.2.2.2.2.2.2⟩
      unfold zz_u
      split
      · next e => rw [e.1, e.2]
      · split
        · next e => rw [e.1, e.2] at k; cases k
        · rfl
    · have vp : ¬ nI v ≤ 0 := nI_nle (by omega) (by omega)
      obtain ⟨C, ec, c1, c4, c5, c8⟩ := zs_push hN (I := I) (J := J) ht hm h4 h5
      have C8 : C 8 = I 8 := c1 8 (by omega) (by omega)
      have C52 : C 52 = I 52 := c1 52 (by omega) (by omega)
      have C53 : C 53 = I 53 := c1 53 (by omega) (by omega)
      have a : zf_X11_pause (M + 1) (nI v) I J = some (I 53 12 + nI v, zz_u C 8 0 (I 53 12 + nI v), J) := by
        rw [zo_X11_pause]
        unfold zb_X11_pause_0
        refine zu_gn (nI_pos (by omega)) (zu_gd p1 (zu_gn vp (zu_bd ec ?_)))
        have e : C 8 0 = I 53 12 := by rw [C8, w0]
        simp only [e]
      obtain ⟨R, er, r1, r61, r20, r52⟩ := zm_rem hN (I := zz_u (zz_u C 8 0 (I 53 12 + nI v)) 52 7 0) (J := J) hm (show C 52 20 = nI m by rw [C52]; exact h20)
      have R53 : R 53 = I 53 := by rw [r1 53 (by omega) (by omega), zu_ux (by omega), zu_ux (by omega), C53]
      have b : zf_X12_pause (M + 1) (nI v) (zz_u C 8 0 (I 53 12 + nI v)) J = some (I 53 12 + nI v, zz_u R 53 12 (I 53 12 + nI v), J) := by
        rw [zo_X12_pause]
        unfold zb_X12_pause_0
        refine zu_gd p2 (zu_gn vp (zu_bd er ?_))
        simp only [R53]
      refine ⟨_, _, _, _, _, a, b, zi_step h ht hm hk c1 c4 c5 c8 (X := zz_u (zz_u C 8 0 (I 53 12 + nI v)) 52 7 0) (fun a ha1 ha2 ha3 => by rw [zu_ux ha3, zu_ux ha1]) (fun i _ => by rw [zu_ux (by omega), zu_ux (by omega)]) (fun i hi => by rw [zz_un (fun w => hi w.2), zu_ux (by omega)]) r1 r61 r20 r52 (fun a ha1 ha2 _ => zu_ux ha1) (fun i _ => by rw [zu_ux (by omega)]) ?_ ?_ h.2.2.2.2.2.2.2.2⟩
      · rw [zu_r53, R53, zu_ux (by omega), zu_r53, C8]
        obtain ⟨a0, a1, a2, a3, a4, a5, a6, a7, a8, a9, a10⟩ := h.2.1
        have st : ∀ w : Int32, zu_set (fun s => decide (zh_up (I 53) 12 (I 53 12 + nI v) s = w)) n = zu_set (fun s => decide (I 53 s = w)) n := fun w => zu_set_cong fun i hi => by rw [show zh_up (I 53) 12 (I 53 12 + nI v) i = I 53 i from if_neg (by omega)]
        refine ⟨rfl, a1, by rw [st]; exact a2, by rw [st]; exact a3, by rw [st]; exact a4, a5, a6, a7, a8, fun s hs => ?_, a10⟩
        rw [show zh_up (I 53) 12 (I 53 12 + nI v) s = I 53 s from if_neg (by omega)]
        exact a9 s hs
      · refine zc_tol h.2.2.2.1 ?_ ?_ rfl rfl
        · rw [zu_ux (by omega), r1 2 (by omega) (by omega), zu_ux (by omega), zu_ux (by omega), c1 2 (by omega) (by omega)]
        · rw [zu_ux (by omega), r52 6 (by omega), zz_un (by omega), zu_ux (by omega), C52]
