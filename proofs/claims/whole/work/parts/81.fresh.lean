/-! THE TABLE OF CHANGES; CHANGE -/
def zt_c (m : Nat) (I : Nat → Nat → Int32) (a b : Nat) : Int32 := zq_chg m (I 58) (fun w => I 54 (7 * a + w)) (fun w => I 54 (7 * b + w))
def zt_P (I X : Nat → Nat → Int32) : Prop := ∀ x, x ≠ 30 → x ≠ 31 → X x = I x
theorem zs_fresh_i {N n : Nat} (hN : 100000 ≤ N) {I : Nat → Nat → Int32} {J : Nat → Nat → Int64} (h : zi_sc n I) {m cs : Nat} (hcs : cs ≤ 40) (h3 : I 28 3 = nI cs) (hev : ∀ e, zc_s e (I 29) cs = [zq_val m (I 58) e]) {a : Nat} (ha : a < n) (Q : Option (Int32 × (Nat → Nat → Int32) × (Nat → Nat → Int64)) → Prop) : ∀ q b u (X : Nat → Nat → Int32), b + q = n → q < u → zt_P I X → (∀ a' b', a' < n → b' < n → (a' < a ∨ a' = a ∧ b' < b) → X 31 (12 * a' + b') = zt_c m I a' b') → (∀ u' X', u ≤ u' + q + 1 → zt_P I X' → (∀ a' b', a' < n → b' < n → a' < a + 1 → X' 31 (12 * a' + b') = zt_c m I a' b') → Q (zl_X1_refresh__5 N u' 20 (nI n) (nI (a + 1)) 0 0 X' J)) → Q (zl_X1_refresh__5 N u 28 (nI n) (nI a) (nI b) 0 X J) := by
  intro q
  have hn := h.1
  induction q with
  | zero =>
    intro b u X hb hu hP hT hQ
    obtain ⟨u', rfl⟩ : ∃ u', u = u' + 1 := ⟨u - 1, by omega⟩
    obtain rfl : b = n := by omega
    rw [zo_X1_refresh__5_28]
    unfold zb_X1_refresh__5_28
    rw [if_pos (nI_le (Nat.le_refl b) (by omega)), nI_1]
    exact hQ u' X (by omega) hP (fun a' b' h1 h2 h3 => hT a' b' h1 h2 (by omega))
  | succ q ih =>
    intro b u X hb hu hP hT hQ
    obtain ⟨u', rfl⟩ : ∃ u', u = u' + 1 := ⟨u - 1, by omega⟩
    have sX : zi_sc n X := zc_sc h (congrFun (hP 5 (by omega) (by omega)) 2) (hP 6 (by omega) (by omega)) (hP 7 (by omega) (by omega)) (congrFun (hP 52 (by omega) (by omega)) 1) (hP 54 (by omega) (by omega))
    have e54 : X 54 = I 54 := hP 54 (by omega) (by omega)
    obtain ⟨g', ew⟩ := zs_worth hN (I := X) (J := J) sX ha (show b < n by omega) hcs (by rw [hP 28 (by omega) (by omega)]; exact h3) (v := zq_val m (I 58) (zq_e (fun w => I 54 (7 * a + w)) (fun w => I 54 (7 * b + w)))) (by rw [hP 29 (by omega) (by omega), e54]; exact hev _)
    rw [zo_X1_refresh__5_28]
    unfold zb_X1_refresh__5_28
    have ix : nI a * 12 + nI b = nI (12 * a + b) := by
      rw [show nI a * 12 = nI (a * 12) from pk_mul a 12, nI_add, Nat.mul_comm a 12]
    rw [if_neg (nI_ge (show b < n by omega) (by omega)), ew, Option.bind_some, ix, if_pos (nI_in (show 12 * a + b < 144 by omega) (by omega)), nI_clamp (by omega), nI_1]
    refine ih (b + 1) u' _ (by omega) (by omega) (fun x h30 h31 => ?_) (fun a' b' h1 h2 h3 => ?_) (fun u2 X' h1 h2 h3 => hQ u2 X' (by omega) h2 h3)
    · show zz_u (zh_r X 30 g') 31 _ _ x = _
      rw [zu_ux h31, zu_rx h30, hP x h30 h31]
    · show zz_u (zh_r X 30 g') 31 (12 * a + b) _ 31 (12 * a' + b') = _
      by_cases e : a' = a ∧ b' = b
      · obtain ⟨rfl, rfl⟩ := e
        rw [zz_us]
        rfl
      · rw [zz_un (fun w => by omega), zu_rx (by omega)]
        exact hT a' b' h1 h2 (by omega)
theorem zs_fresh_o {N n : Nat} (hN : 100000 ≤ N) {I : Nat → Nat → Int32} {J : Nat → Nat → Int64} (h : zi_sc n I) {m cs : Nat} (hcs : cs ≤ 40) (h3 : I 28 3 = nI cs) (hev : ∀ e, zc_s e (I 29) cs = [zq_val m (I 58) e]) : ∀ q a u (X : Nat → Nat → Int32), a + q = n → 20 * q < u → zt_P I X → (∀ a' b', a' < n → b' < n → a' < a → X 31 (12 * a' + b') = zt_c m I a' b') → ∃ X', zl_X1_refresh__5 N u 20 (nI n) (nI a) 0 0 X J = some (0, zz_u X' 28 4 1, J) ∧ zt_P I X' ∧ ∀ a' b', a' < n → b' < n → X' 31 (12 * a' + b') = zt_c m I a' b' := by
  intro q
  have hn := h.1
  induction q with
  | zero =>
    intro a u X ha hu hP hT
    obtain ⟨u', rfl⟩ : ∃ u', u = u' + 1 := ⟨u - 1, by omega⟩
    obtain rfl : a = n := by omega
    refine ⟨X, ?_, hP, fun a' b' h1 h2 => hT a' b' h1 h2 h1⟩
    rw [zo_X1_refresh__5_20]
    unfold zb_X1_refresh__5_20
    rw [if_pos (nI_le (Nat.le_refl a) (by omega))]
  | succ q ih =>
    intro a u X ha hu hP hT
    obtain ⟨u', rfl⟩ : ∃ u', u = u' + 1 := ⟨u - 1, by omega⟩
    rw [zo_X1_refresh__5_20]
    unfold zb_X1_refresh__5_20
    rw [if_neg (nI_ge (show a < n by omega) (by omega))]
    exact zs_fresh_i hN h hcs h3 hev (show a < n by omega) (fun r => ∃ X', r = some (0, zz_u X' 28 4 1, J) ∧ zt_P I X' ∧ ∀ a' b', a' < n → b' < n → X' 31 (12 * a' + b') = zt_c m I a' b') n 0 u' X (by omega) (by omega) hP (fun a' b' h1 h2 h3 => hT a' b' h1 h2 (by omega)) (fun u2 X' h1 h2 h3 => ih (a + 1) u2 X' (by omega) (by omega) h2 h3)
/-- the table is made fresh: all holds as before, and it is fresh -/
theorem zs_fresh {N n : Nat} (hN : 100000 ≤ N) {I : Nat → Nat → Int32} {J : Nat → Nat → Int64} {F : zz_F} (h : zi n I J F) : ∃ I', zf_X1_refresh__5 N I J = some (0, I', J) ∧ zi n I' J F ∧ I' 28 4 = 1 ∧ (∀ x, x ≠ 28 → x ≠ 30 → x ≠ 31 → I' x = I x) ∧ ∀ i, i ≠ 4 → I' 28 i = I 28 i := by
  have hn := h.1.1
  obtain ⟨m, cs, m40, c40, m16, c3, ok, ev, f01, tb⟩ := h.2.2.2.2.2.2.2.1
  obtain ⟨M, rfl⟩ := zu_one N hN
  rw [zo_X1_refresh__5]
  unfold zb_X1_refresh__5_0
  rcases f01 with f | f
  · rw [f, if_pos rfl]
    have mn : zz_min (I 5 2) 12 = nI n := by
      rw [h.1.2.2.1]
      unfold zz_min
      by_cases q : n = 12
      · subst q; rfl
      · rw [if_neg (show ¬ (12 : Int32) < nI n from nI_nlt (a := 12) (by omega) (by omega))]
    rw [mn]
    obtain ⟨X, e1, e2, e3⟩ := zs_fresh_o hN (J := J) h.1 c40 c3 ev n 0 M I (by omega) (by omega) (fun _ _ _ => rfl) (fun a' b' _ _ w => by omega)
    refine ⟨_, e1, ?_, rfl, fun x h28 h30 h31 => by rw [zu_ux h28, e2 x h30 h31], fun i hi => by rw [zz_un (fun w => hi w.2), e2 28 (by omega) (by omega)]⟩
    have E : ∀ x, x ≠ 28 → x ≠ 30 → x ≠ 31 → zz_u X 28 4 1 x = I x := fun x h28 h30 h31 => by rw [zu_ux h28, e2 x h30 h31]
    have E28 : ∀ i, i ≠ 4 → zz_u X 28 4 1 28 i = I 28 i := fun i hi => by rw [zz_un (fun w => hi w.2), e2 28 (by omega) (by omega)]
    have e54 := E 54 (by omega) (by omega) (by omega)
    have e52 := E 52 (by omega) (by omega) (by omega)
    have ee2 := E 2 (by omega) (by omega) (by omega)
    have e9 := E 9 (by omega) (by omega) (by omega)
    refine ⟨zc_sc h.1 (congrFun (E 5 (by omega) (by omega) (by omega)) 2) (E 6 (by omega) (by omega) (by omega)) (E 7 (by omega) (by omega) (by omega)) (congrFun e52 1) e54, ?_, zc_txt h.2.2.1 (congrFun ee2 1) (congrFun e52 4) (E 3 (by omega) (by omega) (by omega)) (E 55 (by omega) (by omega) (by omega)), zc_tol h.2.2.2.1 (congrFun ee2 3) (congrFun e52 6) rfl rfl, zc_bow h.2.2.2.2.1 (congrFun ee2 15) (congrFun ee2 16) (congrFun e52 43) (congrFun e52 44), zc_rng h.2.2.2.2.2.1 (congrFun e9 4) (congrFun e9 5) (congrFun e52 20) (E 61 (by omega) (by omega) (by omega)) (fun k hk => E _ (by omega) (by omega) (by omega)), zc_shl h.2.2.2.2.2.2.1 (congrFun e52 45) (E 12 (by omega) (by omega) (by omega)) (E 81 (by omega) (by omega) (by omega)) (E 82 (by omega) (by omega) (by omega)) (E 80 (by omega) (by omega) (by omega)) (fun k hk => E _ (by omega) (by omega) (by omega)), ⟨m, cs, m40, c40, by rw [e52]; exact m16, by rw [E28 3 (by omega)]; exact c3, by rw [E 58 (by omega) (by omega) (by omega)]; exact ok, by rw [E 29 (by omega) (by omega) (by omega), E 58 (by omega) (by omega) (by omega)]; exact ev, .inr rfl, fun _ a b ha hb => ?_⟩, h.2.2.2.2.2.2.2.2⟩
    · rw [E 53 (by omega) (by omega) (by omega), E 8 (by omega) (by omega) (by omega)]
      exact h.2.1
    · rw [zu_ux (show 31 ≠ 28 by omega), e3 a b ha hb, e54, E 58 (by omega) (by omega) (by omega)]
      rfl
  · rw [f, if_neg (by decide)]
    exact ⟨I, rfl, h, f, fun _ _ _ _ => rfl, fun _ _ => rfl⟩
/-- between, when it is fresh -/
theorem zs_betw {n : Nat} {I : Nat → Nat → Int32} {J : Nat → Nat → Int64} {F : zz_F} (h : zi n I J F) (hf : I 28 4 = 1) : ∃ m, zr_ru m (I 58) I F ∧ ∀ a b, a < n → b < n → zv_X1_between I (nI a) (nI b) = zt_c m I a b := by
  have hn := h.1.1
  obtain ⟨m, cs, m40, c40, m16, c3, ok, ev, f01, tb⟩ := h.2.2.2.2.2.2.2.1
  refine ⟨m, ⟨m40, m16, rfl, ok, h.2.2.2.2.2.2.2.2.2.1⟩, fun a b ha hb => ?_⟩
  unfold zv_X1_between
  have ix : nI a * 12 + nI b = nI (12 * a + b) := by
    rw [show nI a * 12 = nI (a * 12) from pk_mul a 12, nI_add, Nat.mul_comm a 12]
  rw [if_neg (nI_pos (by omega)), if_neg (show ¬ (12 : Int32) ≤ nI a from nI_ge (b := 12) (by omega) (by omega)), if_neg (nI_pos (by omega)), if_pos (show nI b < 12 from nI_lt (b := 12) (by omega) (by omega)), ix, nI_clamp (by omega), tb hf a b ha hb]
  rfl
