/-! THE REFERENCE UNDER THE OTHER RULE -/
def zr_ru9 (m : Nat) (t : Nat → Int32) (I : Nat → Nat → Int32) (F : zz_F) : Prop := m ≤ 40 ∧ I 52 16 = nI m ∧ I 59 = t ∧ zq_ok m t ∧ zz_ru F = 59
theorem zr_ru9_c {m : Nat} {t : Nat → Int32} {I I' : Nat → Nat → Int32} {F F' : zz_F} (h : zr_ru9 m t I F) (hi : zr_fr I I') (hF : zF_re F F') : zr_ru9 m t I' F' := by
  obtain ⟨r, rfl⟩ := hF
  exact ⟨h.1, by rw [hi.2 16 (by omega) (by omega) (by omega) (by omega) (by omega)]; exact h.2.1, by rw [hi.1 59 (by omega) (by omega)]; exact h.2.2.1, h.2.2.2.1, h.2.2.2.2⟩
theorem zm_ask9 {N : Nat} (hN : 100000 ≤ N) {J : Nat → Nat → Int64} {F : zz_F} {m : Nat} {t : Nat → Int32} (m0 : 0 < m) (hm : m ≤ 40) (hok : zq_ok m t) (e : Nat → Int32) (M : Nat → Nat → Int32) (h58 : M 59 = t) (hM : ∀ k, k < 6 → M 60 k = e k) : ∃ I', ((zf_X12_begin N 59 (nI m) 40 M J F).bind fun r9 => (zf_X12_held_ N 0 (zz_u r9.2.1 52 17 1) r9.2.2.1 r9.2.2.2).bind fun r10 => some (zz_max 0 (zz_min 99 r10.1), zz_u r10.2.1 52 17 0, r10.2.2.1, r10.2.2.2)) = some (zz_max 0 (zz_min 99 (zq_val m t e)), I', J, zz_Fre F (some 59)) ∧ zr_fr M I' := by
  have eb : zf_X12_begin N 59 (nI m) 40 M J F = some (0, zz_u (zz_u (zz_u (zz_u M 52 9 (nI m)) 52 10 40) 52 11 0) 52 12 (-1), J, zz_Fre F (some 59)) := by
    obtain ⟨L, rfl⟩ := zu_one N hN
    rw [zo_X12_begin]
    rfl
  have em : zz_u (zz_u (zz_u (zz_u (zz_u M 52 9 (nI m)) 52 10 40) 52 11 0) 52 12 (-1)) 52 17 1 = zr_m (zz_u (zz_u (zz_u M 52 9 (nI m)) 52 10 40) 52 17 1) (nI 0) (-1) := by
    funext b j
    unfold zr_m zz_u
    by_cases q : b = 52
    · subst q
      by_cases q1 : j = 17
      · subst q1; simp
      · by_cases q2 : j = 12
        · subst q2; simp
        · by_cases q3 : j = 11
          · subst q3; simp; rfl
          · simp [q1, q2, q3]
    · simp [q]
  have ok : zr_ok (zz_u (zz_u (zz_u M 52 9 (nI m)) 52 10 40) 52 17 1) (zz_Fre F (some 59)) m t := ⟨59, m, 40, by omega, rfl, rfl, h58, rfl, rfl, by omega, by omega, by omega, hm⟩
  have sim := (zr_sim hN (J := J) ok hok.2 (by omega) (e := e) (fun k hk => by
    rw [zz_us, if_neg (show ¬ (1 : Int32) = 0 by decide)]
    exact (hM k hk).symm) 999 0 0 (by omega) (by omega)).1 0 64 (by omega) (by omega) (by omega)
  obtain ⟨v, hv⟩ := (hok.1.resolve_left (by omega)) e
  rw [hv] at sim
  have sim : zg_held N 64 0 (nI 0) (zr_m (zz_u (zz_u (zz_u M 52 9 (nI m)) 52 10 40) 52 17 1) (nI 0) (-1)) J (zz_Fre F (some 59)) = some (v, zr_m (zz_u (zz_u (zz_u M 52 9 (nI m)) 52 10 40) 52 17 1) (nI m) (-1), J, zz_Fre F (some 59)) := sim
  have vv : zq_val m t e = v := by
    unfold zq_val
    rw [if_neg (by omega), hv]
  refine ⟨zz_u (zr_m (zz_u (zz_u (zz_u M 52 9 (nI m)) 52 10 40) 52 17 1) (nI m) (-1)) 52 17 0, ?_, fun x h60 h52 => ?_, fun i a b c d f => ?_⟩
  · rw [eb, Option.bind_some]
    dsimp only
    rw [em]
    unfold zf_X12_held_
    rw [show (0 : Int32) = nI 0 from rfl, sim, Option.bind_some, vv]
  · rw [zu_ux h52, zr_x h52, zu_ux h52, zu_ux h52, zu_ux h52]
  · unfold zr_m
    rw [zz_un (fun w => f w.2), zz_un (fun w => d w.2), zz_un (fun w => c w.2), zz_un (fun w => f w.2), zz_un (fun w => b w.2), zz_un (fun w => a w.2)]
theorem zm_chg9 {N : Nat} (hN : 100000 ≤ N) {I : Nat → Nat → Int32} {J : Nat → Nat → Int64} {F : zz_F} {m : Nat} {t : Nat → Int32} (h : zr_ru9 m t I F) {a b : Nat} (ha : a < 12) (hb : b < 12) : ∃ I' F', zf_X12_changeOf N (nI a) (nI b) I J F = some (zq_chg m t (fun w => I 54 (7 * a + w)) (fun w => I 54 (7 * b + w)), I', J, F') ∧ zr_fr I I' ∧ zF_re F F' := by
  obtain ⟨hm, h16, h58, hok, hru⟩ := h
  have core : ∀ o : Int32, (o = if I 54 (7 * a) = I 54 (7 * b) then 0 else 1) → ∃ I' F', (if (I 52 16) ≤ 0 then (some (zz_max 0 (zz_min 99 ((((2 : Int32) * o) + (zv_J6_bitCount ((I 54 (7 * a + 2)) &&& (I 54 (7 * b + 2))))) + (zv_J6_bitCount ((I 54 (7 * a + 3)) ^^^ (I 54 (7 * b + 3)))))), I, J, F)) else ((zf_X12_begin N (zz_ru F) (I 52 16) 40 (zz_u (zz_u (zz_u (zz_u (zz_u (zz_u I 60 0 o) 60 1 (zv_J6_bitCount ((I 54 (7 * a + 2)) &&& (I 54 (7 * b + 2))))) 60 2 (zv_J6_bitCount ((I 54 (7 * a + 3)) ^^^ (I 54 (7 * b + 3))))) 60 3 (I 54 (7 * b + 1))) 60 4 (I 54 (7 * a + 1))) 60 5 (zv_J6_bitCount (I 54 (7 * b + 2)))) J F).bind fun r9 => (zf_X12_held_ N 0 (zz_u r9.2.1 52 17 1) r9.2.2.1 r9.2.2.2).bind fun r10 => some (zz_max 0 (zz_min 99 r10.1), zz_u r10.2.1 52 17 0, r10.2.2.1, r10.2.2.2))) = some (zq_chg m t (fun w => I 54 (7 * a + w)) (fun w => I 54 (7 * b + w)), I', J, F') ∧ zr_fr I I' ∧ zF_re F F' := by
    intro o ho
    rw [h16]
    by_cases z : m = 0
    · subst z
      rw [if_pos (by decide)]
      refine ⟨I, F, ?_, zr_fr_refl I, zF_refl F⟩
      unfold zq_chg zq_val
      rw [if_pos rfl, ho]
      rfl
    · rw [if_neg (nI_nle (by omega) (by omega)), hru]
      obtain ⟨I', e1, e2⟩ := zm_ask9 hN (J := J) (F := F) (by omega) hm hok (zq_e (fun w => I 54 (7 * a + w)) (fun w => I 54 (7 * b + w))) (zz_u (zz_u (zz_u (zz_u (zz_u (zz_u I 60 0 o) 60 1 (zv_J6_bitCount ((I 54 (7 * a + 2)) &&& (I 54 (7 * b + 2))))) 60 2 (zv_J6_bitCount ((I 54 (7 * a + 3)) ^^^ (I 54 (7 * b + 3))))) 60 3 (I 54 (7 * b + 1))) 60 4 (I 54 (7 * a + 1))) 60 5 (zv_J6_bitCount (I 54 (7 * b + 2)))) h58 (fun k hk => by
        rcases (by omega : k = 0 ∨ k = 1 ∨ k = 2 ∨ k = 3 ∨ k = 4 ∨ k = 5) with rfl | rfl | rfl | rfl | rfl | rfl
        · exact ho
        · rfl
        · rfl
        · rfl
        · rfl
        · rfl)
      refine ⟨I', _, e1, ⟨fun x h60 h52 => ?_, fun i a b c d f => ?_⟩, ⟨_, rfl⟩⟩
      · rw [e2.1 x h60 h52, zu_ux h60, zu_ux h60, zu_ux h60, zu_ux h60, zu_ux h60, zu_ux h60]
      · rw [e2.2 i a b c d f]
        rfl
  obtain ⟨M, rfl⟩ := zu_one N hN
  rw [zo_X12_changeOf]
  unfold zb_X12_changeOf_0
  simp (disch := omega) only [nI_clamp, nI_leI, nI_ltI, nI_eq, nI_1, zu_gi, zu_lt0, zu_has, zu_b1, zu_b0, zu_bz, zu_play, zu_or0, zu_nle, false_or, or_false, Option.bind_some, if_true, if_false, ite_true, ite_false, not_true_eq_false, not_false_eq_true, decide_eq_true_eq, zu_f0, zu_f1, zu_f2, zu_f3, zu_f4, zu_f5, zu_f6, zu_cf0, zu_cf1, zu_cf2, zu_cf3, zu_cf4, zu_cf5, zu_cf6, zu_70, zu_71, zu_72, zu_73, zu_74, zu_75, zu_76]
  by_cases c : I 54 (7 * a) = I 54 (7 * b)
  · rw [if_neg (fun w => w c)]
    exact core 0 (by rw [if_pos c])
  · rw [if_pos c]
    exact core 1 (by rw [if_neg c])
/-- a rule at its place -/
def zr_rv (a m : Nat) (t : Nat → Int32) (I : Nat → Nat → Int32) (F : zz_F) : Prop := (a = 58 ∧ zr_ru m t I F) ∨ (a = 59 ∧ zr_ru9 m t I F)
theorem zr_rv_c {a m : Nat} {t : Nat → Int32} {I I' : Nat → Nat → Int32} {F F' : zz_F} (h : zr_rv a m t I F) (h1 : I' 52 16 = I 52 16) (h2 : I' 58 = I 58) (h3 : I' 59 = I 59) (hF : zF_re F F') : zr_rv a m t I' F' := by
  obtain ⟨r, rfl⟩ := hF
  rcases h with ⟨e, b1, b2, b3, b4, b5⟩ | ⟨e, b1, b2, b3, b4, b5⟩
  · exact .inl ⟨e, b1, by rw [h1]; exact b2, by rw [h2]; exact b3, b4, b5⟩
  · exact .inr ⟨e, b1, by rw [h1]; exact b2, by rw [h3]; exact b3, b4, b5⟩
theorem zm_chgv {N : Nat} (hN : 100000 ≤ N) {I : Nat → Nat → Int32} {J : Nat → Nat → Int64} {F : zz_F} {c m : Nat} {t : Nat → Int32} (h : zr_rv c m t I F) {a b : Nat} (ha : a < 12) (hb : b < 12) : ∃ I' F', zf_X12_changeOf N (nI a) (nI b) I J F = some (zq_chg m t (fun w => I 54 (7 * a + w)) (fun w => I 54 (7 * b + w)), I', J, F') ∧ zr_fr I I' ∧ zF_re F F' := by
  rcases h with ⟨_, h⟩ | ⟨_, h⟩
  · exact zm_chg hN h ha hb
  · exact zm_chg9 hN h ha hb
theorem zm_stp {N n : Nat} (hN : 100000 ≤ N) (hn : n ≤ 12) {I : Nat → Nat → Int32} {J : Nat → Nat → Int64} {F : zz_F} {c m : Nat} {t f : Nat → Int32} (ru : zr_rv c m t I F) (h54 : I 54 = f) (hf : ∀ s, s < n → zi_fd (fun w => f (7 * s + w))) {L : Int32} (hL : L = -1 ∨ ∃ s, s < n ∧ L = nI s) {x s : Nat} (hx : x = 12 ∨ x < n) (hs : s < n) : ∃ I' F', zf_X12_stepTo N (zw_last L x) (nI s) I J F = some (nI (zw_c m t f L x s), I', J, F') ∧ zr_fr I I' ∧ zF_re F F' := by
  obtain ⟨_, ⟨mi, hmi0, emi0⟩, _⟩ := hf s hs
  have emi := emi0
  have hmi : mi ≤ 9 := emi0.1
  have emi : f (7 * s + 1) = nI mi := emi.2
  have g1 : ¬ (((7 : Int32) * nI s + 1) < 0 ∨ 84 ≤ ((7 : Int32) * nI s + 1).toNatClampNeg) := by
    rw [show (7 : Int32) * nI s = nI (7 * s) from pk_mul 7 s, nI_1]
    exact nI_in (by omega) (by omega)
  obtain ⟨M, hM⟩ := zu_one N hN
  have st : ∀ l, zf_X12_stepTo N l (nI s) I J F = zb_X12_stepTo_0 N (zl_X12_stepTo N M) l (nI s) I J F := fun l => by rw [hM]; exact zo_X12_stepTo M l (nI s) I J F
  rw [st]
  unfold zb_X12_stepTo_0
  by_cases z : zw_last L x = -1
  · have x12 : x = 12 := hx.resolve_right (fun q => by
      unfold zw_last at z
      rw [if_neg (by omega)] at z
      exact nI_pos (n := x) (by omega) (by rw [z]; decide))
    have L1 : L = -1 := by
      unfold zw_last at z
      rw [if_pos x12] at z
      exact z
    have cv : zw_c m t f L x s = mi := by
      unfold zw_c
      rw [if_pos x12, if_pos L1, emi, nI_clamp (by omega), Nat.zero_add]
    refine ⟨I, F, ?_, zr_fr_refl I, zF_refl F⟩
    rw [if_neg (fun w => w z), if_pos g1, zu_f1 (by omega), h54, emi, cv, Int32.zero_add]
  · rw [if_pos z]
    obtain ⟨x', hx', ex', ec⟩ : ∃ x', x' < n ∧ zw_last L x = nI x' ∧ zw_c m t f L x s = (zq_chg m t (fun w => f (7 * x' + w)) (fun w => f (7 * s + w))).toNatClampNeg + mi := by
      unfold zw_last at z ⊢
      unfold zw_c
      rw [emi, nI_clamp (show mi < 2 ^ 31 by omega)]
      by_cases q : x = 12
      · rw [if_pos q] at z ⊢
        obtain ⟨l, hl, el⟩ := hL.resolve_left z
        exact ⟨l, hl, el, by rw [if_pos q, if_neg z, el, nI_clamp (by omega)]⟩
      · rw [if_neg q]
        exact ⟨x, hx.resolve_left q, rfl, by rw [if_neg q]⟩
    obtain ⟨I1, F1, c1, c2, c3⟩ := zm_chgv hN (J := J) ru (show x' < 12 by omega) (show s < 12 by omega)
    rw [h54] at c1
    obtain ⟨kk, hkk, ekk⟩ := zq_chgN m t (fun w => f (7 * x' + w)) (fun w => f (7 * s + w))
    rw [ekk] at c1 ec
    rw [nI_clamp (by omega)] at ec
    have h541 : I1 54 = f := by rw [c2.1 54 (by omega) (by omega)]; exact h54
    refine ⟨I1, F1, ?_, c2, c3⟩
    rw [ex', c1, Option.bind_some]
    dsimp only
    rw [if_pos g1, zu_f1 (by omega), h541, emi, nI_add, ec]
