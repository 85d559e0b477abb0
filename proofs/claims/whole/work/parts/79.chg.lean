/-! HOW LONG A CHANGE TAKES: the reference -/
/-- what reading a rule leaves as it was -/
def zr_fr (I I' : Nat → Nat → Int32) : Prop := (∀ x, x ≠ 60 → x ≠ 52 → I' x = I x) ∧ ∀ i, i ≠ 9 → i ≠ 10 → i ≠ 11 → i ≠ 12 → i ≠ 17 → I' 52 i = I 52 i
theorem zr_fr_refl (I : Nat → Nat → Int32) : zr_fr I I := ⟨fun _ _ _ => rfl, fun _ _ _ _ _ _ => rfl⟩
theorem zr_fr_trans {I I' I'' : Nat → Nat → Int32} (h : zr_fr I I') (h2 : zr_fr I' I'') : zr_fr I I'' := ⟨fun x a b => (h2.1 x a b).trans (h.1 x a b), fun i a b c d e => (h2.2 i a b c d e).trans (h.2 i a b c d e)⟩
theorem zr_fr_zk {I I' : Nat → Nat → Int32} (h : zr_fr I I') : zk I I' := fun a i hk => by
  by_cases e : a = 52
  · subst e
    exact h.2 i (fun w => by subst w; cases hk) (fun w => by subst w; cases hk) (fun w => by subst w; cases hk) (fun w => by subst w; cases hk) (fun w => by subst w; cases hk)
  · exact congrFun (h.1 a (fun w => by subst w; cases hk) e) i
/-- F but for where is read -/
def zF_re (F F' : zz_F) : Prop := ∃ r, F' = zz_Fre F r
theorem zF_refl (F : zz_F) : zF_re F F := ⟨zz_re F, rfl⟩
theorem zF_trans {F F' F'' : zz_F} (h : zF_re F F') (h2 : zF_re F' F'') : zF_re F F'' := by
  obtain ⟨r, rfl⟩ := h
  obtain ⟨q, rfl⟩ := h2
  exact ⟨q, rfl⟩
theorem zF_ok {F F' : zz_F} (h : zF_re F F') (hF : zi_F F) : zi_F F' := by
  obtain ⟨r, rfl⟩ := h
  exact hF
def zr_ru (m : Nat) (t : Nat → Int32) (I : Nat → Nat → Int32) (F : zz_F) : Prop := m ≤ 40 ∧ I 52 16 = nI m ∧ I 58 = t ∧ zq_ok m t ∧ zz_ru F = 58
theorem zr_ru_c {m : Nat} {t : Nat → Int32} {I I' : Nat → Nat → Int32} {F F' : zz_F} (h : zr_ru m t I F) (hi : zr_fr I I') (hF : zF_re F F') : zr_ru m t I' F' := by
  obtain ⟨r, rfl⟩ := hF
  exact ⟨h.1, by rw [hi.2 16 (by omega) (by omega) (by omega) (by omega) (by omega)]; exact h.2.1, by rw [hi.1 58 (by omega) (by omega)]; exact h.2.2.1, h.2.2.2.1, h.2.2.2.2⟩
theorem zm_ask {N : Nat} (hN : 100000 ≤ N) {J : Nat → Nat → Int64} {F : zz_F} {m : Nat} {t : Nat → Int32} (m0 : 0 < m) (hm : m ≤ 40) (hok : zq_ok m t) (e : Nat → Int32) (M : Nat → Nat → Int32) (h58 : M 58 = t) (hM : ∀ k, k < 6 → M 60 k = e k) : ∃ I', ((zf_X12_begin N 58 (nI m) 40 M J F).bind fun r9 => (zf_X12_held_ N 0 (zz_u r9.2.1 52 17 1) r9.2.2.1 r9.2.2.2).bind fun r10 => some (zz_max 0 (zz_min 99 r10.1), zz_u r10.2.1 52 17 0, r10.2.2.1, r10.2.2.2)) = some (zz_max 0 (zz_min 99 (zq_val m t e)), I', J, zz_Fre F (some 58)) ∧ zr_fr M I' := by
  have eb : zf_X12_begin N 58 (nI m) 40 M J F = some (0, zz_u (zz_u (zz_u (zz_u M 52 9 (nI m)) 52 10 40) 52 11 0) 52 12 (-1), J, zz_Fre F (some 58)) := by
    obtain ⟨L, rfl⟩ := zu_one N hN
    rw [zo_X12_begin]
    rfl
  have em : zz_u (zz_u (zz_u (zz_u (zz_u M 52 9 (nI m)) 52 10 40) 52 11 0) 52 12 (-1)) 52 17 1 = zr_m (zz_u (zz_u (zz_u M 52 9 (nI m)) 52 10 40) 52 17 1) (nI 0) (-1) := by
    funext b j
    unfold zr_m zz_u
    by_cases q : b = 52
    · subst q
      by_cases q1 : j = 17
      · subst q1; simp
      · by_cases q2 : j = 12
        · subst q2; simp
        · by_cases q3 : j = 11
          · subst q3; simp; rfl
          · simp [q1, q2, q3]
    · simp [q]
  have ok : zr_ok (zz_u (zz_u (zz_u M 52 9 (nI m)) 52 10 40) 52 17 1) (zz_Fre F (some 58)) m t := ⟨58, m, 40, by omega, rfl, rfl, h58, rfl, rfl, by omega, by omega, by omega, hm⟩
  have sim := (zr_sim hN (J := J) ok hok.2 (by omega) (e := e) (fun k hk => by
    rw [zz_us, if_neg (show ¬ (1 : Int32) = 0 by decide)]
    exact (hM k hk).symm) 999 0 0 (by omega) (by omega)).1 0 64 (by omega) (by omega) (by omega)
  obtain ⟨v, hv⟩ := (hok.1.resolve_left (by omega)) e
  rw [hv] at sim
  have sim : zg_held N 64 0 (nI 0) (zr_m (zz_u (zz_u (zz_u M 52 9 (nI m)) 52 10 40) 52 17 1) (nI 0) (-1)) J (zz_Fre F (some 58)) = some (v, zr_m (zz_u (zz_u (zz_u M 52 9 (nI m)) 52 10 40) 52 17 1) (nI m) (-1), J, zz_Fre F (some 58)) := sim
  have vv : zq_val m t e = v := by
    unfold zq_val
    rw [if_neg (by omega), hv]
  refine ⟨zz_u (zr_m (zz_u (zz_u (zz_u M 52 9 (nI m)) 52 10 40) 52 17 1) (nI m) (-1)) 52 17 0, ?_, fun x h60 h52 => ?_, fun i a b c d f => ?_⟩
  · rw [eb, Option.bind_some]
    dsimp only
    rw [em]
    unfold zf_X12_held_
    rw [show (0 : Int32) = nI 0 from rfl, sim, Option.bind_some, vv]
  · rw [zu_ux h52, zr_x h52, zu_ux h52, zu_ux h52, zu_ux h52]
  · unfold zr_m
    rw [zz_un (fun w => f w.2), zz_un (fun w => d w.2), zz_un (fun w => c w.2), zz_un (fun w => f w.2), zz_un (fun w => b w.2), zz_un (fun w => a w.2)]
theorem zm_chg {N : Nat} (hN : 100000 ≤ N) {I : Nat → Nat → Int32} {J : Nat → Nat → Int64} {F : zz_F} {m : Nat} {t : Nat → Int32} (h : zr_ru m t I F) {a b : Nat} (ha : a < 12) (hb : b < 12) : ∃ I' F', zf_X12_changeOf N (nI a) (nI b) I J F = some (zq_chg m t (fun w => I 54 (7 * a + w)) (fun w => I 54 (7 * b + w)), I', J, F') ∧ zr_fr I I' ∧ zF_re F F' := by
  obtain ⟨hm, h16, h58, hok, hru⟩ := h
  have core : ∀ o : Int32, (o = if I 54 (7 * a) = I 54 (7 * b) then 0 else 1) → ∃ I' F', (if (I 52 16) ≤ 0 then (some (zz_max 0 (zz_min 99 ((((2 : Int32) * o) + (zv_J6_bitCount ((I 54 (7 * a + 2)) &&& (I 54 (7 * b + 2))))) + (zv_J6_bitCount ((I 54 (7 * a + 3)) ^^^ (I 54 (7 * b + 3)))))), I, J, F)) else ((zf_X12_begin N (zz_ru F) (I 52 16) 40 (zz_u (zz_u (zz_u (zz_u (zz_u (zz_u I 60 0 o) 60 1 (zv_J6_bitCount ((I 54 (7 * a + 2)) &&& (I 54 (7 * b + 2))))) 60 2 (zv_J6_bitCount ((I 54 (7 * a + 3)) ^^^ (I 54 (7 * b + 3))))) 60 3 (I 54 (7 * b + 1))) 60 4 (I 54 (7 * a + 1))) 60 5 (zv_J6_bitCount (I 54 (7 * b + 2)))) J F).bind fun r9 => (zf_X12_held_ N 0 (zz_u r9.2.1 52 17 1) r9.2.2.1 r9.2.2.2).bind fun r10 => some (zz_max 0 (zz_min 99 r10.1), zz_u r10.2.1 52 17 0, r10.2.2.1, r10.2.2.2))) = some (zq_chg m t (fun w => I 54 (7 * a + w)) (fun w => I 54 (7 * b + w)), I', J, F') ∧ zr_fr I I' ∧ zF_re F F' := by
    intro o ho
    rw [h16]
    by_cases z : m = 0
    · subst z
      rw [if_pos (by decide)]
      refine ⟨I, F, ?_, zr_fr_refl I, zF_refl F⟩
      unfold zq_chg zq_val
      rw [if_pos rfl, ho]
      rfl
    · rw [if_neg (nI_nle (by omega) (by omega)), hru]
      obtain ⟨I', e1, e2⟩ := zm_ask hN (J := J) (F := F) (by omega) hm hok (zq_e (fun w => I 54 (7 * a + w)) (fun w => I 54 (7 * b + w))) (zz_u (zz_u (zz_u (zz_u (zz_u (zz_u I 60 0 o) 60 1 (zv_J6_bitCount ((I 54 (7 * a + 2)) &&& (I 54 (7 * b + 2))))) 60 2 (zv_J6_bitCount ((I 54 (7 * a + 3)) ^^^ (I 54 (7 * b + 3))))) 60 3 (I 54 (7 * b + 1))) 60 4 (I 54 (7 * a + 1))) 60 5 (zv_J6_bitCount (I 54 (7 * b + 2)))) h58 (fun k hk => by
        rcases (by omega : k = 0 ∨ k = 1 ∨ k = 2 ∨ k = 3 ∨ k = 4 ∨ k = 5) with rfl | rfl | rfl | rfl | rfl | rfl
        · exact ho
        · rfl
        · rfl
        · rfl
        · rfl
        · rfl)
      refine ⟨I', _, e1, ⟨fun x h60 h52 => ?_, fun i a b c d f => ?_⟩, ⟨_, rfl⟩⟩
      · rw [e2.1 x h60 h52, zu_ux h60, zu_ux h60, zu_ux h60, zu_ux h60, zu_ux h60, zu_ux h60]
      · rw [e2.2 i a b c d f]
        rfl
  obtain ⟨M, rfl⟩ := zu_one N hN
  rw [zo_X12_changeOf]
  unfold zb_X12_changeOf_0
  simp (disch := omega) only [nI_clamp, nI_leI, nI_ltI, nI_eq, nI_1, zu_gi, zu_lt0, zu_has, zu_b1, zu_b0, zu_bz, zu_play, zu_or0, zu_nle, false_or, or_false, Option.bind_some, if_true, if_false, ite_true, ite_false, not_true_eq_false, not_false_eq_true, decide_eq_true_eq, zu_f0, zu_f1, zu_f2, zu_f3, zu_f4, zu_f5, zu_f6, zu_cf0, zu_cf1, zu_cf2, zu_cf3, zu_cf4, zu_cf5, zu_cf6, zu_70, zu_71, zu_72, zu_73, zu_74, zu_75, zu_76]
  by_cases c : I 54 (7 * a) = I 54 (7 * b)
  · rw [if_neg (fun w => w c)]
    exact core 0 (by rw [if_pos c])
  · rw [if_pos c]
    exact core 1 (by rw [if_neg c])
