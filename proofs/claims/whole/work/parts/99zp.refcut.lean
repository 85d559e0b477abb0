/-! CUTS: THE REFERENCE TRIES -/
theorem zc_su_lt {f g : Nat → Nat} {j : Nat} : ∀ k, (∀ s, s < k → f s ≤ g s) → j < k → f j < g j → zc_su f k < zc_su g k
  | 0, _, w, _ => by omega
  | k + 1, h, w, hj => by
    show zc_su f k + f k < zc_su g k + g k
    have hk := h k (by omega)
    by_cases e : j = k
    · subst e
      have := zc_su_le j (fun s hs => h s (by omega))
      omega
    · have := zc_su_lt k (fun s hs => h s (by omega)) (by omega) hj
      omega
theorem zc_ctL {k c : Nat} (hc : c < 4096) (h : zc_sb k c) (ne : k ≠ c) : zc_ct k < zc_ct c := by
  have : ∃ i, c.testBit i = true ∧ k.testBit i = false := by
    apply Classical.byContradiction
    intro no
    apply ne
    apply Nat.eq_of_testBit_eq
    intro i
    cases hk : k.testBit i with
    | true => exact (h i hk).symm
    | false =>
      cases hb : c.testBit i with
      | false => rfl
      | true => exact (no ⟨i, hb, hk⟩).elim
  obtain ⟨i, h1, h2⟩ := this
  have i12 : i < 12 := Nat.lt_of_not_le (fun w => by rw [zc_12 hc w] at h1; cases h1)
  refine zc_su_lt (j := i) 12 (fun s _ => ?_) i12 ?_
  · by_cases w : k.testBit s = true
    · rw [if_pos w, if_pos (h s w)]; exact Nat.le_refl _
    · rw [if_neg w]; exact Nat.zero_le _
  · rw [if_neg (by rw [h2]; decide), if_pos h1]; exact Nat.zero_lt_one
theorem zc_sbE {k c : Nat} (hk : k < 4096) (hc : c < 4096) : (nI k &&& (nI c ^^^ -1) = 0) ↔ zc_sb k c := by
  constructor
  · intro h i hi
    have i12 : i < 12 := Nat.lt_of_not_le (fun w => by rw [zc_12 hk w] at hi; cases hi)
    have := congrArg (fun x => bt x i) h
    simp only [b_and, b_0] at this
    rw [b_not (by omega), zc_tb hk, zc_tb hc, hi] at this
    simpa using this
  · intro h
    apply b_ext
    intro i hi
    rw [b_and, b_not hi, zc_tb hk, zc_tb hc, b_0]
    cases w : k.testBit i with
    | false => rfl
    | true => rw [h i w]; rfl
theorem zc_sub0 {a b : Nat} (ha : a < 2 ^ 20) (hb : b < 2 ^ 20) : ((0 : Int32) < nI a - nI b ↔ b < a) ∧ (nI a - nI b = 0 ↔ a = b) := by
  refine ⟨?_, fun h => ?_, fun h => by rw [h, Int32.sub_self]⟩
  · rw [zn_N a, zn_sub (by omega), show (0 : Int32) = zn 2000000 by decide, zn_lt (by omega) (by omega)]
    omega
  · have := congrArg (fun x => x + nI b) h
    simp only [Int32.sub_add_cancel, Int32.zero_add] at this
    exact (nI_eq (by omega) (by omega)).mp this
theorem zw_f5_trans {I I' I'' : Nat → Nat → Int32} (h : zw_f5 I I') (h2 : zw_f5 I' I'') : zw_f5 I I'' := ⟨fun x a b c d e => (h2.1 x a b c d e).trans (h.1 x a b c d e), fun i a b c d e => (h2.2 i a b c d e).trans (h.2 i a b c d e)⟩
theorem zw_f5_refl (I : Nat → Nat → Int32) : zw_f5 I I := ⟨fun _ _ _ _ _ _ => rfl, fun _ _ _ _ _ _ => rfl⟩
theorem zm_cu {N n : Nat} (hN : 100000 ≤ N) (hn : n ≤ 12) {J : Nat → Nat → Int64} {f t : Nat → Int32} {L : Int32} {m c lim : Nat} (hf : ∀ s, s < n → zi_fd (fun w => f (7 * s + w))) (hL : L = -1 ∨ ∃ s, s < n ∧ L = nI s) (hc : c < 4096) (hlim : lim ≤ 199) (hW : ∀ x y, (x = 12 ∨ x < n) → y < n → zw_c m t f L x y ≤ 108) : ∀ r k u b (I : Nat → Nat → Int32) (F : zz_F), k + r = c → 4 * r < u → zc_sb b c → (b = c ∨ b < k) → I 54 = f → I 53 13 = L → I 52 1 = nI n → zr_rv 58 m t I F → ∃ I' F' u', u ≤ u' + 4 * r ∧ zl_X12_cuts N u 29 (nI lim) (nI c) (nI b) (nI k) 0 I J F = zl_X12_cuts N u' 29 (nI lim) (nI c) (nI (zc_r c (zc_ch n f) zc_ct (zc_dm n f (zw_c m t f L) c) lim k r b)) (nI c) 0 I' J F' ∧ zw_f5 I I' ∧ zF_re F F' ∧ zc_sb (zc_r c (zc_ch n f) zc_ct (zc_dm n f (zw_c m t f L) c) lim k r b) c := by
  intro r
  induction r with
  | zero =>
    intro k u b I F hk hu hb _ _ _ _ _
    obtain rfl : k = c := by omega
    exact ⟨I, F, u, by omega, rfl, zw_f5_refl I, zF_refl F, hb⟩
  | succ r ih =>
    intro k u b I F hk hu hb hbk h54 h13 h1 ru
    obtain ⟨v, rfl⟩ : ∃ v, u = v + 4 := ⟨u - 4, by omega⟩
    have k12 : k < 4096 := by omega
    have b12 : b < 4096 := Nat.lt_of_le_of_lt (zc_le hb) hc
    -- on to the next number, with b' and I1
    have on : ∀ b' w (I1 : Nat → Nat → Int32) (F1 : zz_F), v ≤ w → zw_f5 I I1 → zF_re F F1 → b' = (@ite _ (zc_sb k c) (Classical.propDecidable _) (zc_u (zc_ch n f) zc_ct (zc_dm n f (zw_c m t f L) c) lim b k) b) → zc_sb b' c → (b' = c ∨ b' < k + 1) → ∃ I' F' u', v + 4 ≤ u' + 4 * (r + 1) ∧ zl_X12_cuts N (w + 1) 129 (nI lim) (nI c) (nI b') (nI k) 0 I1 J F1 = zl_X12_cuts N u' 29 (nI lim) (nI c) (nI (zc_r c (zc_ch n f) zc_ct (zc_dm n f (zw_c m t f L) c) lim k (r + 1) b)) (nI c) 0 I' J F' ∧ zw_f5 I I' ∧ zF_re F F' ∧ zc_sb (zc_r c (zc_ch n f) zc_ct (zc_dm n f (zw_c m t f L) c) lim k (r + 1) b) c := fun b' w I1 F1 hw f5 fF e hb' hk' => by
      obtain ⟨I', F', u', a1, a2, a3, a4, a5⟩ := ih (k + 1) w b' I1 F1 (by omega) (by omega) hb' hk' (by rw [f5.1 54 (by omega) (by omega) (by omega) (by omega) (by omega)]; exact h54) (by rw [f5.1 53 (by omega) (by omega) (by omega) (by omega) (by omega)]; exact h13) (by rw [f5.2 1 (by omega) (by omega) (by omega) (by omega) (by omega)]; exact h1) (zr_rv_c ru (f5.2 16 (by omega) (by omega) (by omega) (by omega) (by omega)) (f5.1 58 (by omega) (by omega) (by omega) (by omega) (by omega)) (f5.1 59 (by omega) (by omega) (by omega) (by omega) (by omega)) fF)
      have er : zc_r c (zc_ch n f) zc_ct (zc_dm n f (zw_c m t f L) c) lim k (r + 1) b = zc_r c (zc_ch n f) zc_ct (zc_dm n f (zw_c m t f L) c) lim (k + 1) r b' := by rw [e]; rfl
      rw [er]
      refine ⟨I', F', u', by omega, ?_, zw_f5_trans f5 a3, zF_trans fF a4, a5⟩
      rw [zo_X12_cuts_129]
      unfold zb_X12_cuts_129
      rw [nI_1]
      exact a2
    rw [zo_X12_cuts_29]
    unfold zb_X12_cuts_29
    rw [if_neg (nI_ge (show k < c by omega) (by omega))]
    by_cases hs : zc_sb k c
    · have c1 := (zc_chE hf k12)
      have c2 := (zc_chE hf b12)
      have z := zc_sub0 (a := zc_ch n f k) (b := zc_ch n f b) (by omega) (by omega)
      have t1 := zc_ct12 k
      have t2 := zc_ct12 b
      rw [if_pos ((zc_sbE k12 hc).mpr hs), zm_cheer hN hn h1, Option.bind_some]
      dsimp only
      rw [zm_cheer hN hn h1, Option.bind_some]
      dsimp only
      rw [h54, c1.1, c2.1, zc_ctE k12, zc_ctE b12]
      have skip : ∀ w, v ≤ w → ¬ zc_bt (zc_ch n f) zc_ct (zc_dm n f (zw_c m t f L) c) lim b k → ∃ I' F' u', v + 4 ≤ u' + 4 * (r + 1) ∧ zl_X12_cuts N (w + 1) 129 (nI lim) (nI c) (nI b) (nI k) 0 I J F = zl_X12_cuts N u' 29 (nI lim) (nI c) (nI (zc_r c (zc_ch n f) zc_ct (zc_dm n f (zw_c m t f L) c) lim k (r + 1) b)) (nI c) 0 I' J F' ∧ zw_f5 I I' ∧ zF_re F F' ∧ zc_sb (zc_r c (zc_ch n f) zc_ct (zc_dm n f (zw_c m t f L) c) lim k (r + 1) b) c := fun w hw no => on b w I F hw (zw_f5_refl I) (zF_refl F) (by rw [if_pos hs]; exact (if_neg no).symm) hb (hbk.imp id (fun w => by omega))
      have go : ∀ w, v ≤ w → (zc_ch n f k < zc_ch n f b ∨ (zc_ch n f k = zc_ch n f b ∧ zc_ct k < zc_ct b)) → ∃ I' F' u', v + 4 ≤ u' + 4 * (r + 1) ∧ zl_X12_cuts N (w + 2) 109 (nI lim) (nI c) (nI b) (nI k) 0 I J F = zl_X12_cuts N u' 29 (nI lim) (nI c) (nI (zc_r c (zc_ch n f) zc_ct (zc_dm n f (zw_c m t f L) c) lim k (r + 1) b)) (nI c) 0 I' J F' ∧ zw_f5 I I' ∧ zF_re F F' ∧ zc_sb (zc_r c (zc_ch n f) zc_ct (zc_dm n f (zw_c m t f L) c) lim k (r + 1) b) c := fun w hw bet => by
        obtain ⟨I1, F1, s1, s2, s3⟩ := zm_shortE hN hn (J := J) (I := I) (f := f) (L := L) h54 h13 hf h1 hL ru (nI c &&& (nI k ^^^ -1)) (fun x y hx hy => hW x y (hx.imp id (fun w => (zw_in_ok hn w).1)) (zw_in_ok hn hy).1)
        have s1 : zf_X12_shortestOf N (nI c &&& (nI k ^^^ -1)) I J F = some (nI (zc_dm n f (zw_c m t f L) c k), I1, J, F1) := s1
        have dl : zc_dm n f (zw_c m t f L) c k ≤ 1296 := by
          have d := zw_D_le (w := 0) (fun x y hx hy => hW x y (hx.imp id (fun w => (zw_in_ok hn w).1)) (zw_in_ok hn hy).1) _ 0 0 12 rfl (.inl rfl) (p := zw_p n f (nI c &&& (nI k ^^^ -1)) 0) (q := zw_p n f (nI c &&& (nI k ^^^ -1)) 1) (A := zw_a n f (nI c &&& (nI k ^^^ -1)) 0) (B := zw_a n f (nI c &&& (nI k ^^^ -1)) 1) (W := zw_c m t f L)
          have two := zw_s_two hn f (nI c &&& (nI k ^^^ -1))
          have d : zc_dm n f (zw_c m t f L) c k ≤ 108 * (zw_p n f (nI c &&& (nI k ^^^ -1)) 0 - 0 + (zw_p n f (nI c &&& (nI k ^^^ -1)) 1 - 0)) := d
          unfold zw_p at d
          omega
        rw [zo_X12_cuts_109]
        unfold zb_X12_cuts_109
        rw [s1, Option.bind_some]
        dsimp only
        by_cases d : zc_dm n f (zw_c m t f L) c k ≤ lim
        · rw [if_pos (nI_le d (by omega))]
          exact on k w I1 F1 hw s2 s3 (by rw [if_pos hs]; exact (if_pos (⟨bet, d⟩ : zc_bt (zc_ch n f) zc_ct (zc_dm n f (zw_c m t f L) c) lim b k)).symm) hs (.inr (by omega))
        · rw [if_neg (nI_ge (by omega) (by omega))]
          exact on b w I1 F1 hw s2 s3 (by rw [if_pos hs]; exact (if_neg (fun z : zc_bt (zc_ch n f) zc_ct (zc_dm n f (zw_c m t f L) c) lim b k => d z.2)).symm) hb (hbk.imp id (fun w => by omega))
      have no : ∀ {P : Prop}, (zc_ch n f k < zc_ch n f b → P) → (zc_ch n f k = zc_ch n f b → zc_ct k < zc_ct b → P) → ¬ P → ¬ zc_bt (zc_ch n f) zc_ct (zc_dm n f (zw_c m t f L) c) lim b k := fun h1 h2 h3 w => w.1.elim (fun z => h3 (h1 z)) (fun z => h3 (h2 z.1 z.2))
      by_cases w1 : zc_ch n f b < zc_ch n f k
      · rw [if_pos (z.1.mpr w1)]
        exact skip (v + 2) (by omega) (no (P := False) (fun z => by omega) (fun z _ => by omega) id)
      · rw [if_neg (fun q => w1 (z.1.mp q))]
        by_cases w2 : zc_ch n f k = zc_ch n f b
        · rw [if_neg (fun q => q (z.2.mpr w2))]
          by_cases w3 : zc_ct k ≤ zc_ct b
          · rw [if_pos (nI_le w3 (by omega)), z.2.mpr w2, zo_X12_cuts_86]
            unfold zb_X12_cuts_86
            rw [if_neg (fun q => q rfl), zc_ctE k12, zc_ctE b12]
            by_cases w4 : zc_ct k = zc_ct b
            · have bk : b < k := hbk.resolve_left (fun q => by
                have := zc_ctL hc hs (by omega)
                rw [← q] at this
                omega)
              rw [if_neg (fun q => q (by rw [w4])), if_pos (nI_lt bk (by omega))]
              exact skip (v + 1) (by omega) (no (P := False) (fun z => by omega) (fun _ z => by omega) id)
            · rw [if_pos (fun q => w4 ((nI_eq (by omega) (by omega)).mp q))]
              exact go v (by omega) (.inr ⟨w2, by omega⟩)
          · rw [if_neg (nI_ge (by omega) (by omega))]
            exact skip (v + 2) (by omega) (no (P := False) (fun z => by omega) (fun _ z => by omega) id)
        · rw [if_pos (fun q => w2 (z.2.mp q)), zo_X12_cuts_86]
          unfold zb_X12_cuts_86
          rw [if_pos (fun q => w2 (z.2.mp q))]
          exact go v (by omega) (.inl (by omega))
    · rw [if_neg (fun w => hs ((zc_sbE k12 hc).mp w))]
      exact on b (v + 2) I F (by omega) (zw_f5_refl I) (zF_refl F) (if_neg hs).symm hb (hbk.imp id (fun w => by omega))
