/-! the reference's fractions; chance -/
theorem zm_common1 {N : Nat} (hN : 100000 ≤ N) {I : Nat → Nat → Int32} {J : Nat → Nat → Int64} {a b : Nat} (ha : a < 2 ^ 31) (hb : b < 2 ^ 31) (D : Nat) : zg_common N (D + 1) 0 (lN a) (lN b) I J = if b = 0 then some (lN a, I, J) else (zg_common N D 0 (lN b) (lN (a % b)) I J).bind fun r2 => some (r2.1, r2.2.1, r2.2.2) := by
  obtain ⟨M, rfl⟩ := zu_one N hN
  rw [zge_common_0]
  unfold zf_X12_common
  rw [ze_X12_common_0]
  unfold zb_X12_common_0
  simp only [zu_cmp0 (a := b) (by omega), zu_lz (a := b) (by omega)]
  by_cases z : b = 0
  · simp [z]
  · simp only [z, not_false_eq_true, if_true, if_false]
    rw [pk_lRem (a := a) (b := b) (by omega) (by omega) (by omega)]
theorem zm_common_l {N : Nat} (hN : 100000 ≤ N) {I : Nat → Nat → Int32} {J : Nat → Nat → Int64} : ∀ k a b D, a < 2 ^ 31 → b < 2 ^ k → b < 2 ^ 31 → 2 * k < D → zg_common N D 0 (lN a) (lN b) I J = some (lN (Nat.gcd a b), I, J) := by
  intro k
  induction k with
  | zero =>
    intro a b D ha hb hb2 hD
    have : b = 0 := by simp at hb; omega
    subst this
    obtain ⟨m, rfl⟩ : ∃ m, D = m + 1 := ⟨D - 1, by omega⟩
    rw [zm_common1 hN ha hb2, if_pos rfl, Nat.gcd_zero_right]
  | succ k ih =>
    intro a b D ha hb hb2 hD
    obtain ⟨m, rfl⟩ : ∃ m, D = m + 1 + 1 := ⟨D - 2, by omega⟩
    rw [zm_common1 hN ha hb2]
    by_cases z : b = 0
    · rw [if_pos z, z, Nat.gcd_zero_right]
    · rw [if_neg z]
      have r1 : a % b < b := Nat.mod_lt a (by omega)
      have g1 : Nat.gcd a b = Nat.gcd b (a % b) := by rw [Nat.gcd_comm, Nat.gcd_rec, Nat.gcd_comm]
      rw [zm_common1 hN hb2 (by omega), g1]
      by_cases z2 : a % b = 0
      · rw [if_pos z2, z2, Nat.gcd_zero_right]
        rfl
      · rw [if_neg z2]
        have r2 := zu_half (b := b) (c := a % b) (by omega) (by omega)
        have r3 : b % (a % b) < a % b := Nat.mod_lt b (by omega)
        have g2 : Nat.gcd b (a % b) = Nat.gcd (a % b) (b % (a % b)) := by rw [Nat.gcd_comm, Nat.gcd_rec, Nat.gcd_comm]
        have p : 2 ^ (k + 1) = 2 * 2 ^ k := by rw [Nat.pow_succ]; omega
        rw [g2, ih (a % b) (b % (a % b)) m (by omega) (by omega) (by omega) (by omega)]
        rfl
theorem zm_part {N : Nat} (hN : 100000 ≤ N) {I : Nat → Nat → Int32} {J : Nat → Nat → Int64} {a b : Nat} (ha : a < 2 ^ 31) (hb : b < 2 ^ 20) (h0 : 0 < b) : zf_X12_tellPart N (lN a) (lN b) I J = some (0, zz_u I 52 6 2, zz_u (zz_u J 56 0 (lN a / lN (Nat.gcd a b))) 56 1 (lN b / lN (Nat.gcd a b))) := by
  have e : zf_X12_common_ N (lN a) (lN b) I J = some (lN (Nat.gcd a b), I, J) := zm_common_l hN 20 a b 64 ha hb (by omega) (by omega)
  have g0 : Nat.gcd a b ≠ 0 := fun q => by have := (Nat.gcd_eq_zero_iff.mp q).2; omega
  have g1 : Nat.gcd a b ≤ b := Nat.le_of_dvd h0 (Nat.gcd_dvd_right a b)
  obtain ⟨M, rfl⟩ := zu_one N hN
  rw [zo_X12_tellPart]
  unfold zb_X12_tellPart_0
  refine zu_bd e (zu_gd (by rw [zu_lz (by omega)]; exact g0) ?_)
  simp only [zu_m1, zu_m2, zu_m3, zu_y1, zu_y2, zu_y3, zz_us, zu_ga, zu_gb, zu_gc, not_false_eq_true, if_true, ite_true, zu_t1, zu_t2, zu_t3, zu_x1, zu_x2, zu_x3]
  rfl
theorem zm_pow_l {N : Nat} {I : Nat → Nat → Int32} {J : Nat → Nat → Int64} (v c : Nat) (hc : c < 1000) : ∀ k s f, s + k = c → k < f → zl_X12_power N f 5 (lN v) (nI c) (lN (v ^ s)) (nI s) I J = some (lN (v ^ c), I, J) := by
  intro k
  induction k with
  | zero =>
    intro s f hs hf
    obtain ⟨m, rfl⟩ : ∃ m, f = m + 1 := ⟨f - 1, by omega⟩
    obtain rfl : s = c := by omega
    rw [zo_X12_power_5]
    unfold zb_X12_power_5
    rw [if_pos (nI_le (Nat.le_refl s) (by omega))]
  | succ k ih =>
    intro s f hs hf
    obtain ⟨m, rfl⟩ : ∃ m, f = m + 1 := ⟨f - 1, by omega⟩
    refine Eq.trans ?_ (ih (s + 1) m (by omega) (by omega))
    rw [zo_X12_power_5]
    unfold zb_X12_power_5
    rw [if_neg (nI_ge (show s < c by omega) (by omega)), lN_mul, nI_1, Nat.pow_succ]
theorem zm_pow {N : Nat} (hN : 100000 ≤ N) {I : Nat → Nat → Int32} {J : Nat → Nat → Int64} (v c : Nat) (hc : c < 90) : zf_X12_power N (lN v) (nI c) I J = some (lN (v ^ c), I, J) := by
  obtain ⟨M, rfl⟩ := zu_one N hN
  rw [zo_X12_power]
  have := zm_pow_l (N := M + 1) (I := I) (J := J) v c (by omega) c 0 M (by omega) (by omega)
  exact this
/-- bits of a union of persons -/
theorem zh_U_bits {n : Nat} {f : Nat → Int32} (x : Int32) (hf : ∀ s, s < n → ∃ v, v < 64 ∧ f (7 * s + 2) = nI v) : ∀ m, m ≤ n → ∀ i, 6 ≤ i → i < 32 → bt (zh_U m f x 2) i = false
  | 0, _, i, _, _ => b_0 i
  | m + 1, hm, i, h6, hi => by
    have ih := zh_U_bits x hf m (by omega) i h6 hi
    show bt (zh_U m f x 2 ||| (if bt x m = true then f (7 * m + 2) else 0)) i = false
    rw [b_or, ih, Bool.false_or]
    split
    · obtain ⟨v, hv, e⟩ := hf m (by omega)
      rw [e]
      have : ∀ v, v < 64 → ∀ i, i < 32 → 6 ≤ i → bt (nI v) i = false := by decide +kernel
      exact this v hv i hi h6
    · exact b_0 i
theorem zs_isPlayN {x : Int32} (h : x < 0 ∨ nI 1 < x) : zv_X11_isPlay x = 0 := by
  unfold zv_X11_isPlay
  have a : ¬ x = 0 := fun e => by subst e; exact absurd h (by decide)
  have b : ¬ x = 1 := fun e => by subst e; exact absurd h (by decide)
  rw [if_neg a, if_pos b]
theorem zs_isPlayY {v : Nat} (h : v ≤ 1) : zv_X11_isPlay (nI v) = 1 := by
  rcases (by omega : v = 0 ∨ v = 1) with rfl | rfl <;> decide
/-- of a play, for both -/
theorem zs_ofp {n : Nat} {I : Nat → Nat → Int32} (h : zi_sc n I) (x : Int32) {p : Nat} (hp : p ≤ 1) : x &&& zv_X9_scenesOf I (nI p) = zh_P n (I 54) x (nI p) := by
  rcases (by omega : p = 0 ∨ p = 1) with rfl | rfl
  · exact zs_of0 h x
  · exact zs_of1 h x
theorem zs_chance_l {N n : Nat} (hN : 100000 ≤ N) {I : Nat → Nat → Int32} {J : Nat → Nat → Int64} (q c : Nat) (x : Int32) (hq : q ≤ 10) (hc : c ≤ 6) (hx : zv_J6_bitCount x = nI c) : ∀ k s f, s + k = c → k < f → zl_X11_chance N f 53 0 (nI q) x (lN ((10 - q) ^ s)) (lN (10 ^ s)) (nI s) I J = some (0, zz_u I 2 3 2, zz_u (zz_u J 4 0 (lN ((10 - q) ^ c) / lN (Nat.gcd ((10 - q) ^ c) (10 ^ c)))) 4 1 (lN (10 ^ c) / lN (Nat.gcd ((10 - q) ^ c) (10 ^ c)))) := by
  intro k
  have u1 : (10 - q) ^ c ≤ 10 ^ c := Nat.pow_le_pow_left (by omega) c
  have u2 : 10 ^ c ≤ 10 ^ 6 := Nat.pow_le_pow_right (by omega) hc
  have u3 : 0 < 10 ^ c := Nat.pow_pos (by omega)
  induction k with
  | zero =>
    intro s f hs hf
    obtain ⟨m, rfl⟩ : ∃ m, f = m + 1 := ⟨f - 1, by omega⟩
    obtain rfl : s = c := by omega
    rw [zo_X11_chance_53]
    unfold zb_X11_chance_53
    rw [hx, if_pos (nI_le (Nat.le_refl s) (by omega))]
    exact zu_bd (zs_frac hN (by omega) (by omega) u3) rfl
  | succ k ih =>
    intro s f hs hf
    obtain ⟨m, rfl⟩ : ∃ m, f = m + 1 := ⟨f - 1, by omega⟩
    refine Eq.trans ?_ (ih (s + 1) m (by omega) (by omega))
    rw [zo_X11_chance_53]
    unfold zb_X11_chance_53
    rw [hx, if_neg (nI_ge (show s < c by omega) (by omega)), show (10 : Int32) - nI q = nI (10 - q) from pk_sub (a := 10) (by omega), nI_l (by omega), lN_mul, show (10 : Int64) = lN 10 from rfl, lN_mul, nI_1, Nat.pow_succ, Nat.pow_succ]
theorem zy_chance {N n : Nat} (hN : 100000 ≤ N) {I : Nat → Nat → Int32} {J : Nat → Nat → Int64} {F : zz_F} (h : zi n I J F) (x y : Int32) : ∃ v I1 J1 I2 J2, zf_X11_chance N x y I J = some (v, I1, J1) ∧ zf_X12_chance N x y I1 J1 = some (v, I2, J2) ∧ zi n I2 J2 F := by
  have hn := h.1.1
  have hW : I 8 2 = zh_W n (I 53) 0 := h.2.1.2.2.1
  have no : zf_X11_chance N x y I J = some (-1, I, J) → zf_X12_chance N x y I J = some (-1, zz_u I 52 7 0, J) → ∃ v I1 J1 I2 J2, zf_X11_chance N x y I J = some (v, I1, J1) ∧ zf_X12_chance N x y I1 J1 = some (v, I2, J2) ∧ zi n I2 J2 F := fun a b => ⟨_, _, _, _, _, a, b, zi_q0 h⟩
  obtain ⟨M, rfl⟩ := zu_one N hN
  rcases zu_bet x 1 (by omega) with q | ⟨p, hp, rfl⟩
  · refine no ?_ ?_
    · rw [zo_X11_chance]; exact zu_gd (zs_isPlayN q) rfl
    · rw [zo_X12_chance]; exact zu_gd (zu_inN 1 q) rfl
  · have ip : ¬ zv_X11_isPlay (nI p) = 0 := by rw [zs_isPlayY hp]; decide
    have im : ¬ zv_X12_isPlay (nI p) = 0 := by
      show ¬ zv_X12_in (nI p) 0 (nI 1) = 0
      rw [zu_inY (by omega) hp]; decide
    rcases zu_bet y 10 (by omega) with q | ⟨q, hq, rfl⟩
    · refine no ?_ ?_
      · rw [zo_X11_chance]
        unfold zb_X11_chance_0
        refine zu_gn ip ?_
        rcases q with q | q
        · exact zu_gd q rfl
        · by_cases z : y < 0
          · exact zu_gd z rfl
          · exact zu_gn z (zu_gn (show ¬ y ≤ nI 10 from Int32.not_le.mpr q) rfl)
      · rw [zo_X12_chance]
        exact zu_gn im (zu_gn (fun w => w (zu_inN 10 q)) rfl)
    · generalize hU : zh_U n (I 54) (zh_P n (I 54) (zh_W n (I 53) 0) (nI p)) 2 = U
      have ub : ∀ i, 6 ≤ i → i < 32 → bt U i = false := by
        rw [← hU]
        exact zh_U_bits _ (fun s hs => (h.1.2.2.2.2.1 s hs).2.2.1) n (Nat.le_refl n)
      have bc : zv_J6_bitCount U = nI (zu_ct (fun i => bt U i) 6) := by
        rw [zu_bc (fun i hi h2 => ub i (by omega) h2), zu_ct_more (n := 6) (by omega) (fun i a b => ub i a (by omega))]
      have c6 := zu_ct_le (fun i => bt U i) 6
      generalize zu_ct (fun i => bt U i) 6 = c at bc c6
      have u1 : (10 - q) ^ c ≤ 10 ^ c := Nat.pow_le_pow_left (by omega) c
      have u2 : 10 ^ c ≤ 10 ^ 6 := Nat.pow_le_pow_right (by omega) c6
      have u3 : 0 < 10 ^ c := Nat.pow_pos (by omega)
      have a : zf_X11_chance (M + 1) (nI p) (nI q) I J = some (0, zz_u I 2 3 2, zz_u (zz_u J 4 0 (lN ((10 - q) ^ c) / lN (Nat.gcd ((10 - q) ^ c) (10 ^ c)))) 4 1 (lN (10 ^ c) / lN (Nat.gcd ((10 - q) ^ c) (10 ^ c)))) := by
        rw [zo_X11_chance]
        unfold zb_X11_chance_0
        refine zu_gn ip (zu_gn (nI_pos (by omega)) (zu_gd (show nI q ≤ nI 10 from nI_le hq (by omega)) ?_))
        rw [hW, zs_ofp h.1 _ hp]
        refine zu_bd ((zs_union2 hN h.1 _).trans (congrArg (fun v => some (v, I, J)) hU)) ?_
        exact zs_chance_l (n := n) hN q c U hq c6 bc c 0 M (by omega) (by omega)
      have b : ∀ (I' : Nat → Nat → Int32) (J : Nat → Nat → Int64), I' 52 1 = nI n → zh_U n (I' 54) (zh_P n (I' 54) (zh_W n (I' 53) 0) (nI p)) 2 = U → zf_X12_chance (M + 1) (nI p) (nI q) I' J = some (0, zz_u (zz_u I' 52 7 0) 52 6 2, zz_u (zz_u J 56 0 (lN ((10 - q) ^ c) / lN (Nat.gcd ((10 - q) ^ c) (10 ^ c)))) 56 1 (lN (10 ^ c) / lN (Nat.gcd ((10 - q) ^ c) (10 ^ c)))) := by
        intro I' J h1 hU'
        rw [zo_X12_chance]
        unfold zb_X12_chance_0
        refine zu_gn im (zu_gd (by rw [show (10 : Int32) = nI 10 from rfl, zu_inY (by omega) hq]; decide) ?_)
        refine zu_bd (zm_where hN hn (by exact h1) _) (zu_bd (zm_ofPlay hN hn (by exact h1) _ _) (zu_bd ((zm_persons hN hn (by exact h1) _).trans (congrArg (fun v => some (v, _, _)) hU')) ?_))
        simp only [bc]
        rw [show (10 : Int32) - nI q = nI (10 - q) from pk_sub (a := 10) (by omega), nI_l (by omega)]
        exact zu_bd (zm_pow hN _ _ (by omega)) (zu_bd (zm_pow hN 10 _ (by omega)) (zu_bd (zm_part hN (by omega) (by omega) u3) rfl))
      exact ⟨_, _, _, _, _, a, b (zz_u I 2 3 2) _ h.1.2.1 hU, zi_q2 h _ _⟩
