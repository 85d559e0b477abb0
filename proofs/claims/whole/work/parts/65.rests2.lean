/-! RESTS, its end; LAMPS -/
theorem zh_in_z {v x : Nat} {S : zh_St} (h : S.1 = 0 → S.2 = none) : ∀ y, (zh_in v x S y).1 = 0 → (zh_in v x S y).2 = none
  | 0, e => h e
  | y + 1, e => by
    unfold zh_in zh_st at e ⊢
    split at e
    · simp at e
    · next c => rw [if_neg c]; exact zh_in_z h y e
theorem zh_in_l {v x : Nat} {S : zh_St} : ∀ y, (zh_in v x S y).1 ≤ S.1 + y
  | 0 => Nat.le_refl _
  | y + 1 => by
    have := zh_in_l (v := v) (x := x) (S := S) y
    unfold zh_in zh_st
    split
    · show _ + 1 ≤ _; omega
    · omega
theorem zh_ou_z (v : Nat) : ∀ x, (zh_ou v x).1 = 0 → (zh_ou v x).2 = none
  | 0, _ => rfl
  | x + 1, e => zh_in_z (zh_ou_z v x) (v + 1) e
theorem zh_ou_l (v : Nat) : ∀ x, (zh_ou v x).1 ≤ x * (v + 1)
  | 0 => Nat.zero_le _
  | x + 1 => by
    have a := zh_ou_l v x
    have b := zh_in_l (v := v) (x := x) (S := zh_ou v x) (v + 1)
    show (zh_in v x (zh_ou v x) (v + 1)).1 ≤ _
    rw [Nat.succ_mul]
    omega
theorem zs_rests_o {N : Nat} (hN : 100000 ≤ N) {I : Nat → Nat → Int32} {J : Nat → Nat → Int64} (v : Nat) (hv : v ≤ 20) : ∀ k x f, x + k = v + 1 → 50 * k < f → zl_X11_rests N f 16 (nI v) (nI (zh_ou v x).1) (nI x) 0 (zh_ci I (zh_ou v x)) (zh_cj J (zh_ou v x)) = some (nI (zh_ou v (v + 1)).1, zh_ci I (zh_ou v (v + 1)), zh_cj J (zh_ou v (v + 1))) := by
  intro k
  induction k with
  | zero =>
    intro x f hx hf
    obtain ⟨m, rfl⟩ : ∃ m, f = m + 1 := ⟨f - 1, by omega⟩
    obtain rfl : x = v + 1 := by omega
    rw [zo_X11_rests_16]
    unfold zb_X11_rests_16
    rw [if_pos (nI_lt (by omega) (by omega))]
  | succ k ih =>
    intro x f hx hf
    obtain ⟨m, rfl⟩ : ∃ m, f = m + 1 := ⟨f - 1, by omega⟩
    rw [zo_X11_rests_16]
    unfold zb_X11_rests_16
    rw [if_neg (nI_nlt (show x ≤ v by omega) (by omega))]
    have l := zh_ou_l v x
    have l2 : x * (v + 1) ≤ 20 * 21 := Nat.mul_le_mul (by omega) (by omega)
    exact zs_rests_l hN v hv x (by omega) (zh_ou v x) _ (v + 1) 0 m (by omega) (by omega) (fun y _ => zh_in_z (zh_ou_z v x) y) (fun y => zh_in_l y) (by omega) (fun m' hm => ih (x + 1) m' (by omega) (by omega))
theorem zm_rests_l {N : Nat} (hN : 100000 ≤ N) {I : Nat → Nat → Int32} {J : Nat → Nat → Int64} (v : Nat) (hv : v ≤ 20) (x : Nat) (hx : x ≤ v) (S : zh_St) (hz : ∀ y', (zh_in v x S y').1 = 0 → (zh_in v x S y').2 = none) (hS : S.1 < 1000) (R : Option (Int32 × (Nat → Nat → Int32) × (Nat → Nat → Int64))) : ∀ k y f, y + k = v + 1 → 3 * k < f → (∀ m, f ≤ m + 3 * k + 1 → zl_X12_rests N m 26 (nI v) (nI (zh_in v x S (v + 1)).1) (nI (x + 1)) 0 (zh_mi I (zh_in v x S (v + 1))) (zh_mj J (zh_in v x S (v + 1))) = R) → zl_X12_rests N f 34 (nI v) (nI (zh_in v x S y).1) (nI x) (nI y) (zh_mi I (zh_in v x S y)) (zh_mj J (zh_in v x S y)) = R := by
  intro k
  induction k with
  | zero =>
    intro y f hy hf hR
    obtain ⟨m, rfl⟩ : ∃ m, f = m + 1 := ⟨f - 1, by omega⟩
    obtain rfl : y = v + 1 := by omega
    rw [zo_X12_rests_34]
    unfold zb_X12_rests_34
    rw [if_pos (nI_lt (by omega) (by omega)), nI_1]
    exact hR m (by omega)
  | succ k ih =>
    intro y f hy hf hR
    obtain ⟨m, rfl⟩ : ∃ m, f = m + 1 + 1 + 1 := ⟨f - 3, by omega⟩
    have nx := ih (y + 1) m (by omega) (by omega) (fun m' hm' => hR m' (by omega))
    have nx1 := ih (y + 1) (m + 1) (by omega) (by omega) (fun m' hm' => hR m' (by omega))
    have z := hz y
    have l := zh_in_l (v := v) (x := x) (S := S) y
    rw [show zh_in v x S (y + 1) = zh_st v x y (zh_in v x S y) from rfl] at nx nx1
    generalize zh_in v x S y = T at *
    rw [zo_X12_rests_34]
    unfold zb_X12_rests_34
    rw [if_neg (nI_nlt (show y ≤ v by omega) (by omega)), zm_best hN hv, Option.bind_some]
    simp only [zo_X12_rests_80, zb_X12_rests_80, zo_X12_rests_83, zb_X12_rests_83, nI_1, zm_best hN hv, Option.bind_some]
    unfold zh_st at nx nx1
    by_cases c1 : zh_be v x y (v + 1) = true
    · rw [if_pos c1, if_neg (by decide)]
      by_cases c2 : zh_be v y x (v + 1) = true
      · rw [if_pos ⟨c1, c2⟩] at nx
        rw [if_pos c2, if_pos (by decide)]
        by_cases t : T.1 = 0
        · rw [if_pos t] at nx
          rw [if_neg (fun w => w (by rw [t]; rfl))]
          have tn := z t
          have i1 : zh_mi I T = zz_u I 52 6 0 := by unfold zh_mi; rw [tn]
          have j1 : zh_mj J T = J := by unfold zh_mj; rw [tn]
          rw [i1, j1]
          simp only [zu_m1, zu_m2, zu_m3, zu_y1, zu_y2, zu_y3, zz_us, zu_ga, zu_gb, zu_gc, not_false_eq_true, if_true, ite_true, zu_t1, zu_t2, zu_t3, zu_x1, zu_x2, zu_x3]
          exact nx
        · rw [if_neg t] at nx
          rw [if_pos (show ¬ nI T.1 = 0 from fun w => by
            rw [show (0 : Int32) = nI 0 from rfl, nI_eq (by omega) (by omega)] at w
            omega)]
          exact nx
      · rw [if_neg (fun w => c2 w.2)] at nx1
        rw [if_neg c2, if_neg (fun w => w rfl)]
        exact nx1
    · rw [if_neg (fun w => c1 w.1)] at nx1
      rw [if_neg c1, if_pos rfl]
      exact nx1
theorem zm_rests_o {N : Nat} (hN : 100000 ≤ N) {I : Nat → Nat → Int32} {J : Nat → Nat → Int64} (v : Nat) (hv : v ≤ 20) : ∀ k x f, x + k = v + 1 → 70 * k < f → zl_X12_rests N f 26 (nI v) (nI (zh_ou v x).1) (nI x) 0 (zh_mi I (zh_ou v x)) (zh_mj J (zh_ou v x)) = some (nI (zh_ou v (v + 1)).1, zh_mi I (zh_ou v (v + 1)), zh_mj J (zh_ou v (v + 1))) := by
  intro k
  induction k with
  | zero =>
    intro x f hx hf
    obtain ⟨m, rfl⟩ : ∃ m, f = m + 1 := ⟨f - 1, by omega⟩
    obtain rfl : x = v + 1 := by omega
    rw [zo_X12_rests_26]
    unfold zb_X12_rests_26
    rw [if_pos (nI_lt (by omega) (by omega))]
  | succ k ih =>
    intro x f hx hf
    obtain ⟨m, rfl⟩ : ∃ m, f = m + 1 := ⟨f - 1, by omega⟩
    rw [zo_X12_rests_26]
    unfold zb_X12_rests_26
    rw [if_neg (nI_nlt (show x ≤ v by omega) (by omega))]
    have l := zh_ou_l v x
    have l2 : x * (v + 1) ≤ 20 * 21 := Nat.mul_le_mul (by omega) (by omega)
    exact zm_rests_l hN v hv x (by omega) (zh_ou v x) (fun y => zh_in_z (zh_ou_z v x) y) (by omega) _ (v + 1) 0 m (by omega) (by omega) (fun m' hm => ih (x + 1) m' (by omega) (by omega))
theorem zy_rests {N n : Nat} (hN : 100000 ≤ N) {I : Nat → Nat → Int32} {J : Nat → Nat → Int64} {F : zz_F} (h : zi n I J F) (x : Int32) : ∃ v I1 J1 I2 J2, zf_X11_rests N x I J = some (v, I1, J1) ∧ zf_X12_rests N x I1 J1 = some (v, I2, J2) ∧ zi n I2 J2 F := by
  obtain ⟨M, rfl⟩ := zu_one N hN
  rcases zu_bet x 20 (by omega) with q | ⟨v, hv, rfl⟩
  · have a : zf_X11_rests (M + 1) x I J = some (-1, I, J) := by
      obtain ⟨m, rfl⟩ : ∃ m, M = m + 1 := ⟨M - 1, by omega⟩
      rw [zo_X11_rests]
      unfold zb_X11_rests_0
      rcases q with q | q
      · rw [if_pos q, zo_X11_rests_10]; rfl
      · by_cases z : x < 0
        · rw [if_pos z, zo_X11_rests_10]; rfl
        · rw [if_neg z, if_neg (show ¬ x ≤ 20 from Int32.not_le.mpr q), zo_X11_rests_10]; rfl
    have b : zf_X12_rests (M + 1) x I J = some (-1, zz_u I 52 7 0, J) := by
      rw [zo_X12_rests]
      exact zu_gn (fun w => w (zu_inN 20 q)) rfl
    exact ⟨_, _, _, _, _, a, b, zi_q0 h⟩
  · obtain ⟨p1, p2⟩ := zh_ou_ok v hv
    obtain ⟨⟨c, d⟩, hp⟩ := Option.isSome_iff_exists.mp p2
    have a : zf_X11_rests (M + 1) (nI v) I J = some (nI (zh_ou v (v + 1)).1, zz_u I 2 3 2, zz_u (zz_u J 4 0 (nI c).toInt64) 4 1 (nI d).toInt64) := by
      rw [zo_X11_rests]
      unfold zb_X11_rests_0
      rw [if_neg (nI_pos (by omega)), if_pos (show nI v ≤ 20 from nI_le (b := 20) hv (by omega))]
      have := zs_rests_o hN (I := I) (J := J) v hv (v + 1) 0 M (by omega) (by omega)
      rw [show zh_ci I (zh_ou v (v + 1)) = zz_u I 2 3 2 by unfold zh_ci; rw [hp], show zh_cj J (zh_ou v (v + 1)) = zz_u (zz_u J 4 0 (nI c).toInt64) 4 1 (nI d).toInt64 by unfold zh_cj; rw [hp]] at this
      exact this
    have b : ∀ (I : Nat → Nat → Int32) (J : Nat → Nat → Int64), zf_X12_rests (M + 1) (nI v) I J = some (nI (zh_ou v (v + 1)).1, zz_u (zz_u I 52 7 0) 52 6 2, zz_u (zz_u J 56 0 (nI c).toInt64) 56 1 (nI d).toInt64) := by
      intro I J
      rw [zo_X12_rests]
      unfold zb_X12_rests_0
      rw [if_pos (by rw [show (20 : Int32) = nI 20 from rfl, zu_inY (by omega) hv]; decide)]
      have := zm_rests_o hN (I := zz_u I 52 7 0) (J := J) v hv (v + 1) 0 M (by omega) (by omega)
      rw [show zh_mi (zz_u I 52 7 0) (zh_ou v (v + 1)) = zz_u (zz_u I 52 7 0) 52 6 2 by unfold zh_mi; rw [hp], show zh_mj J (zh_ou v (v + 1)) = zz_u (zz_u J 56 0 (nI c).toInt64) 56 1 (nI d).toInt64 by unfold zh_mj; rw [hp]] at this
      exact this
    exact ⟨_, _, _, _, _, a, b _ _, zi_q2 h _ _⟩
/-! lamps -/
def zh_lb (t : Nat → Int32) (l k : Nat) : Int32 := if k = l then nI k - 4 else nI k - t (l - k)
def zh_ft (t : Nat → Int32) (l : Nat) : Nat → Nat
  | 0 => 1
  | k + 1 => if k + 2 ≤ l ∧ zh_lb t l (zh_ft t l k) < zh_lb t l (k + 2) then k + 2 else zh_ft t l k
def zh_lt : Nat → Nat → Int32
  | 0 => fun _ => 0
  | k + 1 => zh_up (zh_lt k) (k + 1) (zh_lb (zh_lt k) (k + 1) (zh_ft (zh_lt k) (k + 1) 2))
theorem zh_lt_big : ∀ l, l < 40 → (-1000000 : Int32) < zh_lb (zh_lt l) (l + 1) 1 := by decide +kernel
theorem zh_ft_in (t : Nat → Int32) {l : Nat} (hl : 1 ≤ l) : ∀ k, 1 ≤ zh_ft t l k ∧ zh_ft t l k ≤ k + 1 ∧ zh_ft t l k ≤ l
  | 0 => ⟨Nat.le_refl 1, Nat.le_refl 1, hl⟩
  | k + 1 => by
    have := zh_ft_in t hl k
    unfold zh_ft
    split
    · next c => exact ⟨by omega, by omega, c.1⟩
    · exact ⟨this.1, by omega, this.2.2⟩
theorem zh_lb_c {t u : Nat → Int32} {l k : Nat} (hk : 1 ≤ k) (hl : k ≤ l) (h : ∀ j, 1 ≤ j → j < l → t j = u j) : zh_lb t l k = zh_lb u l k := by
  unfold zh_lb
  split
  · rfl
  · rw [h (l - k) (by omega) (by omega)]
theorem zh_lt_old : ∀ k j, j ≤ k → zh_lt (k + 1) j = zh_lt k j := fun k j hj => by
  show zh_up (zh_lt k) (k + 1) _ j = _
  unfold zh_up
  rw [if_neg (by omega)]
theorem zs_lb {I : Nat → Nat → Int32} {l k : Nat} (h0 : 1 ≤ k) (hk : k ≤ l) (hl : l ≤ 40) : zv_X2_leadByTaking I (nI l) (nI k) = zh_lb (I 51) l k := by
  unfold zv_X2_leadByTaking zh_lb
  by_cases e : k = l
  · subst e; simp
  · rw [if_neg e, if_pos (fun w => e ((nI_eq (by omega) (by omega)).mp w)), pk_sub hk]
    unfold zv_X2_leadWith
    rw [if_neg (nI_pos (by omega)), if_neg (nI_ge (by omega) (by omega)), nI_clamp (by omega)]
theorem zs_take_l {N : Nat} {I : Nat → Nat → Int32} {J : Nat → Nat → Int64} {l : Nat} (h0 : 1 ≤ l) (hl : l ≤ 40) : ∀ k s f, s + k = 2 → k < f → zl_X2_firstTake N f 4 (nI l) (nI (zh_ft (I 51) l s)) (nI (s + 2)) I J = some (nI (zh_ft (I 51) l 2), I, J) := by
  intro k
  induction k with
  | zero =>
    intro s f hs hf
    obtain ⟨m, rfl⟩ : ∃ m, f = m + 1 := ⟨f - 1, by omega⟩
    obtain rfl : s = 2 := by omega
    rw [zo_X2_firstTake_4]
    unfold zb_X2_firstTake_4
    rw [if_pos (by decide)]
  | succ k ih =>
    intro s f hs hf
    obtain ⟨m, rfl⟩ : ∃ m, f = m + 1 := ⟨f - 1, by omega⟩
    have ft := zh_ft_in (I 51) h0 s
    rw [zo_X2_firstTake_4]
    unfold zb_X2_firstTake_4
    rw [if_neg (show ¬ (3 : Int32) < nI (s + 2) from nI_nlt (a := 3) (by omega) (by omega))]
    by_cases c : l < s + 2
    · rw [if_pos (nI_lt c (by omega))]
      have st : ∀ j, s ≤ j → zh_ft (I 51) l j = zh_ft (I 51) l s := by
        intro j hj
        induction j with
        | zero => have : s = 0 := by omega
                  rw [this]
        | succ j ij =>
          by_cases q : s = j + 1
          · rw [q]
          · unfold zh_ft
            rw [if_neg (fun w => by omega), ij (by omega)]
            cases s <;> rfl
      rw [st 2 (by omega)]
    · rw [if_neg (nI_nlt (show s + 2 ≤ l by omega) (by omega)), zs_lb (by omega) (by omega) hl, zs_lb ft.1 ft.2.2 hl, nI_1]
      refine Eq.trans ?_ (ih (s + 1) m (by omega) (by omega))
      rw [show zh_ft (I 51) l (s + 1) = if s + 2 ≤ l ∧ zh_lb (I 51) l (zh_ft (I 51) l s) < zh_lb (I 51) l (s + 2) then s + 2 else zh_ft (I 51) l s from rfl]
      by_cases d : zh_lb (I 51) l (zh_ft (I 51) l s) < zh_lb (I 51) l (s + 2)
      · rw [if_neg (Int32.not_le.mpr d), if_pos ⟨by omega, d⟩]
      · rw [if_pos (Int32.not_lt.mp d), if_neg (fun w => d w.2)]
theorem zs_take {N : Nat} (hN : 100000 ≤ N) {I : Nat → Nat → Int32} {J : Nat → Nat → Int64} {l : Nat} (h0 : 1 ≤ l) (hl : l ≤ 40) : zf_X2_firstTake N (nI l) I J = some (nI (zh_ft (I 51) l 2), I, J) := by
  obtain ⟨M, rfl⟩ := zu_one N hN
  rw [zo_X2_firstTake]
  exact zs_take_l h0 hl 2 0 M (by omega) (by omega)
theorem zh_ft_c {t u : Nat → Int32} {l : Nat} (hl : 1 ≤ l) (h : ∀ j, 1 ≤ j → j < l → t j = u j) : ∀ k, zh_ft t l k = zh_ft u l k
  | 0 => rfl
  | k + 1 => by
    have a := zh_ft_in t hl k
    have e := zh_ft_c hl h k
    unfold zh_ft
    by_cases c : k + 2 ≤ l
    · rw [zh_lb_c a.1 a.2.2 h, zh_lb_c (by omega) c h, e]
    · rw [if_neg (fun w => c w.1), if_neg (fun w => c w.1), e]
theorem zs_fill_l {N : Nat} (hN : 100000 ≤ N) {I : Nat → Nat → Int32} {J : Nat → Nat → Int64} {n : Nat} (hn : n ≤ 40) : ∀ k s f (g : Nat → Int32), s + k = n → k < f → (∀ j, 1 ≤ j → j ≤ s → g j = zh_lt s j) → ∃ g', zl_X2_fillLeads N f 2 (nI n) (nI (s + 1)) (zh_r I 51 g) J = some (0, zh_r I 51 g', J) ∧ ∀ j, 1 ≤ j → j ≤ n → g' j = zh_lt n j := by
  intro k
  induction k with
  | zero =>
    intro s f g hs hf hg
    obtain ⟨m, rfl⟩ : ∃ m, f = m + 1 := ⟨f - 1, by omega⟩
    obtain rfl : s = n := by omega
    refine ⟨g, ?_, hg⟩
    rw [zo_X2_fillLeads_2]
    unfold zb_X2_fillLeads_2
    rw [if_pos (nI_lt (by omega) (by omega))]
  | succ k ih =>
    intro s f g hs hf hg
    obtain ⟨m, rfl⟩ : ∃ m, f = m + 1 := ⟨f - 1, by omega⟩
    have cg : ∀ j, 1 ≤ j → j < s + 1 → g j = zh_lt s j := fun j a b => hg j a (by omega)
    have ft := zh_ft_in g (l := s + 1) (by omega) 2
    obtain ⟨g', e1, e2⟩ := ih (s + 1) m (zh_up g (s + 1) (zh_lb g (s + 1) (zh_ft g (s + 1) 2))) (by omega) (by omega) (fun j a b => by
      show (if j = s + 1 then _ else _) = (if j = s + 1 then _ else _)
      by_cases q : j = s + 1
      · rw [if_pos q, if_pos q, zh_lb_c ft.1 ft.2.2 cg, zh_ft_c (by omega) cg]
      · rw [if_neg q, if_neg q]
        exact hg j a (by omega))
    refine ⟨g', ?_, e2⟩
    rw [← e1, zo_X2_fillLeads_2]
    unfold zb_X2_fillLeads_2
    rw [if_neg (nI_nlt (show s + 1 ≤ n by omega) (by omega)), if_neg (nI_ge (show s + 1 < 41 by omega) (by omega)), zs_take hN (by omega) (by omega), Option.bind_some, if_pos (nI_in (show s + 1 < 41 by omega) (by omega)), nI_clamp (by omega), zh_ru, nI_1]
    rw [show zh_r I 51 g 51 = g from rfl, zs_lb (I := zh_r I 51 g) ft.1 ft.2.2 (by omega)]
    rfl
