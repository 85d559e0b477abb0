/-! LIKELY -/
/-- a whole row is another one -/
def zh_r {α : Type} (I : Nat → Nat → α) (a : Nat) (g : Nat → α) : Nat → Nat → α := fun b j => if b = a then g j else I b j
def zh_up {α : Type} (g : Nat → α) (c : Nat) (v : α) : Nat → α := fun j => if j = c then v else g j
theorem zh_ru {α : Type} (I : Nat → Nat → α) (a : Nat) (g : Nat → α) (c : Nat) (v : α) : zz_u (zh_r I a g) a c v = zh_r I a (zh_up g c v) := by
  funext b j
  unfold zz_u zh_r zh_up
  by_cases e : b = a
  · subst e
    by_cases q : j = c <;> simp [q]
  · simp [e]
theorem zh_rs {α : Type} (I : Nat → Nat → α) (a : Nat) : zh_r I a (I a) = I := by
  funext b j
  unfold zh_r
  split
  · next e => rw [e]
  · rfl
theorem zh_rr {α : Type} (I : Nat → Nat → α) (a : Nat) (g : Nat → α) (j : Nat) : zh_r I a g a j = g j := by
  unfold zh_r
  rw [if_pos rfl]
theorem zk_r {I X : Nat → Nat → Int32} {a : Nat} {g : Nat → Int32} (hk : ∀ i, zk_k a i = false) (h : zk I X) : zk I (zh_r X a g) := fun b j k => by
  unfold zh_r
  split
  · next e => rw [e, hk] at k; cases k
  · exact h b j k
def zh_cn (n : Nat) (a f : Nat → Int32) (k : Nat) : Nat := zu_ct (fun s => decide (a s = 0) && !decide (¬ f (7 * s + 2) &&& nI k = 0)) n
def zh_w6 (q t : Nat) : Nat := q ^ zh_b t * (10 - q) ^ (6 - zh_b t)
def zh_ws (cn w : Nat → Nat) : Nat → Nat → Nat
  | 0, _ => 0
  | j + 1, c => zh_ws cn w j c + (if cn j = c then w j else 0)
theorem zh_ws_cong {cn w cn' w' : Nat → Nat} : ∀ j c, (∀ t, t < j → cn t = cn' t ∧ w t = w' t) → zh_ws cn w j c = zh_ws cn' w' j c
  | 0, _, _ => rfl
  | j + 1, c, h => by
    unfold zh_ws
    rw [zh_ws_cong j c (fun t ht => h t (by omega)), (h j (by omega)).1, (h j (by omega)).2]
theorem zh_ws_front (cn w : Nat → Nat) : ∀ j c, zh_ws cn w (j + 1) c = (if cn 0 = c then w 0 else 0) + zh_ws (fun t => cn (t + 1)) (fun t => w (t + 1)) j c
  | 0, c => by simp [zh_ws]
  | j + 1, c => by
    rw [show zh_ws cn w (j + 1 + 1) c = zh_ws cn w (j + 1) c + (if cn (j + 1) = c then w (j + 1) else 0) from rfl, zh_ws_front cn w j c]
    rw [show zh_ws (fun t => cn (t + 1)) (fun t => w (t + 1)) (j + 1) c = zh_ws (fun t => cn (t + 1)) (fun t => w (t + 1)) j c + (if cn (j + 1) = c then w (j + 1) else 0) from rfl]
    omega
theorem zh_ws_rev (cn w : Nat → Nat) : ∀ j c, zh_ws (fun t => cn (j - 1 - t)) (fun t => w (j - 1 - t)) j c = zh_ws cn w j c
  | 0, _ => rfl
  | j + 1, c => by
    rw [zh_ws_front]
    have e : zh_ws (fun t => cn (j + 1 - 1 - (t + 1))) (fun t => w (j + 1 - 1 - (t + 1))) j c = zh_ws (fun t => cn (j - 1 - t)) (fun t => w (j - 1 - t)) j c := zh_ws_cong j c (fun t ht => by
      rw [show j + 1 - 1 - (t + 1) = j - 1 - t by omega]
      exact ⟨rfl, rfl⟩)
    rw [e, zh_ws_rev cn w j c]
    rw [show j + 1 - 1 - 0 = j by omega]
    show _ = zh_ws cn w j c + _
    omega
theorem zh_w6_le : ∀ q, q ≤ 10 → ∀ t, t < 64 → zh_w6 q t ≤ 1000000 := by decide +kernel
theorem zh_ws_le {cn w : Nat → Nat} {B : Nat} : ∀ j c, (∀ t, t < j → w t ≤ B) → zh_ws cn w j c ≤ j * B
  | 0, _, _ => by simp [zh_ws]
  | j + 1, c, h => by
    have := zh_ws_le (cn := cn) j c (fun t ht => h t (by omega))
    have h2 := h j (by omega)
    unfold zh_ws
    rw [Nat.succ_mul]
    split <;> omega
/-- the class's weight of those who are there -/
def zh_wt (q t : Nat) : Nat → Nat
  | 0 => 1
  | i + 1 => zh_wt q t i * (if bt (nI t) i = true then 10 - q else q)
theorem zh_wt_w6 : ∀ q, q ≤ 10 → ∀ t, t < 64 → zh_wt q t 6 = zh_w6 q (63 - t) := by decide +kernel
theorem zh_wt_le (q t : Nat) (hq : q ≤ 10) : ∀ i, zh_wt q t i ≤ 10 ^ i
  | 0 => Nat.le_refl 1
  | i + 1 => by
    have := zh_wt_le q t hq i
    unfold zh_wt
    rw [Nat.pow_succ]
    exact Nat.mul_le_mul this (by split <;> omega)
theorem zs_wt_l {N : Nat} {I : Nat → Nat → Int32} {J : Nat → Nat → Int64} (q t : Nat) (hq : q ≤ 10) : ∀ k s f, s + k = 6 → k < f → zl_X2_weightOfSet N f 4 (nI t) (nI q) (nI (zh_wt q t s)) (nI s) I J = some (nI (zh_wt q t 6), I, J) := by
  intro k
  induction k with
  | zero =>
    intro s f hs hf
    obtain ⟨m, rfl⟩ : ∃ m, f = m + 1 := ⟨f - 1, by omega⟩
    obtain rfl : s = 6 := by omega
    rw [zo_X2_weightOfSet_4]
    unfold zb_X2_weightOfSet_4
    rw [if_pos (by decide)]
  | succ k ih =>
    intro s f hs hf
    obtain ⟨m, rfl⟩ : ∃ m, f = m + 1 := ⟨f - 1, by omega⟩
    refine Eq.trans ?_ (ih (s + 1) m (by omega) (by omega))
    rw [zo_X2_weightOfSet_4]
    unfold zb_X2_weightOfSet_4
    rw [if_neg (show ¬ (6 : Int32) ≤ nI s from nI_ge (b := 6) (by omega) (by omega)), show (10 : Int32) - nI q = nI (10 - q) from pk_sub (a := 10) (by omega), pk_mul, pk_mul, nI_1]
    simp only [zu_b1 (x := nI t) (s := s) (by omega)]
    rw [show zh_wt q t (s + 1) = zh_wt q t s * (if bt (nI t) s = true then 10 - q else q) from rfl]
    cases bt (nI t) s <;> simp
theorem zs_wt {N : Nat} (hN : 100000 ≤ N) {I : Nat → Nat → Int32} {J : Nat → Nat → Int64} (q t : Nat) (hq : q ≤ 10) (ht : t < 64) : zf_X2_weightOfSet N (nI t) (nI q) I J = some (nI (zh_w6 q (63 - t)), I, J) := by
  obtain ⟨M, rfl⟩ := zu_one N hN
  rw [zo_X2_weightOfSet, ← zh_wt_w6 q hq t ht]
  exact zs_wt_l q t hq 6 0 M (by omega) (by omega)
theorem zs_cn {n : Nat} (hn : n ≤ 12) (a f : Nat → Int32) (k : Nat) : zv_J6_bitCount (zh_W n a 0 &&& (zu_set (fun s => decide (¬ f (7 * s + 2) &&& nI k = 0)) n ^^^ (-1))) = nI (zh_cn n a f k) := by
  unfold zh_W
  rw [zu_set_diff (by omega), zu_bcS hn]
  rfl
theorem zm_cn {n : Nat} (hn : n ≤ 12) (a f : Nat → Int32) (k : Nat) : zv_J6_bitCount (zh_W n a 0 &&& (zh_T n f (zh_W n a 0) (nI k) ^^^ (-1))) = nI (zh_cn n a f k) := by
  unfold zh_T
  rw [show zh_W n a 0 = zu_set (fun s => decide (a s = 0)) n from rfl, zu_set_diff (by omega), zu_bcS hn]
  unfold zh_cn
  refine congrArg nI (zu_ct_cong (fun i hi => ?_))
  rw [zu_set_at (by omega) hi]
  cases decide (a i = 0) <;> rfl
theorem zh_cn_le {n : Nat} (hn : n ≤ 12) (a f : Nat → Int32) (k : Nat) : zh_cn n a f k ≤ 12 := Nat.le_trans (zu_ct_le _ n) hn
theorem zs_wei1_l {N : Nat} {I : Nat → Nat → Int32} {J : Nat → Nat → Int64} (x y : Int32) (R : Option (Int32 × (Nat → Nat → Int32) × (Nat → Nat → Int64))) : ∀ k s f (g : Nat → Int32), s + k = 13 → (∀ c, c < s → g c = 0) → (∀ m g', (∀ c, c < 13 → g' c = 0) → f ≤ m + k + 1 → zl_X2_weighCounts N m 26 x y 0 0 0 (zh_r I 50 g') J = R) → k < f → zl_X2_weighCounts N f 2 x y (nI s) 0 0 (zh_r I 50 g) J = R := by
  intro k
  induction k with
  | zero =>
    intro s f g hs hg hR hf
    obtain ⟨m, rfl⟩ : ∃ m, f = m + 1 := ⟨f - 1, by omega⟩
    obtain rfl : s = 13 := by omega
    rw [zo_X2_weighCounts_2]
    unfold zb_X2_weighCounts_2
    rw [if_pos (nI_le (Nat.le_refl 13) (by omega))]
    exact hR m g hg (by omega)
  | succ k ih =>
    intro s f g hs hg hR hf
    obtain ⟨m, rfl⟩ : ∃ m, f = m + 1 := ⟨f - 1, by omega⟩
    rw [zo_X2_weighCounts_2]
    unfold zb_X2_weighCounts_2
    rw [if_neg (nI_ge (show s < 13 by omega) (by omega)), if_pos (nI_in (show s < 13 by omega) (by omega)), nI_clamp (by omega), nI_1, zh_ru]
    refine ih (s + 1) m _ (by omega) (fun c hc => ?_) (fun m' g' hg' hm => hR m' g' hg' (by omega)) (by omega)
    unfold zh_up
    split
    · rfl
    · exact hg c (by omega)
theorem zs_wei2_l {N n : Nat} (hN : 100000 ≤ N) {I : Nat → Nat → Int32} {J : Nat → Nat → Int64} (h : zi_sc n I) (q : Nat) (hq : q ≤ 10) : ∀ k s f (g : Nat → Int32), s + k = 64 → (∀ c, c < 13 → g c = nI (zh_ws (fun t => zh_cn n (I 53) (I 54) (63 - t)) (fun t => zh_w6 q (63 - t)) s c)) → k < f → ∃ g', zl_X2_weighCounts N f 26 (zh_W n (I 53) 0) (nI q) (nI s) 0 0 (zh_r I 50 g) J = some (0, zh_r I 50 g', J) ∧ ∀ c, c < 13 → g' c = nI (zh_ws (fun t => zh_cn n (I 53) (I 54) (63 - t)) (fun t => zh_w6 q (63 - t)) 64 c) := by
  intro k
  have hn := h.1
  induction k with
  | zero =>
    intro s f g hs hg hf
    obtain ⟨m, rfl⟩ : ∃ m, f = m + 1 := ⟨f - 1, by omega⟩
    obtain rfl : s = 64 := by omega
    refine ⟨g, ?_, hg⟩
    rw [zo_X2_weighCounts_26]
    unfold zb_X2_weighCounts_26
    rw [if_pos (by decide)]
  | succ k ih =>
    intro s f g hs hg hf
    obtain ⟨m, rfl⟩ : ∃ m, f = m + 1 := ⟨f - 1, by omega⟩
    have hcn := zh_cn_le hn (I 53) (I 54) (63 - s)
    obtain ⟨g', e1, e2⟩ := ih (s + 1) m (zh_up g (zh_cn n (I 53) (I 54) (63 - s)) (g (zh_cn n (I 53) (I 54) (63 - s)) + nI (zh_w6 q (63 - s)))) (by omega) (fun c hc => by
      unfold zh_up
      rw [show zh_ws (fun t => zh_cn n (I 53) (I 54) (63 - t)) (fun t => zh_w6 q (63 - t)) (s + 1) c = zh_ws (fun t => zh_cn n (I 53) (I 54) (63 - t)) (fun t => zh_w6 q (63 - t)) s c + (if zh_cn n (I 53) (I 54) (63 - s) = c then zh_w6 q (63 - s) else 0) from rfl]
      by_cases e : c = zh_cn n (I 53) (I 54) (63 - s)
      · rw [if_pos e, if_pos e.symm, ← e, hg c hc, nI_add]
      · rw [if_neg e, if_neg (fun w => e w.symm), Nat.add_zero]
        exact hg c hc) (by omega)
    refine ⟨g', ?_, e2⟩
    rw [← e1, zo_X2_weighCounts_26]
    unfold zb_X2_weighCounts_26
    rw [if_neg (show ¬ (64 : Int32) ≤ nI s from nI_ge (b := 64) (by omega) (by omega)), show (63 : Int32) - nI s = nI (63 - s) from pk_sub (a := 63) (by omega)]
    refine zu_bd (zs_with (I := zh_r I 50 g) hN h _) ?_
    have cn : zv_J6_bitCount (zh_W n (I 53) 0 &&& (zu_set (fun s' => decide (¬ zh_r I 50 g 54 (7 * s' + 2) &&& nI (63 - s) = 0)) n ^^^ (-1))) = nI (zh_cn n (I 53) (I 54) (63 - s)) := zs_cn hn (I 53) (I 54) (63 - s)
    simp only [cn]
    rw [if_neg (nI_ge (show zh_cn n (I 53) (I 54) (63 - s) < 13 by omega) (by omega)), if_pos (nI_in (show zh_cn n (I 53) (I 54) (63 - s) < 13 by omega) (by omega)), nI_clamp (by omega), zh_rr]
    refine zu_bd (zs_wt hN q s hq (by omega)) ?_
    rw [zh_ru, nI_1]
