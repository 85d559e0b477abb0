/-! COUNTING BITS -/
def zu_ct (p : Nat → Bool) : Nat → Nat
  | 0 => 0
  | n + 1 => zu_ct p n + (if p n = true then 1 else 0)
theorem zu_ct_le (p : Nat → Bool) : ∀ n, zu_ct p n ≤ n
  | 0 => Nat.le_refl 0
  | n + 1 => by
    have := zu_ct_le p n
    unfold zu_ct
    split <;> omega
theorem zu_ct_cong {p q : Nat → Bool} : ∀ {n : Nat}, (∀ i, i < n → p i = q i) → zu_ct p n = zu_ct q n
  | 0, _ => rfl
  | n + 1, h => by unfold zu_ct; rw [zu_ct_cong (fun i hi => h i (by omega)), h n (by omega)]
theorem zu_ct_more {p : Nat → Bool} {n : Nat} : ∀ {m : Nat}, n ≤ m → (∀ i, n ≤ i → i < m → p i = false) → zu_ct p m = zu_ct p n
  | 0, h, _ => by
    have : n = 0 := by omega
    subst this; rfl
  | m + 1, h, hp => by
    rcases Nat.lt_or_ge n (m + 1) with q | q
    · unfold zu_ct
      rw [zu_ct_more (by omega) (fun i a b => hp i a (by omega)), if_neg (by rw [hp m (by omega) (by omega)]; exact Bool.false_ne_true)]
      cases n <;> rfl
    · have : n = m + 1 := by omega
      subst this; rfl
theorem zu_ct_sub {p q : Nat → Bool} : ∀ {n : Nat}, (∀ k, k < n → p k = true → q k = true) → zu_ct p n ≤ zu_ct q n
  | 0, _ => Nat.le_refl _
  | n + 1, h => by
    have ih := zu_ct_sub (n := n) (fun k hk => h k (by omega))
    have hn := h n (by omega)
    unfold zu_ct
    cases hp : p n <;> cases hq : q n <;> simp_all <;> omega
theorem zu_bcd : (List.range 4096).all (fun m => zv_J6_bitCount (nI m) == nI (zu_ct (fun i => bt (nI m) i) 12)) = true := by decide +kernel
theorem zu_bcN {m : Nat} (h : m < 4096) : zv_J6_bitCount (nI m) = nI (zu_ct (fun i => bt (nI m) i) 12) := by
  have := List.all_eq_true.mp zu_bcd m (List.mem_range.mpr h)
  exact eq_of_beq this
theorem zu_nat {x : Int32} (h : ∀ i, 12 ≤ i → i < 32 → bt x i = false) : x.toBitVec.toNat < 4096 ∧ x = nI x.toBitVec.toNat := by
  refine ⟨?_, ?_⟩
  · refine Nat.lt_pow_two_of_testBit (n := 12) _ (fun i hi => ?_)
    show x.toBitVec.getLsbD i = false
    rcases Nat.lt_or_ge i 32 with q | q
    · exact h i hi q
    · exact b_big q
  · apply Int32.toBitVec_inj.mp
    show x.toBitVec = BitVec.ofNat 32 x.toBitVec.toNat
    rw [BitVec.ofNat_toNat]
    simp
theorem zu_bc {x : Int32} (h : ∀ i, 12 ≤ i → i < 32 → bt x i = false) : zv_J6_bitCount x = nI (zu_ct (fun i => bt x i) 12) := by
  obtain ⟨a, e⟩ := zu_nat h
  have := zu_bcN a
  rw [← e] at this
  exact this
theorem zu_bcS {p : Nat → Bool} {n : Nat} (hn : n ≤ 12) : zv_J6_bitCount (zu_set p n) = nI (zu_ct p n) := by
  rw [zu_bc (fun i hi _ => zu_set_out (by omega) (by omega))]
  congr 1
  rw [zu_ct_more hn (fun i hi _ => zu_set_out (by omega) hi)]
  exact zu_ct_cong (fun i hi => zu_set_at (by omega) hi)
/-! ask -/
def zh_m (n : Nat) (f : Nat → Int32) (x : Int32) (k : Nat) : Int32 := zz_max (zv_J6_bitCount (zh_T n f x ((1 : Int32) <<< (nI k &&& 31)))) (zv_J6_bitCount x - zv_J6_bitCount (zh_T n f x ((1 : Int32) <<< (nI k &&& 31))))
def zh_K (m : Nat → Int32) : Nat → Int32 × Int32
  | 0 => (-1, 1000000)
  | k + 1 => if m k < (zh_K m k).2 then (nI k, m k) else zh_K m k
theorem zs_left {N n : Nat} (hN : 100000 ≤ N) {I : Nat → Nat → Int32} {J : Nat → Nat → Int64} (h : zi_sc n I) (x : Int32) (k : Nat) : zf_X2_mostLeft N x (nI k) I J = some (zh_m n (I 54) x k, I, J) := by
  obtain ⟨M, rfl⟩ := zu_one N hN
  rw [zo_X2_mostLeft]
  unfold zb_X2_mostLeft_0
  simp only [zs_with hN h, Option.bind_some, zs_ofT h]
  rfl
theorem zs_ask_l {N n : Nat} (hN : 100000 ≤ N) {I : Nat → Nat → Int32} {J : Nat → Nat → Int64} (h : zi_sc n I) (x : Int32) : ∀ k s f, s + k = 6 → k < f → zl_X11_ask N f 38 x (zh_K (zh_m n (I 54) x) s).1 (zh_K (zh_m n (I 54) x) s).2 (nI s) 0 I J = some ((zh_K (zh_m n (I 54) x) 6).1, zz_u I 2 3 1, zz_u J 4 0 (zh_K (zh_m n (I 54) x) 6).2.toInt64) := by
  intro k
  induction k with
  | zero =>
    intro s f hs hf
    obtain ⟨m, rfl⟩ : ∃ m, f = m + 1 := ⟨f - 1, by omega⟩
    obtain rfl : s = 6 := by omega
    rw [zo_X11_ask_38]
    unfold zb_X11_ask_38
    rw [if_pos (by decide)]
    simp only [zu_t1, zu_x1]
  | succ k ih =>
    intro s f hs hf
    obtain ⟨m, rfl⟩ : ∃ m, f = m + 1 := ⟨f - 1, by omega⟩
    refine Eq.trans ?_ (ih (s + 1) m (by omega) (by omega))
    rw [zo_X11_ask_38]
    unfold zb_X11_ask_38
    rw [if_neg (show ¬ (6 : Int32) ≤ nI s from nI_ge (b := 6) (by omega) (by omega))]
    simp only [zs_left hN h, Option.bind_some, nI_1]
    rw [show zh_K (zh_m n (I 54) x) (s + 1) = if zh_m n (I 54) x s < (zh_K (zh_m n (I 54) x) s).2 then (nI s, zh_m n (I 54) x s) else zh_K (zh_m n (I 54) x) s from rfl]
    by_cases c : zh_m n (I 54) x s < (zh_K (zh_m n (I 54) x) s).2
    · rw [if_neg (Int32.not_le.mpr c), if_pos c]
    · rw [if_pos (Int32.not_lt.mp c), if_neg c]
theorem zm_ask_l {N n : Nat} (hN : 100000 ≤ N) (hn : n ≤ 12) {I : Nat → Nat → Int32} {J : Nat → Nat → Int64} (h1 : I 52 1 = nI n) (x : Int32) : ∀ k s f, s + k = 6 → k < f → zl_X12_ask N f 26 x (zh_K (zh_m n (I 54) x) s).1 (zh_K (zh_m n (I 54) x) s).2 (nI s) 0 0 I J = some ((zh_K (zh_m n (I 54) x) 6).1, zz_u I 52 6 1, zz_u J 56 0 (zh_K (zh_m n (I 54) x) 6).2.toInt64) := by
  intro k
  induction k with
  | zero =>
    intro s f hs hf
    obtain ⟨m, rfl⟩ : ∃ m, f = m + 1 := ⟨f - 1, by omega⟩
    obtain rfl : s = 6 := by omega
    rw [zo_X12_ask_26]
    unfold zb_X12_ask_26
    rw [if_pos (by decide)]
    simp only [zu_m1, zu_m2, zu_m3, zu_y1, zu_y2, zu_y3, zz_us, zu_ga, zu_gb, zu_gc, not_false_eq_true, if_true, ite_true, zu_t1, zu_t2, zu_t3, zu_x1, zu_x2, zu_x3]
  | succ k ih =>
    intro s f hs hf
    obtain ⟨m, rfl⟩ : ∃ m, f = m + 1 := ⟨f - 1, by omega⟩
    refine Eq.trans ?_ (ih (s + 1) m (by omega) (by omega))
    rw [zo_X12_ask_26]
    unfold zb_X12_ask_26
    rw [if_neg (show ¬ (6 : Int32) ≤ nI s from nI_ge (b := 6) (by omega) (by omega))]
    simp only [zm_with hN hn h1, Option.bind_some, nI_1]
    rw [show zh_K (zh_m n (I 54) x) (s + 1) = if zh_m n (I 54) x s < (zh_K (zh_m n (I 54) x) s).2 then (nI s, zh_m n (I 54) x s) else zh_K (zh_m n (I 54) x) s from rfl]
    by_cases c : zh_m n (I 54) x s < (zh_K (zh_m n (I 54) x) s).2
    · rw [if_pos c]
      exact if_pos c
    · rw [if_neg c]
      exact if_neg c
theorem zh_m_lt {n : Nat} (hn : n ≤ 12) (f : Nat → Int32) (p : Nat → Bool) (k : Nat) : zh_m n f (zu_set p n) k < 1000000 := by
  unfold zh_m zh_T
  rw [zu_bcS hn, zu_bcS hn]
  have a := zu_ct_le p n
  have b := zu_ct_le (fun s => bt (zu_set p n) s && decide (¬ f (7 * s + 2) &&& ((1 : Int32) <<< (nI k &&& 31)) = 0)) n
  generalize zu_ct p n = A at *
  generalize zu_ct (fun s => bt (zu_set p n) s && decide (¬ f (7 * s + 2) &&& ((1 : Int32) <<< (nI k &&& 31)) = 0)) n = B at *
  have e := pk_sub_toInt (a := A) (b := B) (by omega) (by omega)
  have e2 := nI_toInt (n := B) (by omega)
  unfold zz_max
  split
  · apply Int32.lt_iff_toInt_lt.mpr
    rw [e, show (1000000 : Int32).toInt = 1000000 from rfl]
    omega
  · apply Int32.lt_iff_toInt_lt.mpr
    rw [e2, show (1000000 : Int32).toInt = 1000000 from rfl]
    omega
theorem zy_ask {N n : Nat} (hN : 100000 ≤ N) {I : Nat → Nat → Int32} {J : Nat → Nat → Int64} {F : zz_F} (h : zi n I J F) : ∃ v I1 J1 I2 J2, zf_X11_ask N I J = some (v, I1, J1) ∧ zf_X12_ask N I1 J1 = some (v, I2, J2) ∧ zi n I2 J2 F := by
  have hn := h.1.1
  generalize hX : zh_F (I 54) (I 52 43) (I 52 44) n = X
  have e0 := zs_fitting hN h
  rw [hX] at e0
  by_cases z : X = 0
  · have a : zf_X11_ask N I J = some (-2, I, J) := by
      obtain ⟨M, rfl⟩ := zu_one N hN
      rw [zo_X11_ask]
      unfold zb_X11_ask_0
      exact zu_bd e0 (zu_gn (fun q => q z) rfl)
    have b : zf_X12_ask N I J = some (-2, zz_u I 52 7 0, J) := by
      obtain ⟨M, rfl⟩ := zu_one N hN
      rw [zo_X12_ask]
      unfold zb_X12_ask_0
      exact zu_bd ((zm_fitting (I := zz_u I 52 7 0) hN hn h.1.2.1).trans (congrArg (fun v => some (v, _, _)) hX)) (zu_gn (fun q => q z) rfl)
    exact ⟨_, _, _, _, _, a, b, zi_q0 h⟩
  · have lt : zh_m n (I 54) X 0 < 1000000 := by rw [← hX]; exact zh_m_lt hn _ _ 0
    have a : zf_X11_ask N I J = some ((zh_K (zh_m n (I 54) X) 6).1, zz_u I 2 3 1, zz_u J 4 0 (zh_K (zh_m n (I 54) X) 6).2.toInt64) := by
      obtain ⟨M, rfl⟩ := zu_one N hN
      rw [zo_X11_ask]
      unfold zb_X11_ask_0
      refine zu_bd e0 (zu_gd z (zu_bd (zs_left hN h.1 X 0) ?_))
      have := zs_ask_l hN h.1 (J := J) X 5 1 M (by omega) (by omega)
      rw [show (zh_K (zh_m n (I 54) X) 1) = (nI 0, zh_m n (I 54) X 0) from if_pos lt] at this
      exact this
    have b : ∀ (I' : Nat → Nat → Int32) (J : Nat → Nat → Int64), I' 52 1 = nI n → I' 54 = I 54 → zh_F (I' 54) (I' 52 43) (I' 52 44) n = X → zf_X12_ask N I' J = some ((zh_K (zh_m n (I 54) X) 6).1, zz_u (zz_u I' 52 7 0) 52 6 1, zz_u J 56 0 (zh_K (zh_m n (I 54) X) 6).2.toInt64) := by
      intro I' J h1 e54 hX'
      obtain ⟨M, rfl⟩ := zu_one N hN
      rw [zo_X12_ask]
      unfold zb_X12_ask_0
      refine zu_bd ((zm_fitting (I := zz_u I' 52 7 0) hN hn h1).trans (congrArg (fun v => some (v, _, _)) hX')) (zu_gd z ?_)
      rw [← e54]
      exact zm_ask_l (I := zz_u I' 52 7 0) hN hn h1 X 6 0 M (by omega) (by omega)
    exact ⟨_, _, _, _, _, a, b (zz_u I 2 3 1) _ h.1.2.1 rfl hX, zi_q1 h _⟩
