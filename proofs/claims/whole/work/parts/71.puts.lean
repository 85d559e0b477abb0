/-! PUTS, COUNT, UNDO, KEEP, AGAIN -/
theorem zu_neg {s : Nat} (hs : s < 32) : ∀ i, i < 32 → bt (-((1 : Int32) <<< (nI s &&& 31))) i = decide (s ≤ i) := by
  have : ∀ s, s < 32 → ∀ i, i < 32 → bt (-((1 : Int32) <<< (nI s &&& 31))) i = decide (s ≤ i) := by decide +kernel
  exact this s hs
/-- is a later one of its play played -/
def zh_later (n : Nat) (a f : Nat → Int32) (s : Nat) : Prop := ∃ o, s < o ∧ o < n ∧ f (7 * o) = f (7 * s) ∧ a o = 1
theorem zm_puts_l {N n : Nat} (hN : 100000 ≤ N) (hn : n ≤ 12) {I : Nat → Nat → Int32} {J : Nat → Nat → Int64} (h1 : I 52 1 = nI n) {s : Nat} (hs : s < n) (Q : Option (Int32 × (Nat → Nat → Int32) × (Nat → Nat → Int64)) → Prop) : ∀ k o f, o + k = n → k < f → s < o → (∀ o', s < o' → o' < o → ¬ (I 54 (7 * o') = I 54 (7 * s) ∧ I 53 o' = 1)) → (zh_later n (I 53) (I 54) s → Q (some (-3, I, J))) → (¬ zh_later n (I 53) (I 54) s → ∀ m, Q (zl_X12_puts N (m + 1) 32 (nI s) (nI n) I J)) → Q (zl_X12_puts N f 32 (nI s) (nI o) I J) := by
  intro k
  induction k with
  | zero =>
    intro o f ho hf hso hno h3 hR
    obtain ⟨m, rfl⟩ : ∃ m, f = m + 1 := ⟨f - 1, by omega⟩
    obtain rfl : o = n := by omega
    exact hR (fun ⟨o', p1, p2, p3, p4⟩ => hno o' p1 p2 ⟨p3, p4⟩) m
  | succ k ih =>
    intro o f ho hf hso hno h3 hR
    obtain ⟨m, rfl⟩ : ∃ m, f = m + 1 := ⟨f - 1, by omega⟩
    rw [zo_X12_puts_32]
    unfold zb_X12_puts_32
    rw [h1, if_neg (nI_ge (show o < n by omega) (by omega))]
    simp (disch := omega) only [nI_clamp, nI_leI, nI_ltI, nI_eq, nI_1, zu_gi, zu_lt0, zu_has, zu_b1, zu_b0, zu_bz, zu_play, zu_or0, zu_nle, false_or, or_false, Option.bind_some, if_true, if_false, ite_true, ite_false, not_true_eq_false, not_false_eq_true, decide_eq_true_eq, zu_f0, zu_f1, zu_f2, zu_f3, zu_f4, zu_f5, zu_f6, zu_cf0, zu_cf1, zu_cf2, zu_cf3, zu_cf4, zu_cf5, zu_cf6, zu_70, zu_71, zu_72, zu_73, zu_74, zu_75, zu_76]
    by_cases c : I 54 (7 * o) = I 54 (7 * s)
    · by_cases d : I 53 o = 1
      · simp only [c, d, not_true_eq_false, if_false]
        exact h3 ⟨o, hso, by omega, c, d⟩
      · simp only [c, d, not_true_eq_false, not_false_eq_true, if_false, if_true]
        refine ih (o + 1) m (by omega) (by omega) (by omega) (fun o' p1 p2 => ?_) h3 hR
        by_cases e : o' = o
        · subst e; exact fun w => d w.2
        · exact hno o' p1 (by omega)
    · simp only [c, not_false_eq_true, if_true]
      refine ih (o + 1) m (by omega) (by omega) (by omega) (fun o' p1 p2 => ?_) h3 hR
      by_cases e : o' = o
      · subst e; exact fun w => c w.1
      · exact hno o' p1 (by omega)
theorem zs_later {n : Nat} {I : Nat → Nat → Int32} {J : Nat → Nat → Int64} {F : zz_F} (h : zi n I J F) {s : Nat} (hs : s < n) (c : I 53 s = 2) : ((I 8 3 &&& zv_X9_scenesOf I (zz_f I (nI s) 0)) &&& (-((1 : Int32) <<< (nI s &&& 31))) = 0) ↔ ¬ zh_later n (I 53) (I 54) s := by
  have hn := h.1.1
  obtain ⟨⟨v, hv, e⟩, -⟩ := h.1.2.2.2.2.1 s hs
  have e : I 54 (7 * s) = nI v := e
  rw [zu_cf0 (by omega), h.1.2.2.2.1 _ (by omega), show I 54 (7 * s + 0) = nI v from e, zs_ofp h.1 _ (by omega), h.2.1.2.2.2.1]
  have bits : ∀ i, i < 32 → bt (zh_P n (I 54) (zu_set (fun s => decide (I 53 s = 1)) n) (nI v) &&& (-((1 : Int32) <<< (nI s &&& 31)))) i = (decide (i < n) && (decide (I 53 i = 1) && decide (I 54 (7 * i) = nI v)) && decide (s ≤ i)) := fun i hi => by
    rw [b_and, zu_neg (by omega) i hi]
    rcases Nat.lt_or_ge i n with q | q
    · rw [show bt (zh_P n (I 54) (zu_set (fun s => decide (I 53 s = 1)) n) (nI v)) i = _ from zu_set_at (by omega) q, zu_set_at (by omega) q]
      simp [q]
    · rw [show bt (zh_P n (I 54) (zu_set (fun s => decide (I 53 s = 1)) n) (nI v)) i = false from zu_set_out (by omega) q]
      simp [Nat.not_lt.mpr q]
  constructor
  · rintro z ⟨o, p1, p2, p3, p4⟩
    have := bits o (by omega)
    rw [z, b_0, p3, e, p4] at this
    simp [p2] at this
    omega
  · intro z
    apply b_ext
    intro i hi
    rw [bits i hi, b_0]
    by_cases q : i < n
    · by_cases a1 : I 53 i = 1
      · by_cases a2 : I 54 (7 * i) = nI v
        · by_cases a3 : s ≤ i
          · by_cases a4 : s = i
            · subst a4; rw [c] at a1; exact absurd a1 (by decide)
            · exact absurd ⟨i, by omega, q, by rw [a2, e], a1⟩ z
          · simp [a3]
        · simp [a2]
      · simp [a1]
    · simp [q]
theorem zy_puts {N n : Nat} (hN : 100000 ≤ N) {I : Nat → Nat → Int32} {J : Nat → Nat → Int64} {F : zz_F} (h : zi n I J F) (x : Int32) : ∃ v I1 J1 I2 J2, zf_X11_puts N x I J = some (v, I1, J1) ∧ zf_X12_puts N x I1 J1 = some (v, I2, J2) ∧ zi n I2 J2 F := by
  have hn := h.1.1
  obtain ⟨m, t, hm, ht, h5, h20, h4, hk⟩ := h.2.2.2.2.2.1
  obtain ⟨M, rfl⟩ := zu_one N hN
  rcases zu_scn h.1 x with ⟨q1, q2⟩ | ⟨s, hs, rfl, q1, q2⟩
  · have a : zf_X11_puts (M + 1) x I J = some (-1, I, J) := by
      rw [zo_X11_puts]
      exact zu_gn (fun w => w q1) rfl
    have b : zf_X12_puts (M + 1) x I J = some (-1, zz_u I 52 7 0, J) := by
      rw [zo_X12_puts]
      exact zu_gn (fun w => w (q2 _ rfl)) rfl
    exact ⟨_, _, _, _, _, a, b, zi_q0 h⟩
  · have hb : bt (I 8 4) s = decide (I 53 s = 2) := by
      rw [h.2.1.2.2.2.2.1]
      exact zu_set_at (by omega) hs
    have ha : ¬ zv_X9_has I (nI s) = 0 := by rw [q1]; decide
    have sc : ∀ X : Nat → Nat → Int32, X 52 1 = I 52 1 → ¬ zv_X12_isScene X (nI s) = 0 := fun X hX => by rw [q2 X hX]; decide
    by_cases c : I 53 s = 2
    · have c1' : ¬ (I 8 4 &&& ((1 : Int32) <<< (nI s &&& 31)) = 0) := by rw [zu_bz (by omega), hb]; simp [c]
      by_cases l : zh_later n (I 53) (I 54) s
      · have a : zf_X11_puts (M + 1) (nI s) I J = some (-3, I, J) := by
          rw [zo_X11_puts]
          exact zu_gd ha (zu_gd c1' (zu_gn (fun w => (zs_later h hs c).mp w l) rfl))
        have b : zf_X12_puts (M + 1) (nI s) I J = some (-3, zz_u I 52 7 0, J) := by
          rw [zo_X12_puts]
          unfold zb_X12_puts_0
          refine zu_gd (sc _ rfl) (zu_gd (nI_in (show s < 18 by omega) (by omega)) ?_)
          rw [nI_clamp (by omega), if_pos c, nI_1]
          exact zm_puts_l (N := M + 1) (I := zz_u I 52 7 0) (J := J) hN hn h.1.2.1 hs (fun r => r = some (-3, zz_u I 52 7 0, J)) (n - (s + 1)) (s + 1) M (by omega) (by omega) (by omega) (fun o p1 p2 => by omega) (fun _ => rfl) (fun w => absurd l w)
        exact ⟨_, _, _, _, _, a, b, zi_q0 h⟩
      · obtain ⟨C, ec, c1, c4, c5, c8⟩ := zs_push hN (I := I) (J := J) ht hm h4 h5
        have C8 : C 8 = I 8 := c1 8 (by omega) (by omega)
        have C52 : C 52 = I 52 := c1 52 (by omega) (by omega)
        have C53 : C 53 = I 53 := c1 53 (by omega) (by omega)
        have C54 : C 54 = I 54 := c1 54 (by omega) (by omega)
        have D8 : zz_backm C (nI s) 8 2 = zh_W n (zh_up (I 53) s 0) 0 := by
          show C 8 2 ||| ((1 : Int32) <<< (nI s &&& 31)) = _
          rw [C8, h.2.1.2.2.1]
          exact (zu_upS hn hs).symm
        have D84 : zz_backm C (nI s) 8 4 = zh_W n (zh_up (I 53) s 0) 2 := by
          show C 8 4 &&& (((1 : Int32) <<< (nI s &&& 31)) ^^^ (-1)) = _
          rw [C8, h.2.1.2.2.2.2.1]
          exact (zu_upD hn hs (by decide)).symm
        have sD : zi_sc n (zz_backm C (nI s)) := zc_sc h.1 (congrFun (c1 5 (by omega) (by omega)) 2) (c1 6 (by omega) (by omega)) (c1 7 (by omega) (by omega)) (congrFun C52 1) C54
        have a : zf_X11_puts (M + 1) (nI s) I J = some (zv_J6_bitCount (zh_P n (I 54) (zh_W n (zh_up (I 53) s 0) 0) (I 54 (7 * s))), zz_backm C (nI s), J) := by
          rw [zo_X11_puts]
          unfold zb_X11_puts_0
          refine zu_gd ha (zu_gd c1' (zu_gd ((zs_later h hs c).mpr l) (zu_bd ec ?_)))
          simp only [zs_beside sD hs, D8]
          rw [show zz_backm C (nI s) 54 = I 54 from C54]
        obtain ⟨R, er, r1, r61, r20, r52⟩ := zm_rem hN (I := zz_u (zz_backm C (nI s)) 52 7 0) (J := J) hm (show C 52 20 = nI m by rw [C52]; exact h20)
        have R53 : R 53 = I 53 := by rw [r1 53 (by omega) (by omega)]; exact C53
        have R54 : R 54 = I 54 := by rw [r1 54 (by omega) (by omega)]; exact C54
        have R521 : R 52 1 = nI n := by rw [r52 1 (by omega)]; show C 52 1 = _; rw [C52]; exact h.1.2.1
        have X521 : (zz_u (zz_backm C (nI s)) 52 7 0) 52 1 = nI n := by show C 52 1 = _; rw [C52]; exact h.1.2.1
        have X53 : (zz_u (zz_backm C (nI s)) 52 7 0) 53 = I 53 := C53
        have X54 : (zz_u (zz_backm C (nI s)) 52 7 0) 54 = I 54 := C54
        have b : zf_X12_puts (M + 1) (nI s) (zz_backm C (nI s)) J = some (zv_J6_bitCount (zh_P n (I 54) (zh_W n (zh_up (I 53) s 0) 0) (I 54 (7 * s))), zz_u R 53 s 0, J) := by
          rw [zo_X12_puts]
          unfold zb_X12_puts_0
          refine zu_gd (sc (zz_u (zz_backm C (nI s)) 52 7 0) (congrFun C52 1)) (zu_gd (nI_in (show s < 18 by omega) (by omega)) ?_)
          rw [nI_clamp (by omega)]
          refine zu_gd (show C 53 s = 2 by rw [C53]; exact c) ?_
          rw [nI_1]
          refine zm_puts_l (N := M + 1) (I := zz_u (zz_backm C (nI s)) 52 7 0) (J := J) hN hn X521 hs (fun r => r = some (zv_J6_bitCount (zh_P n (I 54) (zh_W n (zh_up (I 53) s 0) 0) (I 54 (7 * s))), zz_u R 53 s 0, J)) (n - (s + 1)) (s + 1) M (by omega) (by omega) (by omega) (fun o p1 p2 => by omega) (fun w => absurd (by rw [X53, X54] at w; exact w) l) (fun _ m' => ?_)
          rw [zo_X12_puts_32]
          unfold zb_X12_puts_32
          rw [X521, if_pos (nI_le (Nat.le_refl n) (by omega))]
          refine zu_bd er ?_
          rw [if_pos (nI_in (show s < 18 by omega) (by omega)), zu_70, if_pos (nI_in (show 7 * s + 0 < 84 by omega) (by omega)), nI_clamp (by omega)]
          refine zu_bd (zm_left hN hn (by exact R521) _) ?_
          simp only [zu_play (I := zz_u R 53 s 0) (s := s) (by omega)]
          rw [show zz_u R 53 s 0 54 = I 54 by rw [zu_ux (by omega), R54], zu_r53, R53]
        refine ⟨_, _, _, _, _, a, b, zi_step h ht hm hk c1 c4 c5 c8 (X := zz_u (zz_backm C (nI s)) 52 7 0) (fun a ha1 ha2 ha3 => by rw [zu_ux ha3]; unfold zz_backm; rw [zu_ux ha1, zu_ux ha1]) (fun i _ => rfl) (fun i hi => by rw [zz_un (fun w => hi w.2)]; rfl) r1 r61 r20 r52 (fun a ha1 ha2 _ => zu_ux ha1) (fun i _ => by rw [zu_ux (by omega)]) ?_ ?_ h.2.2.2.2.2.2.2.2⟩
        · rw [zu_r53, R53, zu_ux (by omega)]
          obtain ⟨a0, a1, a2, a3, a4, a5, a6, a7, a8, a9, a10⟩ := h.2.1
          have nd : ∀ i, 12 ≤ i → zh_up (I 53) s 0 i = I 53 i := fun i hi => if_neg (by omega)
          refine ⟨?_, ?_, D8, ?_, D84, ?_, ?_, ?_, ?_, fun i hi => ?_, ?_⟩
          · rw [nd 12 (by omega), ← a0, ← C8]; rfl
          · rw [nd 13 (by omega), ← a1, ← C8]; rfl
          · rw [zu_upN (by decide) (by rw [c]; decide), ← a3, ← C8]; rfl
          · rw [nd 14 (by omega), ← a5, ← C8]; rfl
          · rw [nd 15 (by omega), ← a6, ← C8]; rfl
          · rw [nd 16 (by omega), ← a7, ← C8]; rfl
          · rw [nd 17 (by omega), ← a8, ← C8]; rfl
          · unfold zh_up
            split
            · exact .inl rfl
            · exact a9 i hi
          · rw [nd 13 (by omega)]; exact a10
        · refine zc_tol h.2.2.2.1 ?_ ?_ rfl rfl
          · rw [zu_ux (by omega), r1 2 (by omega) (by omega)]
            exact congrFun (c1 2 (by omega) (by omega)) 3
          · rw [zu_ux (by omega), r52 6 (by omega)]
            exact congrFun C52 6
    · have c1' : (I 8 4 &&& ((1 : Int32) <<< (nI s &&& 31)) = 0) := by rw [zu_bz (by omega), hb]; simp [c]
      have a : zf_X11_puts (M + 1) (nI s) I J = some (-2, I, J) := by
        rw [zo_X11_puts]
        exact zu_gd ha (zu_gn (fun w => w c1') rfl)
      have b : zf_X12_puts (M + 1) (nI s) I J = some (-2, zz_u I 52 7 0, J) := by
        rw [zo_X12_puts]
        unfold zb_X12_puts_0
        refine zu_gd (sc _ rfl) (zu_gd (nI_in (show s < 18 by omega) (by omega)) ?_)
        rw [nI_clamp (by omega), if_neg c]
      exact ⟨_, _, _, _, _, a, b, zi_q0 h⟩
theorem zu_si {c : Prop} [Decidable c] (a b : Int32) (I : Nat → Nat → Int32) (J : Nat → Nat → Int64) : some (if c then a else b, I, J) = if c then some (a, I, J) else some (b, I, J) := by split <;> rfl
theorem zy_count {N n : Nat} (hN : 100000 ≤ N) {I : Nat → Nat → Int32} {J : Nat → Nat → Int64} {F : zz_F} (h : zi n I J F) (x : Int32) : ∃ v I1 J1 I2 J2, zf_X11_count N x I J = some (v, I1, J1) ∧ zf_X12_count N x I1 J1 = some (v, I2, J2) ∧ zi n I2 J2 F := by
  obtain ⟨M, rfl⟩ := zu_one N hN
  obtain ⟨L, rfl⟩ : ∃ L, M = L + 1 := ⟨M - 1, by omega⟩
  have hn := h.1.1
  obtain ⟨a0, a1, a2, a3, a4, a5, a6, a7, a8, a9, a10⟩ := h.2.1
  obtain ⟨t, ht, t1, t2⟩ := h.2.2.1.1
  obtain ⟨k, hk, k1, k2, -⟩ := h.2.2.2.1
  obtain ⟨m, -, hm, -, m5, m20, -, -⟩ := h.2.2.2.2.2.1
  have w : ∀ w : Int32, zf_X12_whereBits (L + 1 + 1) w (zz_u I 52 7 0) J = some (zh_W n (I 53) w, zz_u I 52 7 0, J) := fun w => zm_where (I := zz_u I 52 7 0) hN hn h.1.2.1 w
  refine ⟨if x = 0 then I 52 1 else if x = 1 then I 53 12 else if x = 2 then I 53 13 else if x = 3 then zh_W n (I 53) 0 else if x = 4 then zh_W n (I 53) 1 else if x = 5 then zh_W n (I 53) 2 else if x = 6 then I 53 16 + I 53 17 else if x = 7 then I 52 43 else if x = 8 then I 52 20 else if x = 9 then I 52 6 else if x = 10 then I 52 4 else -100, I, J, zz_u I 52 7 0, J, ?_, ?_, zi_q0 h⟩
  · rw [zo_X11_count]
    unfold zb_X11_count_0
    rw [h.1.2.2.1, a0, a1, a2, a3, a4, show zv_X5_cheersIn I 0 = I 53 16 from a7, show zv_X5_cheersIn I 1 = I 53 17 from a8, h.2.2.2.2.1.1, m5, k1, t1, h.1.2.1, m20, k2, t2]
    simp only [zu_si]
    rfl
  · rw [zo_X12_count]
    unfold zb_X12_count_0
    simp only [zo_X12_count_85, zb_X12_count_85, w, Option.bind_some]
    by_cases e3 : x = 3
    · subst e3; rfl
    · by_cases e4 : x = 4
      · subst e4; rfl
      · by_cases e5 : x = 5
        · subst e5; rfl
        · simp only [if_neg e3, if_neg e4, if_neg e5, zu_si]
