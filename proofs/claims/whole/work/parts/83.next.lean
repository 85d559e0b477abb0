/-! THE NEXT SCENE -/
def zu_fs (p : Nat → Bool) : Nat → Nat
  | 0 => 0
  | n + 1 => if zu_fs p n < n then zu_fs p n else if p n = true then n else n + 1
theorem zu_fs_le (p : Nat → Bool) : ∀ n, zu_fs p n ≤ n
  | 0 => Nat.le_refl 0
  | n + 1 => by
    have := zu_fs_le p n
    unfold zu_fs
    split
    · omega
    · split <;> omega
theorem zu_fs_no {p : Nat → Bool} : ∀ {n k : Nat}, k < zu_fs p n → p k = false
  | 0, k, h => absurd h (Nat.not_lt_zero k)
  | n + 1, k, h => by
    unfold zu_fs at h
    split at h
    · exact zu_fs_no h
    · next c =>
      have le := zu_fs_le p n
      split at h
      · exact zu_fs_no (n := n) (by omega)
      · next d =>
        rcases Nat.lt_or_ge k n with q | q
        · exact zu_fs_no (n := n) (by omega)
        · have : k = n := by omega
          subst this
          exact Bool.eq_false_iff.mpr d
theorem zu_fs_yes {p : Nat → Bool} : ∀ {n : Nat}, zu_fs p n < n → p (zu_fs p n) = true
  | 0, h => absurd h (Nat.not_lt_zero _)
  | n + 1, h => by
    unfold zu_fs at h ⊢
    split at h
    · next c =>
      rw [if_pos c]
      exact zu_fs_yes c
    · next c =>
      rw [if_neg c]
      split at h
      · next d => rw [if_pos d]; exact d
      · omega
theorem zu_fs_one {p : Nat → Bool} {n k : Nat} (hk : k < n) (hp : p k = true) (hn : ∀ j, j < k → p j = false) : zu_fs p n = k := by
  have le := zu_fs_le p n
  rcases Nat.lt_or_ge (zu_fs p n) k with q | q
  · have := zu_fs_yes (p := p) (n := n) (by omega)
    rw [hn _ q] at this
    cases this
  · rcases Nat.lt_or_ge k (zu_fs p n) with w | w
    · have := zu_fs_no w
      rw [hp] at this
      cases this
    · omega
def zh_nx (n : Nat) (a f : Nat → Int32) (p : Nat) : Int32 := if zu_fs (fun s => decide (a s = 0) && decide (f (7 * s) = nI p)) n < n then nI (zu_fs (fun s => decide (a s = 0) && decide (f (7 * s) = nI p)) n) else -1
/-- the lowest bit -/
def zh_tz (x : Int32) : Int32 := ((zb_J6_numberOfTrailingZeros_0 1 (fun _ _ _ _ => none) x (fun _ _ => 0) (fun _ _ => 0)).map (fun r => r.1)).getD 0
theorem zh_tzd : (List.range 4096).all (fun m => m == 0 || (zh_tz (nI m) == nI (zu_fs (fun i => bt (nI m) i) 12))) = true := by decide +kernel
theorem zh_tzN {m : Nat} (h : m < 4096) (h0 : m ≠ 0) : zh_tz (nI m) = nI (zu_fs (fun i => bt (nI m) i) 12) := by
  have := List.all_eq_true.mp zh_tzd m (List.mem_range.mpr h)
  rw [Bool.or_eq_true] at this
  rcases this with w | w
  · exact absurd (eq_of_beq w) h0
  · exact eq_of_beq w
theorem zb_tz (N : Nat) (rec : Nat → Int32 → (Nat → Nat → Int32) → (Nat → Nat → Int64) → Option (Int32 × (Nat → Nat → Int32) × (Nat → Nat → Int64))) (x : Int32) (I : Nat → Nat → Int32) (J : Nat → Nat → Int64) : zb_J6_numberOfTrailingZeros_0 N rec x I J = some (zh_tz x, I, J) := by
  unfold zh_tz zb_J6_numberOfTrailingZeros_0
  repeat' split
  all_goals rfl
theorem zs_next {N n : Nat} (hN : 100000 ≤ N) {I : Nat → Nat → Int32} {J : Nat → Nat → Int64} {F : zz_F} (h : zi n I J F) {p : Nat} (hp : p ≤ 1) : zf_X11_nextOf N (nI p) I J = some (zh_nx n (I 53) (I 54) p, I, J) := by
  have hn := h.1.1
  obtain ⟨M, rfl⟩ := zu_one N hN
  have hW : I 8 2 = zh_W n (I 53) 0 := h.2.1.2.2.1
  rw [zo_X11_nextOf]
  unfold zb_X11_nextOf_0
  have eset : zh_W n (I 53) 0 &&& zv_X9_scenesOf I (nI p) = zu_set (fun s => decide (I 53 s = 0) && decide (I 54 (7 * s) = nI p)) n := by
    rw [zs_ofp h.1 _ hp]
    exact zu_set_cong fun i hi => by rw [show bt (zh_W n (I 53) 0) i = _ from zu_set_at (by omega) hi]
  rw [hW, eset]
  unfold zh_nx
  generalize hP : (fun s => decide (I 53 s = 0) && decide (I 54 (7 * s) = nI p)) = P
  by_cases z : zu_set P n = 0
  · rw [if_neg (fun w => w z)]
    have al := (zu_set_zero (show n ≤ 32 by omega)).mp z
    rw [if_neg (fun w => by
      have := zu_fs_yes w
      rw [al _ w] at this
      cases this)]
  · rw [if_pos z]
    have e : zf_J6_numberOfTrailingZeros (M + 1) (zu_set P n) I J = some (zh_tz (zu_set P n), I, J) := by
      rw [zo_J6_numberOfTrailingZeros]
      exact zb_tz _ _ _ _ _
    refine zu_bd e ?_
    obtain ⟨k1, k2⟩ := zu_nat (x := zu_set P n) (fun i h1 h2 => zu_set_out (by omega) (by omega))
    have tz := zh_tzN k1 (fun w => z (by rw [k2, w]; rfl))
    rw [← k2] at tz
    have lt : zu_fs P n < n := by
      have le := zu_fs_le P n
      rcases Nat.lt_or_ge (zu_fs P n) n with q | q
      · exact q
      · exfalso
        apply z
        exact (zu_set_zero (by omega)).mpr (fun i hi => zu_fs_no (n := n) (by omega))
    have fe : zu_fs (fun i => bt (zu_set P n) i) 12 = zu_fs P n := zu_fs_one (by omega) (by rw [zu_set_at (by omega) lt]; exact zu_fs_yes lt) (fun j hj => by rw [zu_set_at (by omega) (by omega)]; exact zu_fs_no hj)
    rw [if_pos lt, tz, fe]
theorem zm_next_l {N n : Nat} (hN : 100000 ≤ N) (hn : n ≤ 12) {I : Nat → Nat → Int32} {J : Nat → Nat → Int64} (h1 : I 52 1 = nI n) {p : Nat} : ∀ k s u, s + k = n → k < u → (∀ j, j < s → (decide (I 53 j = 0) && decide (I 54 (7 * j) = nI p)) = false) → zl_X12_nextOf__53 N u 2 (nI p) (nI s) I J = some (zh_nx n (I 53) (I 54) p, I, J) := by
  intro k
  induction k with
  | zero =>
    intro s u hs hu hj
    obtain ⟨m, rfl⟩ : ∃ m, u = m + 1 := ⟨u - 1, by omega⟩
    obtain rfl : s = n := by omega
    rw [zo_X12_nextOf__53_2]
    unfold zb_X12_nextOf__53_2
    rw [h1, if_pos (nI_le (Nat.le_refl s) (by omega))]
    unfold zh_nx
    rw [if_neg (fun w => by
      have := zu_fs_yes w
      rw [hj _ w] at this
      cases this)]
  | succ k ih =>
    intro s u hs hu hj
    obtain ⟨m, rfl⟩ : ∃ m, u = m + 1 := ⟨u - 1, by omega⟩
    rw [zo_X12_nextOf__53_2]
    unfold zb_X12_nextOf__53_2
    rw [h1, if_neg (nI_ge (show s < n by omega) (by omega))]
    simp (disch := omega) only [nI_clamp, nI_leI, nI_ltI, nI_eq, nI_1, zu_gi, zu_lt0, zu_has, zu_b1, zu_b0, zu_bz, zu_play, zu_or0, zu_nle, false_or, or_false, Option.bind_some, if_true, if_false, ite_true, ite_false, not_true_eq_false, not_false_eq_true, decide_eq_true_eq, zu_f0, zu_f1, zu_f2, zu_f3, zu_f4, zu_f5, zu_f6, zu_cf0, zu_cf1, zu_cf2, zu_cf3, zu_cf4, zu_cf5, zu_cf6, zu_70, zu_71, zu_72, zu_73, zu_74, zu_75, zu_76]
    by_cases c : I 53 s = 0
    · by_cases d : I 54 (7 * s) = nI p
      · simp only [c, d, not_true_eq_false, if_false]
        unfold zh_nx
        rw [zu_fs_one (p := fun s => decide (I 53 s = 0) && decide (I 54 (7 * s) = nI p)) (show s < n by omega) (by simp [c, d]) hj, if_pos (by omega)]
      · simp only [c, d, not_true_eq_false, not_false_eq_true, if_false, if_true]
        exact ih (s + 1) m (by omega) (by omega) (fun j hjs => by
          by_cases e : j = s
          · subst e; simp [d]
          · exact hj j (by omega))
    · simp only [c, not_false_eq_true, if_true]
      exact ih (s + 1) m (by omega) (by omega) (fun j hjs => by
        by_cases e : j = s
        · subst e; simp [c]
        · exact hj j (by omega))
theorem zm_next {N n : Nat} (hN : 100000 ≤ N) (hn : n ≤ 12) {I : Nat → Nat → Int32} {J : Nat → Nat → Int64} (h1 : I 52 1 = nI n) (p : Nat) : zf_X12_nextOf__53 N (nI p) I J = some (zh_nx n (I 53) (I 54) p, I, J) := by
  obtain ⟨M, rfl⟩ := zu_one N hN
  rw [zo_X12_nextOf__53]
  exact zm_next_l hN hn h1 n 0 M (by omega) (by omega) (fun j hj => by omega)
/-- what comes next is to come, and of its play -/
theorem zh_nx_ok (n : Nat) (a f : Nat → Int32) (p : Nat) : zh_nx n a f p = -1 ∨ ∃ s, s < n ∧ zh_nx n a f p = nI s ∧ a s = 0 ∧ f (7 * s) = nI p := by
  unfold zh_nx
  by_cases c : zu_fs (fun s => decide (a s = 0) && decide (f (7 * s) = nI p)) n < n
  · rw [if_pos c]
    have := zu_fs_yes c
    simp at this
    exact .inr ⟨_, c, rfl, this.1, this.2⟩
  · rw [if_neg c]
    exact .inl rfl
