/-! SCENES -/
theorem zn_ls_ok {m n len : Nat} (hm : m ≤ 90) {t : Nat → Int32} : ∀ f k a l, n + k ≤ 12 → a ≤ m → zn_ls (zq_h m t) n len f k a = .inr l → (∀ fl, fl ∈ l → zi_fd fl) ∧ 1 ≤ l.length ∧ n + k + l.length ≤ 12 := by
  intro f
  induction f with
  | zero => intro k a l _ _ h; cases h
  | succ f ih =>
    intro k a l hk ha h
    unfold zn_ls at h
    by_cases k12 : n + k = 12
    · rw [if_pos k12] at h; cases h
    · rw [if_neg k12] at h
      generalize hr : zn_p0 (zq_h m t) a = r at h
      cases r with
      | inl x => cases h
      | inr pr =>
        obtain ⟨fl, b⟩ := pr
        obtain ⟨fd, bm⟩ := zn_d0 hm ha hr
        dsimp only at h
        by_cases c : zq_h m t b = 59
        · rw [if_pos c] at h
          have bl := zq_hlt (k := 59) (by omega) c
          generalize hr2 : zn_ls (zq_h m t) n len f (k + 1) (b + 1) = r2 at h
          cases r2 with
          | inl x => cases h
          | inr l2 =>
            obtain ⟨g1, g2, g3⟩ := ih (k + 1) (b + 1) l2 (by omega) (by omega) hr2
            have : l = fl :: l2 := (Sum.inr.inj h).symm
            subst this
            refine ⟨fun f hf => ?_, by simp only [List.length_cons]; omega, by simp only [List.length_cons]; omega⟩
            rcases List.mem_cons.mp hf with e | e
            · subst e; exact fd
            · exact g1 f e
        · rw [if_neg c] at h
          by_cases bl : b < len
          · rw [if_pos bl] at h; cases h
          · rw [if_neg bl] at h
            have : l = [fl] := (Sum.inr.inj h).symm
            subst this
            exact ⟨fun f hf => by rw [List.mem_singleton.mp hf]; exact fd, Nat.le_refl 1, by simp only [List.length_singleton]; omega⟩
def zn_ss (G : Nat → Int32) (v : Int32) (k : Nat) : Int32 := zu_set (fun s => decide (G (7 * s) = v)) k
theorem zn_grow_l {N n K : Nat} (hK : n + K ≤ 12) {J : Nat → Nat → Int64} {G : Nat → Int32} (hG : ∀ s, s < n + K → ∃ v, v < 2 ∧ G (7 * s) = nI v) : ∀ k i u (X : Nat → Nat → Int32), i + k = K → k < u → X 6 = G → X 5 2 = nI (n + i) → X 7 0 = zn_ss G 0 (n + i) → X 7 1 = zn_ss G 1 (n + i) → ∃ X', zl_X9_grow N u 4 (nI K) (zu_set (fun s => decide (n ≤ s)) (n + i)) (nI i) X J = some (zu_set (fun s => decide (n ≤ s)) (n + K), X', J) ∧ (∀ x, x ≠ 5 → x ≠ 7 → X' x = X x) ∧ X' 5 2 = nI (n + K) ∧ X' 7 0 = zn_ss G 0 (n + K) ∧ X' 7 1 = zn_ss G 1 (n + K) := by
  intro k
  induction k with
  | zero =>
    intro i u X hi hu h6 h5 h70 h71
    obtain ⟨w, rfl⟩ : ∃ w, u = w + 1 := ⟨u - 1, by omega⟩
    obtain rfl : i = K := by omega
    refine ⟨X, ?_, fun _ _ _ => rfl, h5, h70, h71⟩
    rw [zo_X9_grow_4]
    unfold zb_X9_grow_4
    rw [if_pos (nI_le (Nat.le_refl i) (by omega))]
  | succ k ih =>
    intro i u X hi hu h6 h5 h70 h71
    obtain ⟨w, rfl⟩ : ∃ w, u = w + 1 := ⟨u - 1, by omega⟩
    rw [zo_X9_grow_4]
    unfold zb_X9_grow_4
    have f0 : zz_f X (nI (n + i)) 0 = G (7 * (n + i)) := by
      rw [zu_cf0 (by omega), h6]; rfl
    have us : zu_set (fun s => decide (n ≤ s)) (n + i) ||| ((1 : Int32) <<< (nI (n + i) &&& 31)) = zu_set (fun s => decide (n ≤ s)) (n + (i + 1)) := by
      rw [show n + (i + 1) = (n + i) + 1 by omega]
      show _ = if decide (n ≤ n + i) = true then _ else _
      rw [if_pos (decide_eq_true (by omega))]
    rw [if_neg (nI_ge (show i < K by omega) (by omega)), h5, if_neg (show ¬ (12 : Int32) ≤ nI (n + i) from nI_ge (b := 12) (by omega) (by omega)), f0, us, nI_1, nI_1]
    obtain ⟨v, hv, ev⟩ := hG (n + i) (by omega)
    have s0 : ∀ x : Int32, zn_ss G x (n + i + 1) = if G (7 * (n + i)) = x then zn_ss G x (n + i) ||| ((1 : Int32) <<< (nI (n + i) &&& 31)) else zn_ss G x (n + i) := fun x => by
      unfold zn_ss
      show (if decide (G (7 * (n + i)) = x) = true then _ else _) = _
      by_cases q : G (7 * (n + i)) = x
      · rw [if_pos (decide_eq_true q), if_pos q]
      · rw [if_neg (by simp [q]), if_neg q]
    rcases (by omega : v = 0 ∨ v = 1) with rfl | rfl
    · rw [ev, if_pos (show ¬ nI 0 = 1 by decide)]
      obtain ⟨X', g1, g2, g3, g4, g5⟩ := ih (i + 1) w (zz_u (zz_u X 7 0 (X 7 0 ||| (1 : Int32) <<< (nI (n + i) &&& 31))) 5 2 (nI (n + i + 1))) (by omega) (by omega) (by rw [zu_ux (by omega), zu_ux (by omega)]; exact h6) (zz_us _ _ _ _) (by
        rw [zu_ux (by omega), zz_us, h70, show n + (i + 1) = n + i + 1 by omega, s0, ev, if_pos (show nI 0 = 0 from rfl)]) (by
        rw [zu_ux (by omega), zz_un (by omega), h71, show n + (i + 1) = n + i + 1 by omega, s0, ev, if_neg (show ¬ nI 0 = 1 by decide)])
      exact ⟨X', g1, fun x x1 x2 => by rw [g2 x x1 x2, zu_ux x1, zu_ux x2], g3, g4, g5⟩
    · rw [ev, if_neg (fun q => q (show nI 1 = 1 from rfl))]
      obtain ⟨X', g1, g2, g3, g4, g5⟩ := ih (i + 1) w (zz_u (zz_u X 7 1 (X 7 1 ||| (1 : Int32) <<< (nI (n + i) &&& 31))) 5 2 (nI (n + i + 1))) (by omega) (by omega) (by rw [zu_ux (by omega), zu_ux (by omega)]; exact h6) (zz_us _ _ _ _) (by
        rw [zu_ux (by omega), zz_un (by omega), h70, show n + (i + 1) = n + i + 1 by omega, s0, ev, if_neg (show ¬ nI 1 = 0 by decide)]) (by
        rw [zu_ux (by omega), zz_us, h71, show n + (i + 1) = n + i + 1 by omega, s0, ev, if_pos (show nI 1 = 1 from rfl)])
      exact ⟨X', g1, fun x x1 x2 => by rw [g2 x x1 x2, zu_ux x1, zu_ux x2], g3, g4, g5⟩
theorem zn_clear {N : Nat} (hN : 100000 ≤ N) {X : Nat → Nat → Int32} {J : Nat → Nat → Int64} : zf_X6_clearShelves N X J = some (0, zz_u (zz_u X 12 0 0) 12 1 0, J) := by
  obtain ⟨M, rfl⟩ : ∃ M, N = M + 1 + 1 + 1 + 1 := ⟨N - 4, by omega⟩
  have nb : vp_nar .boolean 0 = 0 := by decide
  rw [zo_X6_clearShelves]
  unfold zb_X6_clearShelves_0
  rw [zo_X6_clearShelves_2]
  unfold zb_X6_clearShelves_2
  rw [nb, if_neg (by decide), if_pos (by decide), zo_X6_clearShelves_2]
  unfold zb_X6_clearShelves_2
  rw [nb, if_neg (by decide), if_pos (by decide), zo_X6_clearShelves_2]
  unfold zb_X6_clearShelves_2
  rw [if_pos (by decide)]
  rfl
theorem zn_94 {N n K : Nat} (hK : n + K ≤ 12) {J : Nat → Nat → Int64} {F : zz_F} : ∀ k i u (Y : Nat → Nat → Int32), i + k = 7 * K → k + 100 < u → Y 52 1 = nI n → (∀ j, j < i → Y 54 (7 * n + j) = Y 57 j) → ∃ Y' u', 90 < u' ∧ zl_X12_scenes N u 94 (nI K) 0 (nI i) Y J F = zl_X12_scenes N u' 130 (nI K) 0 0 Y' J F ∧ (∀ x, x ≠ 54 → Y' x = Y x) ∧ (∀ j, j < 7 * n → Y' 54 j = Y 54 j) ∧ ∀ j, j < 7 * K → Y' 54 (7 * n + j) = Y 57 j := by
  intro k
  induction k with
  | zero =>
    intro i u Y hi hu h1 hj
    obtain ⟨w, rfl⟩ : ∃ w, u = w + 1 := ⟨u - 1, by omega⟩
    obtain rfl : i = 7 * K := by omega
    refine ⟨Y, w, by omega, ?_, fun _ _ => rfl, fun _ _ => rfl, hj⟩
    rw [zo_X12_scenes_94]
    unfold zb_X12_scenes_94
    rw [show (7 : Int32) * nI K = nI (7 * K) from pk_mul 7 K, if_pos (nI_le (Nat.le_refl _) (by omega))]
  | succ k ih =>
    intro i u Y hi hu h1 hj
    obtain ⟨w, rfl⟩ : ∃ w, u = w + 1 := ⟨u - 1, by omega⟩
    rw [zo_X12_scenes_94]
    unfold zb_X12_scenes_94
    rw [show (7 : Int32) * nI K = nI (7 * K) from pk_mul 7 K, if_neg (nI_ge (show i < 7 * K by omega) (by omega)), if_pos (nI_in (show i < 84 by omega) (by omega)), h1, show (7 : Int32) * nI n = nI (7 * n) from pk_mul 7 n, nI_add, if_pos (nI_in (show 7 * n + i < 84 by omega) (by omega)), nI_clamp (by omega), nI_clamp (by omega), nI_1]
    obtain ⟨Y', u', g0, g1, g2, g3, g4⟩ := ih (i + 1) w (zz_u Y 54 (7 * n + i) (Y 57 i)) (by omega) (by omega) (by rw [zu_ux (by omega)]; exact h1) (fun j hj2 => by
      rw [zu_ux (show 57 ≠ 54 by omega)]
      by_cases q : j = i
      · rw [q, zz_us]
      · rw [zz_un (by omega)]; exact hj j (by omega))
    exact ⟨Y', u', g0, g1, fun x hx => (g2 x hx).trans (zu_ux hx), fun j hj => (g3 j hj).trans (zz_un (by omega)), fun j hj => (g4 j hj).trans (by rw [zu_ux (by omega)])⟩
theorem zn_130 {N n K : Nat} (hK : n + K ≤ 12) {J : Nat → Nat → Int64} {F : zz_F} : ∀ k i u (Y : Nat → Nat → Int32), i + k = K → k < u → Y 52 1 = nI (n + i) → (∀ s, n ≤ s → s < n + i → Y 53 s = 0) → ∃ Y', zl_X12_scenes N u 130 (nI K) 0 (nI i) Y J F = some (nI K, zz_u (zz_u Y' 52 20 0) 52 45 (Y' 52 45 + 1), J, F) ∧ (∀ x, x ≠ 52 → x ≠ 53 → Y' x = Y x) ∧ (∀ j, j ≠ 1 → Y' 52 j = Y 52 j) ∧ Y' 52 1 = nI (n + K) ∧ (∀ s, s < n ∨ n + K ≤ s → Y' 53 s = Y 53 s) ∧ ∀ s, n ≤ s → s < n + K → Y' 53 s = 0 := by
  intro k
  induction k with
  | zero =>
    intro i u Y hi hu h1 hj
    obtain ⟨w, rfl⟩ : ∃ w, u = w + 1 := ⟨u - 1, by omega⟩
    obtain rfl : i = K := by omega
    refine ⟨Y, ?_, fun _ _ _ => rfl, fun _ _ => rfl, h1, fun _ _ => rfl, hj⟩
    rw [zo_X12_scenes_130]
    unfold zb_X12_scenes_130
    rw [if_pos (nI_le (Nat.le_refl _) (by omega))]
  | succ k ih =>
    intro i u Y hi hu h1 hj
    obtain ⟨w, rfl⟩ : ∃ w, u = w + 1 := ⟨u - 1, by omega⟩
    rw [zo_X12_scenes_130]
    unfold zb_X12_scenes_130
    rw [if_neg (nI_ge (show i < K by omega) (by omega)), h1, if_pos (nI_in (show n + i < 18 by omega) (by omega)), nI_clamp (by omega), nI_1, nI_1]
    obtain ⟨Y', g1, g2, g3, g4, g5, g6⟩ := ih (i + 1) w (zz_u (zz_u Y 53 (n + i) 0) 52 1 (nI (n + i + 1))) (by omega) (by omega) (zz_us _ _ _ _) (fun s s1 s2 => by
      rw [zu_ux (by omega)]
      by_cases q : s = n + i
      · rw [q, zz_us]
      · rw [zz_un (by omega)]; exact hj s s1 (by omega))
    refine ⟨Y', g1, fun x x1 x2 => by rw [g2 x x1 x2, zu_ux x1, zu_ux x2], fun j hj => by rw [g3 j hj, zz_un (fun w => hj w.2), zu_ux (by omega)], g4, fun s hs => ?_, g6⟩
    rw [g5 s hs, zu_ux (by omega), zz_un (by omega)]
theorem zi_fd_c {f g : Nat → Int32} (h : zi_fd f) (e : ∀ w, w < 7 → g w = f w) : zi_fd g := by
  unfold zi_fd at h ⊢
  rw [e 0 (by omega), e 1 (by omega), e 2 (by omega), e 3 (by omega), e 4 (by omega), e 5 (by omega), e 6 (by omega)]
  exact h
