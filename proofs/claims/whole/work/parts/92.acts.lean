/-! THE ACTS OF AN EVENING -/
def zh_cons (x : Int32 × Int32) (r : Nat ⊕ List (Int32 × Int32)) : Nat ⊕ List (Int32 × Int32) := match r with
  | .inl p => .inl p
  | .inr l => .inr (x :: l)
/-- acts from a place on, or a fault's place -/
def zh_er (c : Nat → Int32) (len : Nat) : Nat → Nat → Nat ⊕ List (Int32 × Int32)
  | 0, _ => .inr []
  | f + 1, a => if len ≤ a then .inr [] else if c a = 48 ∨ c a = 49 then zh_cons (c a, 0) (zh_er c len f (a + 1)) else if c a = 120 then (if 97 ≤ c (a + 1) ∧ c (a + 1) ≤ 108 then zh_cons (120, c (a + 1) - 97) (zh_er c len f (a + 2)) else .inl (a + 1)) else if c a = 119 then (if 48 ≤ c (a + 1) ∧ c (a + 1) ≤ 57 then zh_cons (119, c (a + 1) - 48) (zh_er c len f (a + 2)) else .inl (a + 1)) else .inl a
def zh_ev (r : Nat ⊕ List (Int32 × Int32)) : Int32 := match r with
  | .inl p => nI p
  | .inr _ => -1
theorem zh_ev_c (x : Int32 × Int32) (r : Nat ⊕ List (Int32 × Int32)) : zh_ev (zh_cons x r) = zh_ev r := by
  cases r <;> rfl
/-- the class's end of reading -/
theorem zs_er_e {N u : Nat} {X : Nat → Nat → Int32} {J : Nat → Nat → Int64} {len m : Nat} (hl : len ≤ 80) (hm : m = min len 60) : zl_X7_faultIn_X0__3 N (u + 1) 19 (nI len) 60 (nI m) (nI m) X J = some (if X 40 0 = 0 ∧ len ≤ 60 then -1 else nI m, X, J) := by
  rw [zo_X7_faultIn_X0__3_19]
  unfold zb_X7_faultIn_X0__3_19
  rw [if_pos (nI_le (Nat.le_refl m) (by omega))]
  by_cases q : len ≤ 60
  · rw [if_pos (show nI len ≤ 60 from nI_le (b := 60) q (by omega))]
    unfold zv_X0_mayEnd
    by_cases z : X 40 0 = 0
    · rw [show (if ¬ X 40 0 = 0 then (0 : Int32) else 1) = 1 from if_neg (fun w => w z), if_neg (show ¬ (1 : Int32) = 0 by decide), if_pos ⟨z, q⟩]
    · rw [show (if ¬ X 40 0 = 0 then (0 : Int32) else 1) = 0 from if_pos z, if_pos rfl, if_neg (fun w => z w.1)]
  · rw [if_neg (show ¬ nI len ≤ 60 from nI_ge (a := 60) (by omega) (by omega)), if_neg (fun w => q w.2), show m = 60 by omega]
    rfl
theorem zs_er {N : Nat} {I : Nat → Nat → Int32} {J : Nat → Nat → Int64} {len m : Nat} (hl : len ≤ 80) (hm : m = min len 60) {t : Nat → Int32} (ht : ∀ k, k < 80 → I 3 k = t k &&& 255) : ∀ f a u (X : Nat → Nat → Int32), a ≤ m → len ≤ a + f → 2 * f + 2 < u → (∀ x, x ≠ 40 → X x = I x) → X 40 0 = 0 → ∃ X', zl_X7_faultIn_X0__3 N u 19 (nI len) 60 (nI m) (nI a) X J = some (zh_ev (zh_er (zq_h m t) len f a), X', J) ∧ ∀ x, x ≠ 40 → X' x = I x := by
  have fin : ∀ f a u (X : Nat → Nat → Int32), a = m → len ≤ a + f → (∀ x, x ≠ 40 → X x = I x) → X 40 0 = 0 → ∃ X', zl_X7_faultIn_X0__3 N (u + 1) 19 (nI len) 60 (nI m) (nI a) X J = some (zh_ev (zh_er (zq_h m t) len f a), X', J) ∧ ∀ x, x ≠ 40 → X' x = I x := by
    intro f a u X ha hf hX h0
    subst ha
    refine ⟨X, ?_, hX⟩
    rw [zs_er_e hl hm]
    by_cases q : len ≤ 60
    · rw [if_pos ⟨h0, q⟩]
      cases f with
      | zero => rfl
      | succ f =>
        unfold zh_er
        rw [if_pos (by omega)]
        rfl
    · rw [if_neg (fun w => q w.2)]
      cases f with
      | zero => omega
      | succ f =>
        unfold zh_er
        have e : zq_h a t a = -1 := if_neg (by omega)
        rw [if_neg (by omega), e, if_neg (by decide), if_neg (by decide), if_neg (by decide)]
        rfl
  intro f
  induction f with
  | zero =>
    intro a u X ha hf hu hX h0
    obtain ⟨w, rfl⟩ : ∃ w, u = w + 1 := ⟨u - 1, by omega⟩
    exact fin 0 a w X (by omega) hf hX h0
  | succ f ih =>
    intro a u X ha hf hu hX h0
    obtain ⟨w, rfl⟩ : ∃ w, u = w + 3 := ⟨u - 3, by omega⟩
    by_cases am : a = m
    · exact fin (f + 1) a (w + 2) X am hf hX h0
    have al : a < m := by omega
    have c3 : X 3 a = zq_h m t a := by
      rw [hX 3 (by omega), ht a (by omega)]
      exact (if_pos al).symm
    rw [zo_X7_faultIn_X0__3_19]
    unfold zb_X7_faultIn_X0__3_19
    rw [if_neg (nI_ge al (by omega)), if_pos (nI_in (show a < 80 by omega) (by omega)), nI_clamp (by omega), c3, nI_1]
    unfold zh_er
    rw [if_neg (show ¬ len ≤ a by omega)]
    generalize hc : zq_h m t a = c
    -- the second sign
    have two : ∀ (k : Int32) (X2 : Nat → Nat → Int32) (lo hi : Int32) (v : Int32 × Int32), (∀ x, x ≠ 40 → X2 x = I x) → ¬ X2 40 0 = 0 → (∀ s, zv_X0_takes X2 s = if lo ≤ s ∧ s ≤ hi then 1 else 0) → (∀ s, zw_X0_takes X2 s = zz_u X2 40 0 0) → ¬ (lo ≤ -1 ∧ (-1 : Int32) ≤ hi) → ∃ X', zl_X7_faultIn_X0__3 N (w + 2) 19 (nI len) 60 (nI m) (nI (a + 1)) X2 J = some (zh_ev (if lo ≤ zq_h m t (a + 1) ∧ zq_h m t (a + 1) ≤ hi then zh_cons v (zh_er (zq_h m t) len f (a + 2)) else .inl (a + 1)), X', J) ∧ ∀ x, x ≠ 40 → X' x = I x := by
      intro k X2 lo hi v hX2 n0 hv hw nm
      by_cases a1 : a + 1 = m
      · rw [a1]
        refine ⟨X2, ?_, hX2⟩
        rw [zs_er_e hl hm, if_neg (fun w => n0 w.1), show zq_h m t m = -1 from if_neg (by omega), if_neg nm]
        rfl
      · have c4 : X2 3 (a + 1) = zq_h m t (a + 1) := by
          rw [hX2 3 (by omega), ht (a + 1) (by omega)]
          exact (if_pos (by omega)).symm
        rw [zo_X7_faultIn_X0__3_19]
        unfold zb_X7_faultIn_X0__3_19
        rw [if_neg (nI_ge (show a + 1 < m by omega) (by omega)), if_pos (nI_in (show a + 1 < 80 by omega) (by omega)), nI_clamp (by omega), c4, nI_1, hv, hw]
        by_cases q : lo ≤ zq_h m t (a + 1) ∧ zq_h m t (a + 1) ≤ hi
        · rw [if_pos q, if_pos q, if_pos (show ¬ (1 : Int32) = 0 by decide), zh_ev_c]
          exact ih (a + 2) (w + 1) _ (by omega) (by omega) (by omega) (fun x hx => by rw [zu_ux hx]; exact hX2 x hx) (zz_us _ _ _ _)
        · rw [if_neg q, if_neg q, if_neg (fun w => w rfl)]
          exact ⟨_, rfl, fun x hx => by rw [zu_ux hx]; exact hX2 x hx⟩
    have n1 : ¬ X 40 0 = 120 := by rw [h0]; decide
    have n2 : ¬ X 40 0 = 119 := by rw [h0]; decide
    have tv : zv_X0_takes X c = if c = 120 then 1 else if ¬ c = 119 then (if c = 48 then 1 else if ¬ c = 49 then 0 else 1) else 1 := by
      unfold zv_X0_takes
      rw [if_pos n1, if_pos n2]
    have tw : zw_X0_takes X c = if c = 120 then zz_u X 40 0 c else if ¬ c = 119 then X else zz_u X 40 0 c := by
      unfold zw_X0_takes
      rw [if_pos n1, if_pos n2]
    rw [tv, tw]
    by_cases e1 : c = 48 ∨ c = 49
    · have d1 : ¬ c = 120 := by rcases e1 with e | e <;> subst e <;> decide
      have d2 : ¬ c = 119 := by rcases e1 with e | e <;> subst e <;> decide
      have d3 : (if c = 48 then (1 : Int32) else if ¬ c = 49 then 0 else 1) = 1 := by rcases e1 with e | e <;> subst e <;> decide
      rw [if_neg d1, if_neg d1, if_pos d2, if_pos d2, d3, if_pos (show ¬ (1 : Int32) = 0 by decide), if_pos e1, zh_ev_c]
      exact ih (a + 1) (w + 2) X (by omega) (by omega) (by omega) hX h0
    · rw [if_neg e1]
      by_cases e2 : c = 120
      · subst e2
        rw [if_pos rfl, if_pos rfl, if_pos (show ¬ (1 : Int32) = 0 by decide), if_pos rfl]
        refine two 0 _ 97 108 _ (fun x hx => by rw [zu_ux hx]; exact hX x hx) (by rw [zz_us]; decide) (fun s => ?_) (fun s => ?_) (by decide)
        · unfold zv_X0_takes
          rw [zz_us, if_neg (fun w => w rfl)]
          by_cases q1 : s < 97
          · rw [if_pos q1, if_neg (fun w => Int32.not_le.mpr q1 w.1)]
          · rw [if_neg q1]
            by_cases q2 : 108 < s
            · rw [if_pos q2, if_neg (fun w => Int32.not_le.mpr q2 w.2)]
            · rw [if_neg q2, if_pos ⟨Int32.not_lt.mp q1, Int32.not_lt.mp q2⟩]
        · unfold zw_X0_takes
          rw [zz_us, if_neg (fun w => w rfl)]
      · rw [if_neg e2, if_neg e2, if_neg e2]
        by_cases e3 : c = 119
        · subst e3
          rw [show (if ¬ (119 : Int32) = 119 then (if (119 : Int32) = 48 then (1 : Int32) else if ¬ (119 : Int32) = 49 then 0 else 1) else 1) = 1 by decide, if_neg (show ¬ ¬ (119 : Int32) = 119 from fun w => w rfl), if_pos (show ¬ (1 : Int32) = 0 by decide), if_pos rfl]
          refine two 0 _ 48 57 _ (fun x hx => by rw [zu_ux hx]; exact hX x hx) (by rw [zz_us]; decide) (fun s => ?_) (fun s => ?_) (by decide)
          · unfold zv_X0_takes
            rw [zz_us, if_pos (by decide), if_neg (fun w => w rfl)]
            by_cases q1 : s < 48
            · rw [if_pos q1, if_neg (fun w => Int32.not_le.mpr q1 w.1)]
            · rw [if_neg q1]
              by_cases q2 : 57 < s
              · rw [if_pos q2, if_neg (fun w => Int32.not_le.mpr q2 w.2)]
              · rw [if_neg q2, if_pos ⟨Int32.not_lt.mp q1, Int32.not_lt.mp q2⟩]
          · unfold zw_X0_takes
            rw [zz_us, if_pos (by decide), if_neg (fun w => w rfl)]
        · rw [if_pos e3, if_pos e3, if_neg e3]
          rw [if_neg (fun w => e1 (.inl w)), if_pos (fun w => e1 (.inr w)), if_neg (fun w => w rfl)]
          exact ⟨X, rfl, hX⟩
theorem zs_fault {N : Nat} (hN : 100000 ≤ N) {I : Nat → Nat → Int32} {J : Nat → Nat → Int64} {len : Nat} (hl : len ≤ 80) {t : Nat → Int32} (ht : ∀ k, k < 80 → I 3 k = t k &&& 255) : ∃ X', zf_X7_faultIn_X0__3 N (nI len) 60 I J = some (zh_ev (zh_er (zq_h (min len 60) t) len 80 0), X', J) ∧ ∀ x, x ≠ 40 → X' x = I x := by
  obtain ⟨M, rfl⟩ := zu_one N hN
  rw [zo_X7_faultIn_X0__3]
  unfold zb_X7_faultIn_X0__3_0
  have mn : zz_min (nI len) (zz_min 60 (nI 80)) = nI (min len 60) := by
    rw [show zz_min 60 (nI 80) = nI 60 by decide]
    unfold zz_min
    by_cases q : 60 < len
    · rw [if_pos (nI_lt q (by omega)), show min len 60 = 60 by omega]
    · rw [if_neg (nI_nlt (by omega) (by omega)), show min len 60 = len by omega]
  rw [mn]
  exact zs_er hl rfl ht 80 0 M _ (by omega) (by omega) (by omega) (fun x hx => zu_ux hx) (zz_us _ _ _ _)
