/-! THE CLASS UNDER THE OTHER RULE -/
def zt_d (m : Nat) (tx : Nat → Int32) (I : Nat → Nat → Int32) (a b : Nat) : Int32 := zq_chg m tx (fun w => I 54 (7 * a + w)) (fun w => I 54 (7 * b + w))
theorem zs_worthB_l {N n : Nat} (hN : 100000 ≤ N) {I : Nat → Nat → Int32} {J : Nat → Nat → Int64} (h : zi_sc n I) {a b : Nat} (ha : a < n) (hb : b < n) {cs : Nat} (hcs : cs ≤ 40) (h3 : I 32 3 = nI cs) {e : Nat → Int32} (he : e = zq_e (fun w => I 54 (7 * a + w)) (fun w => I 54 (7 * b + w))) {v : Int32} (hv : zc_s e (I 33) cs = [v]) : ∀ q k u (g : Nat → Int32), k + q = cs → 2 * q + 1 < u → zc_ar g (zc_s e (I 33) k) → ∃ g', zl_X1_worth_32__5 N u 6 (nI a) (nI b) (nI (zc_s e (I 33) k).length) (nI k) 0 (zh_r I 34 g) J = some (v, zh_r I 34 g', J) := by
  intro q
  induction q with
  | zero =>
    intro k u g hk hu hg
    obtain ⟨m, rfl⟩ : ∃ m, u = m + 1 + 1 := ⟨u - 2, by omega⟩
    obtain rfl : k = cs := by omega
    rw [hv] at hg ⊢
    refine ⟨g, ?_⟩
    rw [zo_X1_worth_32__5_6]
    unfold zb_X1_worth_32__5_6
    rw [zu_rx (show 32 ≠ 34 by omega), h3, if_pos (nI_le (Nat.le_refl k) (by omega)), zo_X1_worth_32__5_185]
    unfold zb_X1_worth_32__5_185
    rw [if_neg (show ¬ nI [v].length ≤ 0 from (by decide : ¬ nI 1 ≤ 0)), zh_rr, show g 0 = v from zc_top hg]
  | succ q ih =>
    intro k u g hk hu hg
    obtain ⟨m, rfl⟩ : ∃ m, u = m + 1 + 1 := ⟨u - 2, by omega⟩
    have len := zcs_len e (I 33) k
    have nx := fun g' hg' => ih (k + 1) m g' (by omega) (by omega) hg'
    rw [show zc_s e (I 33) (k + 1) = zc_1 e (I 33 k) (zc_s e (I 33) k) from rfl] at nx
    generalize hst : zc_s e (I 33) k = st at hg len nx
    rw [zo_X1_worth_32__5_6]
    unfold zb_X1_worth_32__5_6
    rw [zu_rx (show 32 ≠ 34 by omega), h3, if_neg (nI_ge (show k < cs by omega) (by omega)), if_neg (nI_ge (show k < 40 by omega) (by omega)), if_pos (nI_in (show k < 40 by omega) (by omega)), nI_clamp (by omega), zu_rx (show 33 ≠ 34 by omega)]
    simp only [zo_X1_worth_32__5_179, zb_X1_worth_32__5_179, nI_1]
    have pw : ∀ x, zw_X1_pushed_32 (zh_r I 34 g) (nI st.length) x = zh_r I 34 (zh_up g st.length x) := fun x => by
      unfold zw_X1_pushed_32
      rw [if_neg (nI_pos (by omega)), if_pos (nI_lt (show st.length < 40 by omega) (by omega)), nI_clamp (by omega), zh_ru]
    have pv : ∀ x, zv_X1_pushed_32 (zh_r I 34 g) (nI st.length) x = nI (st.length + 1) := fun x => by
      unfold zv_X1_pushed_32
      rw [if_neg (nI_pos (by omega)), if_pos (nI_lt (show st.length < 40 by omega) (by omega)), nI_1]
    unfold zc_1 at nx
    by_cases c1 : 0 ≤ I 33 k
    · rw [if_neg (Int32.not_lt.mpr c1), pw, pv]
      rw [if_pos c1] at nx
      have := nx _ (zc_push hg (I 33 k))
      rw [List.length_cons] at this
      exact this
    · rw [if_pos (Int32.not_le.mp c1)]
      rw [if_neg c1] at nx
      rcases zs_isT (-(I 33 k)) with t0 | t1
      · rw [t0, if_pos rfl]
        rw [t0, if_neg (by decide)] at nx
        by_cases c2 : I 33 k = -256
        · rw [if_neg (show ¬ ¬ I 33 k = -256 from fun w => w c2)]
          rw [if_pos c2] at nx
          cases st with
          | nil =>
            rw [if_pos (show nI ([] : List Int32).length < 1 by decide)]
            exact nx g hg
          | cons x r =>
            simp only [List.length_cons] at len nx ⊢
            rw [if_neg (show ¬ nI (r.length + 1) < 1 from nI_nlt (b := 1) (by omega) (by omega)), if_neg (nI_nlt (show r.length + 1 ≤ 40 by omega) (by omega)), nI_pred, if_pos (nI_in (show r.length < 40 by omega) (by omega)), nI_clamp (by omega), zh_rr, zc_top hg, zh_ru]
            have := nx _ (zc_push (zc_pop hg) (-x))
            exact this
        · rw [if_pos (show ¬ I 33 k = -256 from c2)]
          rw [if_neg c2] at nx
          match st, hg, len, nx with
          | [], hg, len, nx =>
            rw [if_pos (show nI ([] : List Int32).length < 2 by decide)]
            exact nx g hg
          | [x], hg, len, nx =>
            rw [if_pos (show nI [x].length < 2 from by show nI 1 < 2; decide)]
            exact nx g hg
          | y :: x :: r, hg, len, nx =>
            simp only [List.length_cons] at len nx ⊢
            rw [if_neg (show ¬ nI (r.length + 1 + 1) < 2 from nI_nlt (b := 2) (by omega) (by omega)), if_neg (nI_nlt (show r.length + 1 + 1 ≤ 40 by omega) (by omega)), show nI (r.length + 1 + 1) - 2 = nI r.length from pk_sub (a := r.length + 1 + 1) (b := 2) (by omega), nI_pred, if_pos (nI_in (show r.length < 40 by omega) (by omega)), if_pos (nI_in (show r.length + 1 < 40 by omega) (by omega)), nI_clamp (by omega), nI_clamp (by omega), zh_rr, zh_rr, zs_join hN, Option.bind_some, zh_ru]
            have ty : g (r.length + 1) = y := zc_top hg
            have tx : g r.length = x := zc_top (zc_pop hg)
            rw [ty, tx, pk_m1]
            have := nx _ (zc_push (zc_pop (zc_pop hg)) (zc_j (-(I 33 k)) x y))
            exact this
      · rw [t1, if_neg (by decide)]
        rw [t1, if_pos rfl] at nx
        rw [zs_thing (I := zh_r I 34 g) hN h ha hb t1, Option.bind_some]
        simp only []
        rw [pw, pv]
        have := nx _ (zc_push hg (e (zq_let (-(I 33 k)))))
        rw [List.length_cons, he] at this
        exact this
theorem zs_worthB {N n : Nat} (hN : 100000 ≤ N) {I : Nat → Nat → Int32} {J : Nat → Nat → Int64} (h : zi_sc n I) {a b : Nat} (ha : a < n) (hb : b < n) {cs : Nat} (hcs : cs ≤ 40) (h3 : I 32 3 = nI cs) {v : Int32} (hv : zc_s (zq_e (fun w => I 54 (7 * a + w)) (fun w => I 54 (7 * b + w))) (I 33) cs = [v]) : ∃ g', zf_X1_worth_32__5 N (nI a) (nI b) I J = some (v, zh_r I 34 g', J) := by
  obtain ⟨M, rfl⟩ := zu_one N hN
  have := zs_worthB_l (N := M + 1) hN (J := J) h ha hb hcs h3 rfl hv cs 0 M (I 34) (by omega) (by omega) (fun i hi => by simp [zc_s] at hi)
  rw [zh_rs] at this
  rw [zo_X1_worth_32__5]
  exact this
def zt_Q (I X : Nat → Nat → Int32) : Prop := ∀ x, x ≠ 34 → x ≠ 35 → X x = I x
theorem zs_freshB_i {N n : Nat} (hN : 100000 ≤ N) {I : Nat → Nat → Int32} {J : Nat → Nat → Int64} (h : zi_sc n I) {m cs : Nat} {tx : Nat → Int32} (hcs : cs ≤ 40) (h3 : I 32 3 = nI cs) (hev : ∀ e, zc_s e (I 33) cs = [zq_val m tx e]) {a : Nat} (ha : a < n) (Q : Option (Int32 × (Nat → Nat → Int32) × (Nat → Nat → Int64)) → Prop) : ∀ q b u (X : Nat → Nat → Int32), b + q = n → q < u → zt_Q I X → (∀ a' b', a' < n → b' < n → (a' < a ∨ a' = a ∧ b' < b) → X 35 (12 * a' + b') = zt_d m tx I a' b') → (∀ u' X', u ≤ u' + q + 1 → zt_Q I X' → (∀ a' b', a' < n → b' < n → a' < a + 1 → X' 35 (12 * a' + b') = zt_d m tx I a' b') → Q (zl_X1_refresh_32__5 N u' 20 (nI n) (nI (a + 1)) 0 0 X' J)) → Q (zl_X1_refresh_32__5 N u 28 (nI n) (nI a) (nI b) 0 X J) := by
  intro q
  have hn := h.1
  induction q with
  | zero =>
    intro b u X hb hu hP hT hQ
    obtain ⟨u', rfl⟩ : ∃ u', u = u' + 1 := ⟨u - 1, by omega⟩
    obtain rfl : b = n := by omega
    rw [zo_X1_refresh_32__5_28]
    unfold zb_X1_refresh_32__5_28
    rw [if_pos (nI_le (Nat.le_refl b) (by omega)), nI_1]
    exact hQ u' X (by omega) hP (fun a' b' h1 h2 h3 => hT a' b' h1 h2 (by omega))
  | succ q ih =>
    intro b u X hb hu hP hT hQ
    obtain ⟨u', rfl⟩ : ∃ u', u = u' + 1 := ⟨u - 1, by omega⟩
    have sX : zi_sc n X := zc_sc h (congrFun (hP 5 (by omega) (by omega)) 2) (hP 6 (by omega) (by omega)) (hP 7 (by omega) (by omega)) (congrFun (hP 52 (by omega) (by omega)) 1) (hP 54 (by omega) (by omega))
    have e54 : X 54 = I 54 := hP 54 (by omega) (by omega)
    obtain ⟨g', ew⟩ := zs_worthB hN (I := X) (J := J) sX ha (show b < n by omega) hcs (by rw [hP 32 (by omega) (by omega)]; exact h3) (v := zq_val m tx (zq_e (fun w => I 54 (7 * a + w)) (fun w => I 54 (7 * b + w)))) (by rw [hP 33 (by omega) (by omega), e54]; exact hev _)
    rw [zo_X1_refresh_32__5_28]
    unfold zb_X1_refresh_32__5_28
    have ix : nI a * 12 + nI b = nI (12 * a + b) := by
      rw [show nI a * 12 = nI (a * 12) from pk_mul a 12, nI_add, Nat.mul_comm a 12]
    rw [if_neg (nI_ge (show b < n by omega) (by omega)), ew, Option.bind_some, ix, if_pos (nI_in (show 12 * a + b < 144 by omega) (by omega)), nI_clamp (by omega), nI_1]
    refine ih (b + 1) u' _ (by omega) (by omega) (fun x h30 h31 => ?_) (fun a' b' h1 h2 h3 => ?_) (fun u2 X' h1 h2 h3 => hQ u2 X' (by omega) h2 h3)
    · show zz_u (zh_r X 34 g') 35 _ _ x = _
      rw [zu_ux h31, zu_rx h30, hP x h30 h31]
    · show zz_u (zh_r X 34 g') 35 (12 * a + b) _ 35 (12 * a' + b') = _
      by_cases e : a' = a ∧ b' = b
      · obtain ⟨rfl, rfl⟩ := e
        rw [zz_us]
        rfl
      · rw [zz_un (fun w => by omega), zu_rx (by omega)]
        exact hT a' b' h1 h2 (by omega)
theorem zs_freshB_o {N n : Nat} (hN : 100000 ≤ N) {I : Nat → Nat → Int32} {J : Nat → Nat → Int64} (h : zi_sc n I) {m cs : Nat} {tx : Nat → Int32} (hcs : cs ≤ 40) (h3 : I 32 3 = nI cs) (hev : ∀ e, zc_s e (I 33) cs = [zq_val m tx e]) : ∀ q a u (X : Nat → Nat → Int32), a + q = n → 20 * q < u → zt_Q I X → (∀ a' b', a' < n → b' < n → a' < a → X 35 (12 * a' + b') = zt_d m tx I a' b') → ∃ X', zl_X1_refresh_32__5 N u 20 (nI n) (nI a) 0 0 X J = some (0, zz_u X' 32 4 1, J) ∧ zt_Q I X' ∧ ∀ a' b', a' < n → b' < n → X' 35 (12 * a' + b') = zt_d m tx I a' b' := by
  intro q
  have hn := h.1
  induction q with
  | zero =>
    intro a u X ha hu hP hT
    obtain ⟨u', rfl⟩ : ∃ u', u = u' + 1 := ⟨u - 1, by omega⟩
    obtain rfl : a = n := by omega
    refine ⟨X, ?_, hP, fun a' b' h1 h2 => hT a' b' h1 h2 h1⟩
    rw [zo_X1_refresh_32__5_20]
    unfold zb_X1_refresh_32__5_20
    rw [if_pos (nI_le (Nat.le_refl a) (by omega))]
  | succ q ih =>
    intro a u X ha hu hP hT
    obtain ⟨u', rfl⟩ : ∃ u', u = u' + 1 := ⟨u - 1, by omega⟩
    rw [zo_X1_refresh_32__5_20]
    unfold zb_X1_refresh_32__5_20
    rw [if_neg (nI_ge (show a < n by omega) (by omega))]
    exact zs_freshB_i hN h hcs h3 hev (show a < n by omega) (fun r => ∃ X', r = some (0, zz_u X' 32 4 1, J) ∧ zt_Q I X' ∧ ∀ a' b', a' < n → b' < n → X' 35 (12 * a' + b') = zt_d m tx I a' b') n 0 u' X (by omega) (by omega) hP (fun a' b' h1 h2 h3 => hT a' b' h1 h2 (by omega)) (fun u2 X' h1 h2 h3 => ih (a + 1) u2 X' (by omega) (by omega) h2 h3)
theorem zw_scB_i {N : Nat} {I : Nat → Nat → Int32} {J : Nat → Nat → Int64} {last : Int32} (hlast : last = -1 ∨ ∃ s, s < 12 ∧ last = nI s) {y : Nat} (hy : y < 12) : ∀ k x u (X : Nat → Nat → Int32), x + k = 12 → k < u → (∀ z, z ≠ 42 → X z = I z) → (∀ x', x' < x → X 42 (x' * 12 + y) = zv_X1_between_32 I (nI x') (nI y) + zz_f I (nI y) 1) → ∃ X', (∀ z, z ≠ 42 → X' z = I z) ∧ (∀ x', x' < 12 → X' 42 (x' * 12 + y) = zv_X1_between_32 I (nI x') (nI y) + zz_f I (nI y) 1) ∧ X' 42 (144 + y) = zv_X1_between_32 I last (nI y) + zz_f I (nI y) 1 ∧ (∀ x' y', x' ≤ 12 → y' < 12 → y' ≠ y → X' 42 (x' * 12 + y') = X 42 (x' * 12 + y')) ∧ zl_X4_setCosts__32 N u 22 last (nI y) (zz_f I (nI y) 1) (nI x) X J = zl_X4_setCosts__32 N (u - k - 1) 2 last (nI y + 1) 0 0 X' J := by
  intro k
  induction k with
  | zero =>
    intro x u X hx hu hX hT
    obtain ⟨v, rfl⟩ : ∃ v, u = v + 1 := ⟨u - 1, by omega⟩
    obtain rfl : x = 12 := by omega
    have bt : zv_X1_between_32 X = zv_X1_between_32 I := by
      funext a b
      unfold zv_X1_between_32
      rw [hX 35 (by omega)]
    refine ⟨zz_u X 42 (144 + y) (zv_X1_between_32 I last (nI y) + zz_f I (nI y) 1), fun z hz => by rw [zu_ux hz, hX z hz], fun x' h1 => by rw [zz_un (by omega)]; exact hT x' h1, zz_us _ _ _ _, fun x' y' h1 h2 h3 => by rw [zz_un (by omega)], ?_⟩
    rw [zo_X4_setCosts__32_22]
    unfold zb_X4_setCosts__32_22
    rw [if_pos (show (12 : Int32) ≤ nI 12 by decide), if_pos (fun g1 g2 _ _ => by
      rcases hlast with rfl | ⟨s, hs, rfl⟩
      · exact absurd (by decide) g1
      · rw [show nI s * 12 = nI (s * 12) from pk_mul s 12, nI_add]
        exact nI_in (by omega) (by omega)), show (144 : Int32) + nI y = nI (144 + y) from nI_add 144 y, if_pos (nI_in (show 144 + y < 156 by omega) (by omega)), nI_clamp (by omega), bt]
    rfl
  | succ k ih =>
    intro x u X hx hu hX hT
    obtain ⟨v, rfl⟩ : ∃ v, u = v + 1 := ⟨u - 1, by omega⟩
    have bt : zv_X1_between_32 X = zv_X1_between_32 I := by
      funext a b
      unfold zv_X1_between_32
      rw [hX 35 (by omega)]
    rw [zo_X4_setCosts__32_22]
    unfold zb_X4_setCosts__32_22
    rw [if_neg (show ¬ (12 : Int32) ≤ nI x from nI_ge (b := 12) (by omega) (by omega)), show nI x * 12 = nI (x * 12) from pk_mul x 12, nI_add, if_pos (fun _ _ _ _ => nI_in (show x * 12 + y < 144 by omega) (by omega)), if_pos (nI_in (show x * 12 + y < 156 by omega) (by omega)), nI_clamp (by omega), bt, nI_1]
    obtain ⟨X', g1, g2, g3, g4, g5⟩ := ih (x + 1) v (zz_u X 42 (x * 12 + y) (zv_X1_between_32 I (nI x) (nI y) + zz_f I (nI y) 1)) (by omega) (by omega) (fun z hz => by rw [zu_ux hz, hX z hz]) (fun x' h1 => by
      by_cases e : x' = x
      · rw [e, zz_us]
      · rw [zz_un (by omega)]; exact hT x' (by omega))
    exact ⟨X', g1, g2, g3, fun x' y' h1 h2 h3 => by rw [g4 x' y' h1 h2 h3, zz_un (by omega)], by rw [g5, show v + 1 - (k + 1) - 1 = v - k - 1 by omega]⟩
theorem zw_scB_o {N : Nat} {I : Nat → Nat → Int32} {J : Nat → Nat → Int64} {last : Int32} (hlast : last = -1 ∨ ∃ s, s < 12 ∧ last = nI s) : ∀ k y u (X : Nat → Nat → Int32), y + k = 12 → 20 * k < u → (∀ z, z ≠ 42 → X z = I z) → (∀ y', y' < y → (∀ x', x' < 12 → X 42 (x' * 12 + y') = zv_X1_between_32 I (nI x') (nI y') + zz_f I (nI y') 1) ∧ X 42 (144 + y') = zv_X1_between_32 I last (nI y') + zz_f I (nI y') 1) → ∃ X', (∀ z, z ≠ 42 → X' z = I z) ∧ (∀ y', y' < 12 → (∀ x', x' < 12 → X' 42 (x' * 12 + y') = zv_X1_between_32 I (nI x') (nI y') + zz_f I (nI y') 1) ∧ X' 42 (144 + y') = zv_X1_between_32 I last (nI y') + zz_f I (nI y') 1) ∧ zl_X4_setCosts__32 N u 2 last (nI y) 0 0 X J = some (0, X', J) := by
  intro k
  induction k with
  | zero =>
    intro y u X hy hu hX hT
    obtain ⟨v, rfl⟩ : ∃ v, u = v + 1 := ⟨u - 1, by omega⟩
    obtain rfl : y = 12 := by omega
    refine ⟨X, hX, hT, ?_⟩
    rw [zo_X4_setCosts__32_2]
    unfold zb_X4_setCosts__32_2
    rw [if_pos (show (12 : Int32) ≤ nI 12 by decide)]
  | succ k ih =>
    intro y u X hy hu hX hT
    obtain ⟨v, rfl⟩ : ∃ v, u = v + 1 := ⟨u - 1, by omega⟩
    rw [zo_X4_setCosts__32_2]
    unfold zb_X4_setCosts__32_2
    have zf : zz_f X = zz_f I := by
      funext a b
      unfold zz_f
      rw [hX 6 (by omega)]
    rw [if_neg (show ¬ (12 : Int32) ≤ nI y from nI_ge (b := 12) (by omega) (by omega)), zf]
    obtain ⟨X1, g1, g2, g3, g4, g5⟩ := zw_scB_i (N := N) (I := I) (J := J) hlast (show y < 12 by omega) 12 0 v X (by omega) (by omega) hX (fun x' h1 => by omega)
    rw [show (0 : Int32) = nI 0 from rfl] at *
    rw [g5, nI_1]
    refine ih (y + 1) (v - 12 - 1) X1 (by omega) (by omega) g1 (fun y' h1 => ?_)
    by_cases e : y' = y
    · rw [e]; exact ⟨g2, g3⟩
    · have := hT y' (by omega)
      refine ⟨fun x' h2 => by rw [g4 x' y' (by omega) (by omega) e]; exact this.1 x' h2, ?_⟩
      rw [show 144 + y' = 12 * 12 + y' by omega, g4 12 y' (by omega) (by omega) e]
      exact this.2
