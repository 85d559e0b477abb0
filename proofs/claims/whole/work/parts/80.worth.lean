/-! HOW LONG A CHANGE TAKES: the class -/
theorem zs_thing {N n : Nat} (hN : 100000 ≤ N) {I : Nat → Nat → Int32} {J : Nat → Nat → Int64} (h : zi_sc n I) {a b : Nat} (ha : a < n) (hb : b < n) {c : Int32} (hc : zv_X8_isThing c = 1) : zf_X1_thing__5 N c (nI a) (nI b) I J = some (zq_e (fun w => I 54 (7 * a + w)) (fun w => I 54 (7 * b + w)) (zq_let c), I, J) := by
  have hn := h.1
  obtain ⟨M, rfl⟩ : ∃ M, N = M + 1 + 1 := ⟨N - 2, by omega⟩
  have f : ∀ s w, s < n → w < 7 → I 6 (7 * s + w) = I 54 (7 * s + w) := fun s w hs hw => h.2.2.2.1 _ (by omega)
  rw [zo_X1_thing__5]
  unfold zb_X1_thing__5_0
  simp only [zo_X1_thing__5_109, zb_X1_thing__5_109, zu_cf0 (I := I) (show a < 12 by omega), zu_cf0 (I := I) (show b < 12 by omega), zu_cf1 (I := I) (show a < 12 by omega), zu_cf1 (I := I) (show b < 12 by omega), zu_cf2 (I := I) (show a < 12 by omega), zu_cf2 (I := I) (show b < 12 by omega), zu_cf3 (I := I) (show a < 12 by omega), zu_cf3 (I := I) (show b < 12 by omega), f a _ ha (show 0 < 7 by omega), f a _ ha (show 1 < 7 by omega), f a _ ha (show 2 < 7 by omega), f a _ ha (show 3 < 7 by omega), f b _ hb (show 0 < 7 by omega), f b _ hb (show 1 < 7 by omega), f b _ hb (show 2 < 7 by omega), f b _ hb (show 3 < 7 by omega)]
  unfold zv_X8_isThing at hc
  by_cases c1 : c = 111
  · subst c1
    rw [if_neg (by decide), if_neg (by decide), if_neg (by decide), if_pos rfl]
    show _ = some (if I 54 (7 * a + 0) = I 54 (7 * b + 0) then 0 else 1, I, J)
    by_cases q : I 54 (7 * a + 0) = I 54 (7 * b + 0)
    · rw [if_neg (fun w => w q), if_pos q]
    · rw [if_pos q, if_neg q]
  · by_cases c2 : c = 112
    · subst c2
      rw [if_neg (by decide), if_neg (by decide), if_neg (by decide), if_neg (by decide), if_pos rfl]
      rfl
    · by_cases c3 : c = 113
      · subst c3
        rw [if_neg (by decide), if_neg (by decide), if_neg (by decide), if_neg (by decide), if_neg (by decide), if_pos rfl]
        rfl
      · by_cases c4 : c = 109
        · subst c4
          rw [if_neg (by decide), if_pos rfl]
          rfl
        · by_cases c5 : c = 108
          · subst c5
            rw [if_pos rfl]
            rfl
          · by_cases c6 : c = 115
            · subst c6
              rw [if_neg (by decide), if_neg (by decide), if_neg (by decide), if_neg (by decide), if_neg (by decide), if_neg (by decide)]
              rfl
            · rw [if_neg c1, if_neg c2, if_neg c3, if_neg c4, if_neg c5, if_pos c6] at hc
              cases hc
theorem zs_join {N : Nat} (hN : 100000 ≤ N) {I : Nat → Nat → Int32} {J : Nat → Nat → Int64} (k x y : Int32) : zf_X1_joined N k x y I J = some (zc_j k x y, I, J) := by
  obtain ⟨M, rfl⟩ := zu_one N hN
  rw [zo_X1_joined]
  unfold zb_X1_joined_0 zc_j
  by_cases a : k = 42
  · subst a; simp
  · by_cases b : k = 43
    · subst b; simp
    · by_cases c : k = 45
      · subst c; simp
      · by_cases d : k = 47
        · subst d
          by_cases z : y = 0 <;> simp [z]
        · by_cases e : k = 60
          · subst e
            by_cases z : x < y
            · simp [z, Int32.not_le.mpr z]
            · simp [z, Int32.not_lt.mp z]
          · by_cases f : k = 62
            · subst f
              by_cases z : y < x
              · simp [z, Int32.not_le.mpr z]
              · simp [z, Int32.not_lt.mp z]
            · by_cases z : x = y <;> simp [a, b, c, d, e, f, z]
theorem zs_isT (c : Int32) : zv_X8_isThing c = 0 ∨ zv_X8_isThing c = 1 := by
  unfold zv_X8_isThing
  repeat' split
  all_goals first | exact .inl rfl | exact .inr rfl
theorem zcs_len (e c : Nat → Int32) : ∀ k, (zc_s e c k).length ≤ k
  | 0 => Nat.le_refl 0
  | k + 1 => by
    have ih := zcs_len e c k
    unfold zc_s zc_1
    split
    · simp; omega
    · split
      · simp; omega
      · split
        · split
          · next x r q => rw [q] at ih; simp at ih ⊢; omega
          · simp
        · split
          · next y x r q => rw [q] at ih; simp at ih ⊢; omega
          · omega
/-- the stack's array holds the list, its top last -/
def zc_ar (g : Nat → Int32) (st : List Int32) : Prop := ∀ i, i < st.length → some (g (st.length - 1 - i)) = st[i]?
theorem zc_push {g : Nat → Int32} {st : List Int32} (h : zc_ar g st) (v : Int32) : zc_ar (zh_up g st.length v) (v :: st) := by
  intro i hi
  simp only [List.length_cons] at hi ⊢
  cases i with
  | zero => simp [zh_up]
  | succ i =>
    have := h i (by omega)
    rw [show st.length + 1 - 1 - (i + 1) = st.length - 1 - i by omega, show zh_up g st.length v (st.length - 1 - i) = g (st.length - 1 - i) from if_neg (by omega), this]
    simp
theorem zc_pop {g : Nat → Int32} {x : Int32} {st : List Int32} (h : zc_ar g (x :: st)) : zc_ar g st := by
  intro i hi
  have := h (i + 1) (by simp; omega)
  simp only [List.length_cons] at this
  rw [show st.length + 1 - 1 - (i + 1) = st.length - 1 - i by omega] at this
  rw [this]
  simp
theorem zc_top {g : Nat → Int32} {x : Int32} {st : List Int32} (h : zc_ar g (x :: st)) : g st.length = x := by
  have := h 0 (by simp)
  simpa using this
theorem zs_worth_l {N n : Nat} (hN : 100000 ≤ N) {I : Nat → Nat → Int32} {J : Nat → Nat → Int64} (h : zi_sc n I) {a b : Nat} (ha : a < n) (hb : b < n) {cs : Nat} (hcs : cs ≤ 40) (h3 : I 28 3 = nI cs) {e : Nat → Int32} (he : e = zq_e (fun w => I 54 (7 * a + w)) (fun w => I 54 (7 * b + w))) {v : Int32} (hv : zc_s e (I 29) cs = [v]) : ∀ q k u (g : Nat → Int32), k + q = cs → 2 * q + 1 < u → zc_ar g (zc_s e (I 29) k) → ∃ g', zl_X1_worth__5 N u 6 (nI a) (nI b) (nI (zc_s e (I 29) k).length) (nI k) 0 (zh_r I 30 g) J = some (v, zh_r I 30 g', J) := by
  intro q
  induction q with
  | zero =>
    intro k u g hk hu hg
    obtain ⟨m, rfl⟩ : ∃ m, u = m + 1 + 1 := ⟨u - 2, by omega⟩
    obtain rfl : k = cs := by omega
    rw [hv] at hg ⊢
    refine ⟨g, ?_⟩
    rw [zo_X1_worth__5_6]
    unfold zb_X1_worth__5_6
    rw [zu_rx (show 28 ≠ 30 by omega), h3, if_pos (nI_le (Nat.le_refl k) (by omega)), zo_X1_worth__5_185]
    unfold zb_X1_worth__5_185
    rw [if_neg (show ¬ nI [v].length ≤ 0 from (by decide : ¬ nI 1 ≤ 0)), zh_rr, show g 0 = v from zc_top hg]
  | succ q ih =>
    intro k u g hk hu hg
    obtain ⟨m, rfl⟩ : ∃ m, u = m + 1 + 1 := ⟨u - 2, by omega⟩
    have len := zcs_len e (I 29) k
    have nx := fun g' hg' => ih (k + 1) m g' (by omega) (by omega) hg'
    rw [show zc_s e (I 29) (k + 1) = zc_1 e (I 29 k) (zc_s e (I 29) k) from rfl] at nx
    generalize hst : zc_s e (I 29) k = st at hg len nx
    rw [zo_X1_worth__5_6]
    unfold zb_X1_worth__5_6
    rw [zu_rx (show 28 ≠ 30 by omega), h3, if_neg (nI_ge (show k < cs by omega) (by omega)), if_neg (nI_ge (show k < 40 by omega) (by omega)), if_pos (nI_in (show k < 40 by omega) (by omega)), nI_clamp (by omega), zu_rx (show 29 ≠ 30 by omega)]
    simp only [zo_X1_worth__5_179, zb_X1_worth__5_179, nI_1]
    have pw : ∀ x, zw_X1_pushed (zh_r I 30 g) (nI st.length) x = zh_r I 30 (zh_up g st.length x) := fun x => by
      unfold zw_X1_pushed
      rw [if_neg (nI_pos (by omega)), if_pos (nI_lt (show st.length < 40 by omega) (by omega)), nI_clamp (by omega), zh_ru]
    have pv : ∀ x, zv_X1_pushed (zh_r I 30 g) (nI st.length) x = nI (st.length + 1) := fun x => by
      unfold zv_X1_pushed
      rw [if_neg (nI_pos (by omega)), if_pos (nI_lt (show st.length < 40 by omega) (by omega)), nI_1]
    unfold zc_1 at nx
    by_cases c1 : 0 ≤ I 29 k
    · rw [if_neg (Int32.not_lt.mpr c1), pw, pv]
      rw [if_pos c1] at nx
      have := nx _ (zc_push hg (I 29 k))
      rw [List.length_cons] at this
      exact this
    · rw [if_pos (Int32.not_le.mp c1)]
      rw [if_neg c1] at nx
      rcases zs_isT (-(I 29 k)) with t0 | t1
      · rw [t0, if_pos rfl]
        rw [t0, if_neg (by decide)] at nx
        by_cases c2 : I 29 k = -256
        · rw [if_neg (show ¬ ¬ I 29 k = -256 from fun w => w c2)]
          rw [if_pos c2] at nx
          cases st with
          | nil =>
            rw [if_pos (show nI ([] : List Int32).length < 1 by decide)]
            exact nx g hg
          | cons x r =>
            simp only [List.length_cons] at len nx ⊢
            rw [if_neg (show ¬ nI (r.length + 1) < 1 from nI_nlt (b := 1) (by omega) (by omega)), if_neg (nI_nlt (show r.length + 1 ≤ 40 by omega) (by omega)), nI_pred, if_pos (nI_in (show r.length < 40 by omega) (by omega)), nI_clamp (by omega), zh_rr, zc_top hg, zh_ru]
            have := nx _ (zc_push (zc_pop hg) (-x))
            exact this
        · rw [if_pos (show ¬ I 29 k = -256 from c2)]
          rw [if_neg c2] at nx
          match st, hg, len, nx with
          | [], hg, len, nx =>
            rw [if_pos (show nI ([] : List Int32).length < 2 by decide)]
            exact nx g hg
          | [x], hg, len, nx =>
            rw [if_pos (show nI [x].length < 2 from by show nI 1 < 2; decide)]
            exact nx g hg
          | y :: x :: r, hg, len, nx =>
            simp only [List.length_cons] at len nx ⊢
            rw [if_neg (show ¬ nI (r.length + 1 + 1) < 2 from nI_nlt (b := 2) (by omega) (by omega)), if_neg (nI_nlt (show r.length + 1 + 1 ≤ 40 by omega) (by omega)), show nI (r.length + 1 + 1) - 2 = nI r.length from pk_sub (a := r.length + 1 + 1) (b := 2) (by omega), nI_pred, if_pos (nI_in (show r.length < 40 by omega) (by omega)), if_pos (nI_in (show r.length + 1 < 40 by omega) (by omega)), nI_clamp (by omega), nI_clamp (by omega), zh_rr, zh_rr, zs_join hN, Option.bind_some, zh_ru]
            have ty : g (r.length + 1) = y := zc_top hg
            have tx : g r.length = x := zc_top (zc_pop hg)
            rw [ty, tx, pk_m1]
            have := nx _ (zc_push (zc_pop (zc_pop hg)) (zc_j (-(I 29 k)) x y))
            exact this
      · rw [t1, if_neg (by decide)]
        rw [t1, if_pos rfl] at nx
        rw [zs_thing (I := zh_r I 30 g) hN h ha hb t1, Option.bind_some]
        simp only []
        rw [pw, pv]
        have := nx _ (zc_push hg (e (zq_let (-(I 29 k)))))
        rw [List.length_cons, he] at this
        exact this
theorem zs_worth {N n : Nat} (hN : 100000 ≤ N) {I : Nat → Nat → Int32} {J : Nat → Nat → Int64} (h : zi_sc n I) {a b : Nat} (ha : a < n) (hb : b < n) {cs : Nat} (hcs : cs ≤ 40) (h3 : I 28 3 = nI cs) {v : Int32} (hv : zc_s (zq_e (fun w => I 54 (7 * a + w)) (fun w => I 54 (7 * b + w))) (I 29) cs = [v]) : ∃ g', zf_X1_worth__5 N (nI a) (nI b) I J = some (v, zh_r I 30 g', J) := by
  obtain ⟨M, rfl⟩ := zu_one N hN
  have := zs_worth_l (N := M + 1) hN (J := J) h ha hb hcs h3 rfl hv cs 0 M (I 30) (by omega) (by omega) (fun i hi => by simp [zc_s] at hi)
  rw [zh_rs] at this
  rw [zo_X1_worth__5]
  exact this
