/-! THE SHORTEST WEAVE OF A SET, IN THE REFERENCE -/
def zw_f4 (I I' : Nat → Nat → Int32) : Prop := (∀ y, y ≠ 60 → y ≠ 52 → y ≠ 74 → I' y = I y) ∧ ∀ i, i ≠ 9 → i ≠ 10 → i ≠ 11 → i ≠ 12 → i ≠ 17 → I' 52 i = I 52 i
theorem zw_f4_refl (I : Nat → Nat → Int32) : zw_f4 I I := ⟨fun _ _ _ _ => rfl, fun _ _ _ _ _ _ => rfl⟩
theorem zw_f4_trans {I I' I'' : Nat → Nat → Int32} (h : zw_f4 I I') (h2 : zw_f4 I' I'') : zw_f4 I I'' := ⟨fun x a b c => (h2.1 x a b c).trans (h.1 x a b c), fun i a b c d e => (h2.2 i a b c d e).trans (h.2 i a b c d e)⟩
theorem zw_f4_r {I I' : Nat → Nat → Int32} (h : zr_fr I I') : zw_f4 I I' := ⟨fun x a b _ => h.1 x a b, h.2⟩
def zw_cx (p q : Nat) (A B : Nat → Nat) (c m : Nat) (t f : Nat → Int32) (L : Int32) (I : Nat → Nat → Int32) (F : zz_F) : Prop := zr_rv c m t I F ∧ I 54 = f ∧ I 53 13 = L ∧ (∀ i, i < p → I 75 i = nI (A i)) ∧ ∀ j, j < q → I 76 j = nI (B j)
theorem zw_cx_c {p q : Nat} {A B : Nat → Nat} {c m : Nat} {t f : Nat → Int32} {L : Int32} {I I' : Nat → Nat → Int32} {F F' : zz_F} (h : zw_cx p q A B c m t f L I F) (hI : zw_f4 I I') (hF : zF_re F F') : zw_cx p q A B c m t f L I' F' := ⟨zr_rv_c h.1 (hI.2 16 (by omega) (by omega) (by omega) (by omega) (by omega)) (hI.1 58 (by omega) (by omega) (by omega)) (hI.1 59 (by omega) (by omega) (by omega)) hF, by rw [hI.1 54 (by omega) (by omega) (by omega)]; exact h.2.1, by rw [hI.1 53 (by omega) (by omega) (by omega)]; exact h.2.2.1, by rw [hI.1 75 (by omega) (by omega) (by omega)]; exact h.2.2.2.1, by rw [hI.1 76 (by omega) (by omega) (by omega)]; exact h.2.2.2.2⟩
theorem zw_sp (i j k : Nat) : zv_X12_spot (nI i) (nI j) (nI k) = nI ((13 * i + j) * 3 + k) := by
  unfold zv_X12_spot
  rw [show (13 : Int32) * nI i = nI (13 * i) from pk_mul 13 i, nI_add, show nI (13 * i + j) * 3 = nI ((13 * i + j) * 3) from pk_mul _ 3, nI_add]
/-- what was played last, three ways -/
def zw_x3 (A B : Nat → Nat) (i j k : Nat) : Nat := if k = 0 then A (i - 1) else if k = 1 then B (j - 1) else 12
def zw_v3 (i j k : Nat) : Prop := k ≤ 2 ∧ (k = 0 → 0 < i) ∧ (k = 1 → 0 < j)
section
variable {N n p q : Nat} {A B : Nat → Nat} {c m : Nat} {t f : Nat → Int32} {L : Int32} {J : Nat → Nat → Int64}
theorem zw_x3_in {i j k : Nat} (hi : i ≤ p) (hj : j ≤ q) (hv : zw_v3 i j k) : zw_x3 A B i j k = 12 ∨ zw_in p q A B (zw_x3 A B i j k) := by
  unfold zw_x3
  by_cases k0 : k = 0
  · rw [if_pos k0]; have := hv.2.1 k0; exact .inr (.inl ⟨i - 1, by omega, rfl⟩)
  · rw [if_neg k0]
    by_cases k1 : k = 1
    · rw [if_pos k1]; have := hv.2.2 k1; exact .inr (.inr ⟨j - 1, by omega, rfl⟩)
    · rw [if_neg k1]; exact .inl rfl
theorem zw_Hin (hH : zw_H n f p q A B) {y : Nat} (h : zw_in p q A B y) : y < n := by
  rcases h with ⟨i, hi, rfl⟩ | ⟨j, hj, rfl⟩
  · exact (hH.2.2.1 i hi).1
  · exact (hH.2.2.2.1 j hj).1
/-- the least from there, as the reference makes it -/
theorem zm_s225 (hN : 100000 ≤ N) (hf : ∀ s, s < n → zi_fd (fun w => f (7 * s + w))) (hL : L = -1 ∨ ∃ s, s < n ∧ L = nI s) (hH : zw_H n f p q A B) (hW : ∀ x y, (x = 12 ∨ zw_in p q A B x) → zw_in p q A B y → zw_c m t f L x y ≤ 108) {i j k x : Nat} (hi : i ≤ p) (hj : j ≤ q) (hk : k ≤ 2) (hx : x = 12 ∨ zw_in p q A B x) {V u : Nat} (hV : V ≤ 1000000) {I : Nat → Nat → Int32} {F : zz_F} (cx : zw_cx p q A B c m t f L I F) (h1 : j < q → I 74 ((13 * i + (j + 1)) * 3 + 1) = nI (zw_D min p q A B (zw_c m t f L) i (j + 1) (B j))) : ∃ I' F', zl_X12_shortestOf N (u + 2) 225 0 (nI p) (nI q) (nI i) (nI j) (nI k) (zw_last L x) (nI V) I J F = zl_X12_shortestOf N u 285 0 (nI p) (nI q) (nI i) (nI j) (nI k) 0 0 I' J F' ∧ zw_f4 I I' ∧ zF_re F F' ∧ I' 74 ((13 * i + j) * 3 + k) = nI (if j < q then min V (zw_c m t f L x (B j) + zw_D min p q A B (zw_c m t f L) i (j + 1) (B j)) else V) ∧ ∀ z, z ≠ (13 * i + j) * 3 + k → I' 74 z = I 74 z := by
  have hn := hH.1
  have pq := hH.2.1
  have e268 : ∀ (v : Int32) (Y : Nat → Nat → Int32) (G : zz_F), zl_X12_shortestOf N (u + 1) 268 0 (nI p) (nI q) (nI i) (nI j) (nI k) 0 v Y J G = zl_X12_shortestOf N u 285 0 (nI p) (nI q) (nI i) (nI j) (nI k) 0 0 (zz_u Y 74 ((13 * i + j) * 3 + k) v) J G := fun v Y G => by
    rw [zo_X12_shortestOf_268]
    unfold zb_X12_shortestOf_268
    rw [zw_sp, if_pos (nI_in (show (13 * i + j) * 3 + k < 507 by omega) (by omega)), nI_clamp (by omega)]
  rw [zo_X12_shortestOf_225]
  unfold zb_X12_shortestOf_225
  by_cases cj : j < q
  · have ib : zw_in p q A B (B j) := .inr ⟨j, cj, rfl⟩
    have w1 := hW x (B j) hx ib
    have d1 := zw_D_le (w := 0) hW _ i (j + 1) (B j) rfl (.inr ib)
    rw [show zw_op 0 = min from rfl] at d1
    obtain ⟨I1, F1, s1, s2, s3⟩ := zm_stp hN hn (J := J) cx.1 cx.2.1 hf hL (x := x) (s := B j) (hx.elim .inl (fun w => .inr (zw_Hin hH w))) (zw_Hin hH ib)
    refine ⟨zz_u I1 74 ((13 * i + j) * 3 + k) (nI (min V (zw_c m t f L x (B j) + zw_D min p q A B (zw_c m t f L) i (j + 1) (B j)))), F1, ?_, ⟨fun y a b d => by rw [zu_ux d, s2.1 y a b], fun z a1 a2 a3 a4 a5 => by rw [zu_ux (by omega), s2.2 z a1 a2 a3 a4 a5]⟩, s3, by rw [zz_us, if_pos cj], fun z hz => by rw [zz_un (fun w => hz w.2), s2.1 74 (by omega) (by omega)]⟩
    rw [if_neg (nI_ge cj (by omega)), if_pos (nI_in (show j < 12 by omega) (by omega)), nI_clamp (show j < 2 ^ 31 by omega), cx.2.2.2.2 j cj, s1, Option.bind_some]
    dsimp only
    have sp : zv_X12_spot (nI i) (nI j + 1) 1 = nI ((13 * i + (j + 1)) * 3 + 1) := by rw [nI_1]; exact zw_sp i (j + 1) 1
    rw [sp, if_pos (nI_in (show (13 * i + (j + 1)) * 3 + 1 < 507 by omega) (by omega)), nI_clamp (by omega), s2.1 74 (by omega) (by omega), h1 cj, nI_add, zz_minN (by omega) (by omega)]
    exact e268 _ _ _
  · refine ⟨zz_u I 74 ((13 * i + j) * 3 + k) (nI V), F, ?_, ⟨fun y a b d => zu_ux d, fun z _ _ _ _ _ => by rw [zu_ux (by omega)]⟩, zF_refl F, by rw [zz_us, if_neg cj], fun z hz => zz_un (fun w => hz w.2)⟩
    rw [if_pos (nI_le (by omega) (by omega))]
    exact e268 _ _ _
theorem zm_scell (hN : 100000 ≤ N) (hf : ∀ s, s < n → zi_fd (fun w => f (7 * s + w))) (hL : L = -1 ∨ ∃ s, s < n ∧ L = nI s) (hH : zw_H n f p q A B) (hW : ∀ x y, (x = 12 ∨ zw_in p q A B x) → zw_in p q A B y → zw_c m t f L x y ≤ 108) {i j k : Nat} (hi : i ≤ p) (hj : j ≤ q) (hv : zw_v3 i j k) {u : Nat} {I : Nat → Nat → Int32} {F : zz_F} (cx : zw_cx p q A B c m t f L I F) (h0 : i < p → I 74 ((13 * (i + 1) + j) * 3 + 0) = nI (zw_D min p q A B (zw_c m t f L) (i + 1) j (A i))) (h1 : j < q → I 74 ((13 * i + (j + 1)) * 3 + 1) = nI (zw_D min p q A B (zw_c m t f L) i (j + 1) (B j))) : ∃ I' F' u', u ≤ u' ∧ zl_X12_shortestOf N (u + 4) 117 0 (nI p) (nI q) (nI i) (nI j) (nI k) 0 0 I J F = zl_X12_shortestOf N u' 285 0 (nI p) (nI q) (nI i) (nI j) (nI k) 0 0 I' J F' ∧ zw_f4 I I' ∧ zF_re F F' ∧ I' 74 ((13 * i + j) * 3 + k) = nI (zw_D min p q A B (zw_c m t f L) i j (zw_x3 A B i j k)) ∧ ∀ z, z ≠ (13 * i + j) * 3 + k → I' 74 z = I 74 z := by
  have hn := hH.1
  have pq := hH.2.1
  have xin := zw_x3_in (A := A) (B := B) (p := p) (q := q) hi hj hv
  -- the first move decides where to go
  have e117 : zl_X12_shortestOf N (u + 4) 117 0 (nI p) (nI q) (nI i) (nI j) (nI k) 0 0 I J F = if i = p ∧ j = q then zl_X12_shortestOf N (u + 3) 225 0 (nI p) (nI q) (nI i) (nI j) (nI k) (zw_last L (zw_x3 A B i j k)) 0 I J F else zl_X12_shortestOf N (u + 3) 177 0 (nI p) (nI q) (nI i) (nI j) (nI k) (zw_last L (zw_x3 A B i j k)) 0 I J F := by
    have fin : ∀ (v : Int32) (E : Option (Int32 × (Nat → Nat → Int32) × (Nat → Nat → Int64) × zz_F)), v = zw_last L (zw_x3 A B i j k) → (if ¬ nI i = nI p then zl_X12_shortestOf N (u + 3) 177 0 (nI p) (nI q) (nI i) (nI j) (nI k) v 0 I J F else if ¬ nI j = nI q then zl_X12_shortestOf N (u + 3) 177 0 (nI p) (nI q) (nI i) (nI j) (nI k) v 0 I J F else if nI p ≤ nI i then zl_X12_shortestOf N (u + 3) 225 0 (nI p) (nI q) (nI i) (nI j) (nI k) v 0 I J F else E) = if i = p ∧ j = q then zl_X12_shortestOf N (u + 3) 225 0 (nI p) (nI q) (nI i) (nI j) (nI k) (zw_last L (zw_x3 A B i j k)) 0 I J F else zl_X12_shortestOf N (u + 3) 177 0 (nI p) (nI q) (nI i) (nI j) (nI k) (zw_last L (zw_x3 A B i j k)) 0 I J F := fun v E e => by
      subst e
      by_cases a : i = p
      · by_cases b : j = q
        · rw [if_neg (fun w => w (by rw [a])), if_neg (fun w => w (by rw [b])), if_pos (nI_le (by omega) (by omega)), if_pos ⟨a, b⟩]
        · rw [if_neg (fun w => w (by rw [a])), if_pos (fun w => b ((nI_eq (by omega) (by omega)).mp w)), if_neg (fun w => b w.2)]
      · rw [if_pos (fun w => a ((nI_eq (by omega) (by omega)).mp w)), if_neg (fun w => a w.1)]
    rw [zo_X12_shortestOf_117]
    unfold zb_X12_shortestOf_117
    obtain ⟨k2, v0, v1⟩ := hv
    rcases (by omega : k = 0 ∨ k = 1 ∨ k = 2) with rfl | rfl | rfl
    · have ip := v0 rfl
      have e1 : nI i - 1 = nI (i - 1) := by
        obtain ⟨i', rfl⟩ : ∃ i', i = i' + 1 := ⟨i - 1, by omega⟩
        rw [nI_pred]; rfl
      rw [if_neg (show ¬ ¬ nI 0 = 0 from fun w => w rfl), e1, if_pos (nI_in (show i - 1 < 12 by omega) (by omega)), nI_clamp (show i - 1 < 2 ^ 31 by omega)]
      refine fin _ _ ?_
      have := (hH.2.2.1 (i - 1) (by omega)).1
      rw [cx.2.2.2.1 (i - 1) (by omega)]
      rw [show zw_x3 A B i j 0 = A (i - 1) from rfl]
      unfold zw_last
      rw [if_neg (by omega)]
    · have jp := v1 rfl
      have e1 : nI j - 1 = nI (j - 1) := by
        obtain ⟨i', rfl⟩ : ∃ i', j = i' + 1 := ⟨j - 1, by omega⟩
        rw [nI_pred]; rfl
      rw [if_pos (show ¬ nI 1 = 0 by decide), if_neg (show ¬ ¬ nI 1 = 1 from fun w => w rfl), e1, if_pos (nI_in (show j - 1 < 12 by omega) (by omega)), nI_clamp (show j - 1 < 2 ^ 31 by omega)]
      refine fin _ _ ?_
      have := (hH.2.2.2.1 (j - 1) (by omega)).1
      rw [cx.2.2.2.2 (j - 1) (by omega)]
      rw [show zw_x3 A B i j 1 = B (j - 1) from rfl]
      unfold zw_last
      rw [if_neg (by omega)]
    · rw [if_pos (show ¬ nI 2 = 0 by decide), if_pos (show ¬ nI 2 = 1 by decide)]
      refine fin _ _ ?_
      rw [cx.2.2.1]
      rfl
  rw [e117]
  generalize zw_x3 A B i j k = x at *
  have kb := hv.1
  by_cases e : i = p ∧ j = q
  · rw [if_pos e]
    obtain ⟨I', F', a1, a2, a3, a4, a5⟩ := zm_s225 (u := u + 1) hN hf hL hH hW hi hj kb xin (V := 0) (by omega) (J := J) cx h1
    refine ⟨I', F', u + 1, by omega, a1, a2, a3, ?_, a5⟩
    rw [a4, if_neg (by omega), zw_De (by omega) (by omega)]
  · rw [if_neg e, zo_X12_shortestOf_177]
    unfold zb_X12_shortestOf_177
    by_cases ci : i < p
    · have ia : zw_in p q A B (A i) := .inl ⟨i, ci, rfl⟩
      have w0 := hW x (A i) xin ia
      have d0 := zw_D_le (w := 0) hW _ (i + 1) j (A i) rfl (.inr ia)
      rw [show zw_op 0 = min from rfl] at d0
      obtain ⟨I1, F1, s1, s2, s3⟩ := zm_stp hN hn (J := J) cx.1 cx.2.1 hf hL (x := x) (s := A i) (xin.elim .inl (fun w => .inr (zw_Hin hH w))) (zw_Hin hH ia)
      rw [if_neg (nI_ge ci (by omega)), if_pos (nI_in (show i < 12 by omega) (by omega)), nI_clamp (show i < 2 ^ 31 by omega), cx.2.2.2.1 i ci, s1, Option.bind_some]
      dsimp only
      have sp : zv_X12_spot (nI i + 1) (nI j) 0 = nI ((13 * (i + 1) + j) * 3 + 0) := by rw [nI_1]; exact zw_sp (i + 1) j 0
      rw [sp, if_pos (nI_in (show (13 * (i + 1) + j) * 3 + 0 < 507 by omega) (by omega)), nI_clamp (by omega), s2.1 74 (by omega) (by omega), h0 ci, nI_add, show (1000000 : Int32) = nI 1000000 from rfl, zz_minN (by omega) (by omega)]
      obtain ⟨I', F', a1, a2, a3, a4, a5⟩ := zm_s225 (u := u) hN hf hL hH hW hi hj kb xin (V := min 1000000 (zw_c m t f L x (A i) + zw_D min p q A B (zw_c m t f L) (i + 1) j (A i))) (by omega) (J := J) (zw_cx_c cx (zw_f4_r s2) s3) (fun w => by rw [s2.1 74 (by omega) (by omega)]; exact h1 w)
      refine ⟨I', F', u, by omega, a1, zw_f4_trans (zw_f4_r s2) a2, zF_trans s3 a3, ?_, fun z hz => by rw [a5 z hz, s2.1 74 (by omega) (by omega)]⟩
      rw [a4]
      congr 1
      by_cases cj : j < q
      · rw [if_pos cj, zw_Db ci cj]; omega
      · rw [if_neg cj, zw_D0 ci (by omega)]; omega
    · have cj : j < q := by omega
      have ib : zw_in p q A B (B j) := .inr ⟨j, cj, rfl⟩
      have w1 := hW x (B j) xin ib
      have d1 := zw_D_le (w := 0) hW _ i (j + 1) (B j) rfl (.inr ib)
      rw [show zw_op 0 = min from rfl] at d1
      rw [if_pos (nI_le (by omega) (by omega))]
      obtain ⟨I', F', a1, a2, a3, a4, a5⟩ := zm_s225 (u := u) hN hf hL hH hW hi hj kb xin (V := 1000000) (by omega) (J := J) cx h1
      refine ⟨I', F', u, by omega, a1, a2, a3, ?_, a5⟩
      rw [a4, if_pos cj, zw_D1 (by omega) cj]
      congr 1; omega
/-- the table, a place of it -/
def zw_s3 (p q : Nat) (A B : Nat → Nat) (W : Nat → Nat → Nat) (I : Nat → Nat → Int32) (i j : Nat) : Prop := ∀ k, zw_v3 i j k → I 74 ((13 * i + j) * 3 + k) = nI (zw_D min p q A B W i j (zw_x3 A B i j k))
theorem zm_s87 (hN : 100000 ≤ N) (hf : ∀ s, s < n → zi_fd (fun w => f (7 * s + w))) (hL : L = -1 ∨ ∃ s, s < n ∧ L = nI s) (hH : zw_H n f p q A B) (hW : ∀ x y, (x = 12 ∨ zw_in p q A B x) → zw_in p q A B y → zw_c m t f L x y ≤ 108) {i j : Nat} (hi : i ≤ p) (hj : j ≤ q) : ∀ r k u (I : Nat → Nat → Int32) (F : zz_F), k + r = 3 → 8 * r + 8 < u → zw_cx p q A B c m t f L I F → (i < p → zw_s3 p q A B (zw_c m t f L) I (i + 1) j) → (j < q → zw_s3 p q A B (zw_c m t f L) I i (j + 1)) → (∀ k', k' < k → zw_v3 i j k' → I 74 ((13 * i + j) * 3 + k') = nI (zw_D min p q A B (zw_c m t f L) i j (zw_x3 A B i j k'))) → ∃ I' F' u', u ≤ u' + 8 * r + 1 ∧ zl_X12_shortestOf N u 87 0 (nI p) (nI q) (nI i) (nI j) (nI k) 0 0 I J F = zl_X12_shortestOf N u' 79 0 (nI p) (nI q) (nI i) (nI j + -1) 0 0 0 I' J F' ∧ zw_f4 I I' ∧ zF_re F F' ∧ zw_s3 p q A B (zw_c m t f L) I' i j ∧ ∀ z, (∀ k', k' ≤ 2 → z ≠ (13 * i + j) * 3 + k') → I' 74 z = I 74 z := by
  have hn := hH.1
  have pq := hH.2.1
  intro r
  induction r with
  | zero =>
    intro k u I F hk hu cx h0 h1 hT
    obtain ⟨v, rfl⟩ : ∃ v, u = v + 1 := ⟨u - 1, by omega⟩
    obtain rfl : k = 3 := by omega
    refine ⟨I, F, v, by omega, ?_, zw_f4_refl I, zF_refl F, fun k hv => hT k (by have := hv.1; omega) hv, fun _ _ => rfl⟩
    rw [zo_X12_shortestOf_87]
    unfold zb_X12_shortestOf_87
    rw [if_pos (show (3 : Int32) ≤ nI 3 by decide)]
  | succ r ih =>
    intro k u I F hk hu cx h0 h1 hT
    obtain ⟨v, rfl⟩ : ∃ v, u = v + 8 := ⟨u - 8, by omega⟩
    -- a place that is passed by
    have skip : ∀ w, 8 * r + 8 < w → v ≤ w → ¬ zw_v3 i j k → ∃ I' F' u', v + 8 ≤ u' + 8 * (r + 1) + 1 ∧ zl_X12_shortestOf N (w + 1) 285 0 (nI p) (nI q) (nI i) (nI j) (nI k) 0 0 I J F = zl_X12_shortestOf N u' 79 0 (nI p) (nI q) (nI i) (nI j + -1) 0 0 0 I' J F' ∧ zw_f4 I I' ∧ zF_re F F' ∧ zw_s3 p q A B (zw_c m t f L) I' i j ∧ ∀ z, (∀ k', k' ≤ 2 → z ≠ (13 * i + j) * 3 + k') → I' 74 z = I 74 z := fun w hw hw2 nv => by
      obtain ⟨I', F', u', b1, b2, b3⟩ := ih (k + 1) w I F (by omega) (by omega) cx h0 h1 (fun k' hk' hv => by
        by_cases e : k' = k
        · exact absurd (e ▸ hv) nv
        · exact hT k' (by omega) hv)
      refine ⟨I', F', u', by omega, ?_, b3⟩
      rw [zo_X12_shortestOf_285]
      unfold zb_X12_shortestOf_285
      rw [nI_1]
      exact b2
    rw [zo_X12_shortestOf_87]
    unfold zb_X12_shortestOf_87
    rw [if_neg (show ¬ (3 : Int32) ≤ nI k from nI_ge (b := 3) (by omega) (by omega))]
    have did : zw_v3 i j k → ∃ I' F' u', v + 8 ≤ u' + 8 * (r + 1) + 1 ∧ zl_X12_shortestOf N (v + 6) 117 0 (nI p) (nI q) (nI i) (nI j) (nI k) 0 0 I J F = zl_X12_shortestOf N u' 79 0 (nI p) (nI q) (nI i) (nI j + -1) 0 0 0 I' J F' ∧ zw_f4 I I' ∧ zF_re F F' ∧ zw_s3 p q A B (zw_c m t f L) I' i j ∧ ∀ z, (∀ k', k' ≤ 2 → z ≠ (13 * i + j) * 3 + k') → I' 74 z = I 74 z := fun hv => by
      obtain ⟨I1, F1, u1, c1, c2, c3, c4, c5, c6⟩ := zm_scell (u := v + 2) hN hf hL hH hW hi hj hv (J := J) cx (fun w => h0 w 0 ⟨by omega, fun _ => by omega, fun w => by omega⟩) (fun w => h1 w 1 ⟨by omega, fun w => by omega, fun _ => by omega⟩)
      obtain ⟨w, rfl⟩ : ∃ w, u1 = w + 1 := ⟨u1 - 1, by omega⟩
      have kb := hv.1
      obtain ⟨I', F', u', b1, b2, b3, b4, b5, b6⟩ := ih (k + 1) w I1 F1 (by omega) (by omega) (zw_cx_c cx c3 c4) (fun w k' hv' => by rw [c6 _ (by have := hv'.1; omega)]; exact h0 w k' hv') (fun w k' hv' => by rw [c6 _ (by have := hv'.1; omega)]; exact h1 w k' hv') (fun k' hk' hv' => by
        by_cases e : k' = k
        · rw [e]; exact c5
        · rw [c6 _ (by omega)]; exact hT k' (by omega) hv')
      refine ⟨I', F', u', by omega, ?_, zw_f4_trans c3 b3, zF_trans c4 b4, b5, fun z hz => by rw [b6 z hz, c6 z (hz k kb)]⟩
      rw [show v + 6 = v + 2 + 4 by omega, c2, zo_X12_shortestOf_285]
      unfold zb_X12_shortestOf_285
      rw [nI_1]
      exact b2
    have n103 : zl_X12_shortestOf N (v + 7) 103 0 (nI p) (nI q) (nI i) (nI j) (nI k) 0 0 I J F = if k = 1 ∧ j = 0 then zl_X12_shortestOf N (v + 6) 285 0 (nI p) (nI q) (nI i) (nI j) (nI k) 0 0 I J F else zl_X12_shortestOf N (v + 6) 117 0 (nI p) (nI q) (nI i) (nI j) (nI k) 0 0 I J F := by
      rw [zo_X12_shortestOf_103]
      unfold zb_X12_shortestOf_103
      by_cases e : k = 1
      · rw [if_neg (show ¬ ¬ nI k = 1 from fun w => w (by rw [e]; rfl))]
        by_cases g : j = 0
        · rw [if_neg (show ¬ ¬ nI j = 0 from fun w => w (by rw [g]; rfl)), if_pos ⟨e, g⟩]
        · rw [if_pos (show ¬ nI j = 0 from fun w => g ((nI_eq (b := 0) (by omega) (by omega)).mp w)), if_neg (fun w => g w.2)]
      · rw [if_pos (show ¬ nI k = 1 from fun w => e ((nI_eq (b := 1) (by omega) (by omega)).mp w)), if_neg (fun w => e w.1)]
    by_cases k0 : k = 0
    · rw [if_neg (show ¬ ¬ nI k = 0 from fun w => w (by rw [k0]; rfl))]
      by_cases i0 : i = 0
      · rw [if_pos (show nI i = 0 by rw [i0]; rfl)]
        exact skip (v + 6) (by omega) (by omega) (fun w => by have := w.2.1 k0; omega)
      · rw [if_neg (show ¬ nI i = 0 from fun w => i0 ((nI_eq (b := 0) (by omega) (by omega)).mp w)), n103, if_neg (by omega)]
        exact did ⟨by omega, fun _ => by omega, fun w => by omega⟩
    · rw [if_pos (show ¬ nI k = 0 from fun w => k0 ((nI_eq (b := 0) (by omega) (by omega)).mp w)), n103]
      by_cases g : k = 1 ∧ j = 0
      · rw [if_pos g]
        exact skip (v + 5) (by omega) (by omega) (fun w => by have := w.2.2 g.1; omega)
      · rw [if_neg g]
        exact did ⟨by omega, fun w => absurd w k0, fun w => by omega⟩
end
