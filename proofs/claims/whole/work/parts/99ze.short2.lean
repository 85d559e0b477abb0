section
variable {N n p q : Nat} {A B : Nat → Nat} {c m : Nat} {t f : Nat → Int32} {L : Int32} {J : Nat → Nat → Int64}
theorem zm_s79 (hN : 100000 ≤ N) (hf : ∀ s, s < n → zi_fd (fun w => f (7 * s + w))) (hL : L = -1 ∨ ∃ s, s < n ∧ L = nI s) (hH : zw_H n f p q A B) (hW : ∀ x y, (x = 12 ∨ zw_in p q A B x) → zw_in p q A B y → zw_c m t f L x y ≤ 108) {i : Nat} (hi : i ≤ p) : ∀ k u (I : Nat → Nat → Int32) (F : zz_F), k ≤ q + 1 → 40 * k + 10 < u → zw_cx p q A B c m t f L I F → (∀ i' j', i' ≤ p → j' ≤ q → (i < i' ∨ i' = i ∧ k ≤ j') → zw_s3 p q A B (zw_c m t f L) I i' j') → ∃ I' F' u', u ≤ u' + 40 * k + 1 ∧ zl_X12_shortestOf N u 79 0 (nI p) (nI q) (nI i) (nI k - 1) 0 0 0 I J F = zl_X12_shortestOf N u' 71 0 (nI p) (nI q) (nI i + -1) 0 0 0 0 I' J F' ∧ zw_f4 I I' ∧ zF_re F F' ∧ ∀ i' j', i' ≤ p → j' ≤ q → i ≤ i' → zw_s3 p q A B (zw_c m t f L) I' i' j' := by
  have pq := hH.2.1
  intro k
  induction k with
  | zero =>
    intro u I F hk hu cx hT
    obtain ⟨v, rfl⟩ : ∃ v, u = v + 1 := ⟨u - 1, by omega⟩
    refine ⟨I, F, v, by omega, ?_, zw_f4_refl I, zF_refl F, fun i' j' h1 h2 h3 => hT i' j' h1 h2 (by omega)⟩
    rw [zo_X12_shortestOf_79]
    unfold zb_X12_shortestOf_79
    rw [if_pos (show nI 0 - 1 < 0 by decide)]
  | succ k ih =>
    intro u I F hk hu cx hT
    obtain ⟨v, rfl⟩ : ∃ v, u = v + 1 := ⟨u - 1, by omega⟩
    obtain ⟨I1, F1, u1, b1, b2, b3, b4, b5, b6⟩ := zm_s87 hN hf hL hH hW hi (show k ≤ q by omega) (J := J) 3 0 v I F (by omega) (by omega) cx (fun w => hT (i + 1) k (by omega) (by omega) (by omega)) (fun w => hT i (k + 1) hi (by omega) (by omega)) (fun k' hk' => by omega)
    obtain ⟨I', F', u', c1, c2, c3, c4, c5⟩ := ih u1 I1 F1 (by omega) (by omega) (zw_cx_c cx b3 b4) (fun i' j' h1 h2 h3 => by
      by_cases e : i' = i ∧ j' = k
      · rw [e.1, e.2]; exact b5
      · intro k' hv
        rw [b6 _ (fun k'' hk'' => by have := hv.1; omega)]
        exact hT i' j' h1 h2 (by omega) k' hv)
    refine ⟨I', F', u', by omega, ?_, zw_f4_trans b3 c3, zF_trans b4 c4, c5⟩
    rw [zo_X12_shortestOf_79]
    unfold zb_X12_shortestOf_79
    rw [nI_pred, if_neg (nI_pos (by omega)), show zl_X12_shortestOf N v 87 0 (nI p) (nI q) (nI i) (nI k) 0 0 0 I J F = _ from b2, show nI k + -1 = nI k - 1 from (Int32.sub_eq_add_neg _ _).symm]
    exact c2
theorem zm_s71 (hN : 100000 ≤ N) (hf : ∀ s, s < n → zi_fd (fun w => f (7 * s + w))) (hL : L = -1 ∨ ∃ s, s < n ∧ L = nI s) (hH : zw_H n f p q A B) (hW : ∀ x y, (x = 12 ∨ zw_in p q A B x) → zw_in p q A B y → zw_c m t f L x y ≤ 108) : ∀ k u (I : Nat → Nat → Int32) (F : zz_F), k ≤ p + 1 → 600 * k + 10 < u → zw_cx p q A B c m t f L I F → (∀ i' j', i' ≤ p → j' ≤ q → k ≤ i' → zw_s3 p q A B (zw_c m t f L) I i' j') → ∃ I' F', zl_X12_shortestOf N u 71 0 (nI p) (nI q) (nI k - 1) 0 0 0 0 I J F = some (nI (zw_D min p q A B (zw_c m t f L) 0 0 12), I', J, F') ∧ zw_f4 I I' ∧ zF_re F F' := by
  have pq := hH.2.1
  intro k
  induction k with
  | zero =>
    intro u I F hk hu cx hT
    obtain ⟨v, rfl⟩ : ∃ v, u = v + 1 := ⟨u - 1, by omega⟩
    refine ⟨I, F, ?_, zw_f4_refl I, zF_refl F⟩
    have sp : zv_X12_spot 0 0 2 = nI ((13 * 0 + 0) * 3 + 2) := zw_sp 0 0 2
    rw [zo_X12_shortestOf_71]
    unfold zb_X12_shortestOf_71
    rw [if_pos (show nI 0 - 1 < 0 by decide), sp, if_pos (nI_in (show (13 * 0 + 0) * 3 + 2 < 507 by omega) (by omega)), nI_clamp (by omega), hT 0 0 (by omega) (by omega) (by omega) 2 ⟨by omega, fun w => by omega, fun w => by omega⟩]
    rfl
  | succ k ih =>
    intro u I F hk hu cx hT
    obtain ⟨v, rfl⟩ : ∃ v, u = v + 1 := ⟨u - 1, by omega⟩
    obtain ⟨I1, F1, u1, b1, b2, b3, b4, b5⟩ := zm_s79 hN hf hL hH hW (show k ≤ p by omega) (J := J) (q + 1) v I F (by omega) (by omega) cx (fun i' j' h1 h2 h3 => hT i' j' h1 h2 (by omega))
    obtain ⟨I', F', c1, c2, c3⟩ := ih u1 I1 F1 (by omega) (by omega) (zw_cx_c cx b3 b4) (fun i' j' h1 h2 h3 => b5 i' j' h1 h2 h3)
    refine ⟨I', F', ?_, zw_f4_trans b3 c2, zF_trans b4 c3⟩
    rw [zo_X12_shortestOf_71]
    unfold zb_X12_shortestOf_71
    rw [nI_pred, if_neg (nI_pos (by omega))]
    rw [nI_pred] at b2
    rw [b2, show nI k + -1 = nI k - 1 from (Int32.sub_eq_add_neg _ _).symm]
    exact c1
end
/-- lists of a set, scene by scene -/
theorem zw_l_more {P : Nat → Bool} {n : Nat} : ∀ {k : Nat}, n ≤ k → (∀ s, n ≤ s → s < k → P s = false) → zw_l P k = zw_l P n := by
  intro k
  induction k with
  | zero => intro h _; rw [show n = 0 by omega]
  | succ k ih =>
    intro h hP
    by_cases e : n = k + 1
    · rw [e]
    · rw [zw_l_s, hP k (by omega) (by omega), if_neg (by decide)]
      exact ih (by omega) (fun s a b => hP s a (by omega))
theorem zm_s7 {N n : Nat} (hn : n ≤ 12) {f : Nat → Int32} (hf : ∀ s, s < n → zi_fd (fun w => f (7 * s + w))) {J : Nat → Nat → Int64} {F : zz_F} {set : Int32} {I : Nat → Nat → Int32} (h54 : I 54 = f) (h1 : I 52 1 = nI n) {P0 P1 : Nat → Bool} (e0 : P0 = bt (zh_P n f set (nI 0))) (e1 : P1 = bt (zh_P n f set (nI 1))) : ∀ r k u (X : Nat → Nat → Int32), k + r = n → 2 * r < u → (∀ y, y ≠ 75 → y ≠ 76 → X y = I y) → (∀ i, i < (zw_l P0 k).length → X 75 i = nI ((zw_l P0 k).getD i 0)) → (∀ i, i < (zw_l P1 k).length → X 76 i = nI ((zw_l P1 k).getD i 0)) → ∃ X' u', u ≤ u' + 2 * r + 1 ∧ zl_X12_shortestOf N u 7 set (nI (zw_l P0 k).length) (nI (zw_l P1 k).length) (nI k) 0 0 0 0 X J F = zl_X12_shortestOf N u' 71 0 (nI (zw_l P0 n).length) (nI (zw_l P1 n).length) (nI (zw_l P0 n).length) 0 0 0 0 X' J F ∧ (∀ y, y ≠ 75 → y ≠ 76 → X' y = I y) ∧ (∀ i, i < (zw_l P0 n).length → X' 75 i = nI ((zw_l P0 n).getD i 0)) ∧ (∀ i, i < (zw_l P1 n).length → X' 76 i = nI ((zw_l P1 n).getD i 0)) := by
  intro r
  induction r with
  | zero =>
    intro k u X hk hu hX h75 h76
    obtain ⟨v, rfl⟩ : ∃ v, u = v + 1 := ⟨u - 1, by omega⟩
    obtain rfl : k = n := by omega
    refine ⟨X, v, by omega, ?_, hX, h75, h76⟩
    rw [zo_X12_shortestOf_7]
    unfold zb_X12_shortestOf_7
    rw [hX 52 (by omega) (by omega), h1, if_pos (nI_le (Nat.le_refl k) (by omega))]
  | succ r ih =>
    intro k u X hk hu hX h75 h76
    obtain ⟨v, rfl⟩ : ∃ v, u = v + 2 := ⟨u - 2, by omega⟩
    have l0 := zw_l_len P0 k
    have l1 := zw_l_len P1 k
    have pb : ∀ pl, bt (zh_P n f set (nI pl)) k = (bt set k && decide (f (7 * k) = nI pl)) := fun pl => by
      unfold zh_P
      rw [zu_set_at (by omega) (by omega)]
    obtain ⟨⟨pl, hpl, ep⟩, _⟩ := hf k (by omega)
    have ep : f (7 * k) = nI pl := ep
    have g84 : ¬ (((7 : Int32) * nI k + 0) < 0 ∨ 84 ≤ ((7 : Int32) * nI k + 0).toNatClampNeg) := by
      rw [show (7 : Int32) * nI k = nI (7 * k) from pk_mul 7 k, Int32.add_zero]
      exact nI_in (by omega) (by omega)
    have nx : ∀ Y : Nat → Nat → Int32, (∀ y, y ≠ 75 → y ≠ 76 → Y y = I y) → (∀ i, i < (zw_l P0 (k + 1)).length → Y 75 i = nI ((zw_l P0 (k + 1)).getD i 0)) → (∀ i, i < (zw_l P1 (k + 1)).length → Y 76 i = nI ((zw_l P1 (k + 1)).getD i 0)) → ∃ X' u', v + 2 ≤ u' + 2 * (r + 1) + 1 ∧ zl_X12_shortestOf N (v + 1) 62 set (nI (zw_l P0 (k + 1)).length) (nI (zw_l P1 (k + 1)).length) (nI k) 0 0 0 0 Y J F = zl_X12_shortestOf N u' 71 0 (nI (zw_l P0 n).length) (nI (zw_l P1 n).length) (nI (zw_l P0 n).length) 0 0 0 0 X' J F ∧ (∀ y, y ≠ 75 → y ≠ 76 → X' y = I y) ∧ (∀ i, i < (zw_l P0 n).length → X' 75 i = nI ((zw_l P0 n).getD i 0)) ∧ (∀ i, i < (zw_l P1 n).length → X' 76 i = nI ((zw_l P1 n).getD i 0)) := fun Y y1 y2 y3 => by
      obtain ⟨X', u', b1, b2, b3⟩ := ih (k + 1) v Y (by omega) (by omega) y1 y2 y3
      refine ⟨X', u', by omega, ?_, b3⟩
      rw [zo_X12_shortestOf_62]
      unfold zb_X12_shortestOf_62
      rw [nI_1]
      exact b2
    rw [zo_X12_shortestOf_7]
    unfold zb_X12_shortestOf_7
    rw [hX 52 (by omega) (by omega), h1, if_neg (nI_ge (show k < n by omega) (by omega)), zu_has (by omega)]
    cases hb : bt set k with
    | false =>
      have z0 : zw_l P0 (k + 1) = zw_l P0 k := by rw [zw_l_s, e0, pb 0, hb]; rfl
      have z1 : zw_l P1 (k + 1) = zw_l P1 k := by rw [zw_l_s, e1, pb 1, hb]; rfl
      rw [if_neg (by decide)]
      have := nx X hX (by rw [z0]; exact h75) (by rw [z1]; exact h76)
      rw [z0, z1] at this
      exact this
    | true =>
      rw [if_pos rfl, if_pos (show ¬ (1 : Int32) = 0 by decide), if_pos g84, zu_play (by omega), hX 54 (by omega) (by omega), h54, ep]
      rcases (by omega : pl = 0 ∨ pl = 1) with rfl | rfl
      · have z0 : zw_l P0 (k + 1) = zw_l P0 k ++ [k] := by rw [zw_l_s, e0, pb 0, hb, ep]; rfl
        have z1 : zw_l P1 (k + 1) = zw_l P1 k := by rw [zw_l_s, e1, pb 1, hb, ep]; rfl
        rw [if_neg (show ¬ ¬ nI 0 = 0 from fun w => w rfl), if_pos (nI_in (show (zw_l P0 k).length < 12 by omega) (by omega)), nI_clamp (by omega), nI_1]
        have := nx (zz_u X 75 (zw_l P0 k).length (nI k)) (fun y a b => by rw [zu_ux a, hX y a b]) (fun i hi => by
          rw [z0, List.length_append, List.length_singleton] at hi
          rw [z0, zw_getA]
          by_cases e : i < (zw_l P0 k).length
          · rw [if_pos e, zz_un (by omega)]; exact h75 i e
          · rw [if_neg e, if_pos (by omega), show i = (zw_l P0 k).length by omega, zz_us]) (by rw [z1, zu_ux (by omega)]; exact h76)
        rw [z1, show (zw_l P0 (k + 1)).length = (zw_l P0 k).length + 1 by rw [z0, List.length_append, List.length_singleton]] at this
        exact this
      · have z0 : zw_l P0 (k + 1) = zw_l P0 k := by rw [zw_l_s, e0, pb 0, hb, ep]; rfl
        have z1 : zw_l P1 (k + 1) = zw_l P1 k ++ [k] := by rw [zw_l_s, e1, pb 1, hb, ep]; rfl
        rw [if_pos (show ¬ nI 1 = 0 by decide), if_pos (nI_in (show (zw_l P1 k).length < 12 by omega) (by omega)), nI_clamp (by omega), nI_1]
        have := nx (zz_u X 76 (zw_l P1 k).length (nI k)) (fun y a b => by rw [zu_ux b, hX y a b]) (by rw [z0, zu_ux (by omega)]; exact h75) (fun i hi => by
          rw [z1, List.length_append, List.length_singleton] at hi
          rw [z1, zw_getA]
          by_cases e : i < (zw_l P1 k).length
          · rw [if_pos e, zz_un (by omega)]; exact h76 i e
          · rw [if_neg e, if_pos (by omega), show i = (zw_l P1 k).length by omega, zz_us])
        rw [z0, show (zw_l P1 (k + 1)).length = (zw_l P1 k).length + 1 by rw [z1, List.length_append, List.length_singleton]] at this
        exact this
/-- what shortestOf leaves as it was -/
def zw_f5 (I I' : Nat → Nat → Int32) : Prop := (∀ y, y ≠ 60 → y ≠ 52 → y ≠ 74 → y ≠ 75 → y ≠ 76 → I' y = I y) ∧ ∀ i, i ≠ 9 → i ≠ 10 → i ≠ 11 → i ≠ 12 → i ≠ 17 → I' 52 i = I 52 i
theorem zm_short {N n : Nat} (hN : 100000 ≤ N) (hn : n ≤ 12) {J : Nat → Nat → Int64} {F : zz_F} {c m : Nat} {t : Nat → Int32} {I : Nat → Nat → Int32} (hf : ∀ s, s < n → zi_fd (fun w => I 54 (7 * s + w))) (h1 : I 52 1 = nI n) (hL : I 53 13 = -1 ∨ ∃ s, s < n ∧ I 53 13 = nI s) (ru : zr_rv c m t I F) (set : Int32) (hW : ∀ x y, (x = 12 ∨ zw_in (zw_p n (I 54) set 0) (zw_p n (I 54) set 1) (zw_a n (I 54) set 0) (zw_a n (I 54) set 1) x) → zw_in (zw_p n (I 54) set 0) (zw_p n (I 54) set 1) (zw_a n (I 54) set 0) (zw_a n (I 54) set 1) y → zw_c m t (I 54) (I 53 13) x y ≤ 108) : ∃ I' F', zf_X12_shortestOf N set I J F = some (nI (zw_D min (zw_p n (I 54) set 0) (zw_p n (I 54) set 1) (zw_a n (I 54) set 0) (zw_a n (I 54) set 1) (zw_c m t (I 54) (I 53 13)) 0 0 12), I', J, F') ∧ zw_f5 I I' ∧ zF_re F F' := by
  have hH := zw_HH hn (I 54) set
  have pq := hH.2.1
  have out : ∀ pl s, n ≤ s → s < 12 → bt (zh_P n (I 54) set (nI pl)) s = false := fun pl s a b => by unfold zh_P; exact zu_set_out (by omega) a
  have E : ∀ pl, zw_l (bt (zh_P n (I 54) set (nI pl))) n = zw_s n (I 54) set pl := fun pl => (zw_l_more hn (out pl)).symm
  obtain ⟨X, u', b1, b2, b3, b4, b5⟩ := zm_s7 (N := N) (J := J) (F := F) hn hf (I := I) (set := set) rfl h1 rfl rfl n 0 (N - 1) I (by omega) (by omega) (fun _ _ _ => rfl) (fun i hi => absurd hi (Nat.not_lt_zero i)) (fun i hi => absurd hi (Nat.not_lt_zero i))
  rw [E 0, E 1] at b2
  rw [E 0] at b4
  rw [E 1] at b5
  have cx : zw_cx (zw_p n (I 54) set 0) (zw_p n (I 54) set 1) (zw_a n (I 54) set 0) (zw_a n (I 54) set 1) c m t (I 54) (I 53 13) X F := ⟨zr_rv_c ru (by rw [b3 52 (by omega) (by omega)]) (b3 58 (by omega) (by omega)) (b3 59 (by omega) (by omega)) (zF_refl F), b3 54 (by omega) (by omega), by rw [b3 53 (by omega) (by omega)], b4, b5⟩
  obtain ⟨I', F', c1, c2, c3⟩ := zm_s71 hN hf hL hH hW (J := J) (zw_p n (I 54) set 0 + 1) u' X F (by omega) (by omega) cx (fun i' j' h1 h2 h3 => by omega)
  rw [nI_pred] at c1
  refine ⟨I', F', ?_, ⟨fun y h60 h52 h74 h75 h76 => by rw [c2.1 y h60 h52 h74, b3 y h75 h76], fun i a1 a2 a3 a4 a5 => by rw [c2.2 i a1 a2 a3 a4 a5, b3 52 (by omega) (by omega)]⟩, c3⟩
  have := b2.trans c1
  obtain ⟨M, rfl⟩ := zu_one N hN
  rw [zo_X12_shortestOf]
  exact this
