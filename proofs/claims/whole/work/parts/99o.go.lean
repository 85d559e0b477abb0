/-! THE REFERENCE GOES THROUGH ALL WEAVES -/
def zw_H (n : Nat) (f : Nat → Int32) (p q : Nat) (A B : Nat → Nat) : Prop := n ≤ 12 ∧ p + q ≤ 12 ∧ (∀ i, i < p → A i < n ∧ f (7 * A i) = nI 0) ∧ (∀ j, j < q → B j < n ∧ f (7 * B j) = nI 1) ∧ (∀ i i', i < i' → i' < p → A i < A i') ∧ (∀ j j', j < j' → j' < q → B j < B j')
def zw_lft (p q : Nat) (A B : Nat → Nat) (i j : Nat) (x : Int32) : Prop := ∀ s, s < 32 → (bt x s = true ↔ (∃ i', i ≤ i' ∧ i' < p ∧ A i' = s) ∨ ∃ j', j ≤ j' ∧ j' < q ∧ B j' = s)
theorem zm_first {N : Nat} (hN : 100000 ≤ N) {I : Nat → Nat → Int32} {J : Nat → Nat → Int64} {x : Int32} {a : Nat} (ha : a < 12) (h1 : bt x a = true) (h2 : ∀ s, s < a → bt x s = false) (h3 : ∀ s, 12 ≤ s → s < 32 → bt x s = false) : zf_X12_firstOf N x I J = some (nI a, I, J) := by
  have x0 : ¬ x = 0 := fun w => by rw [w, b_0] at h1; cases h1
  obtain ⟨M, rfl⟩ := zu_one N hN
  have e : zf_J6_numberOfTrailingZeros (M + 1) x I J = some (zh_tz x, I, J) := by
    rw [zo_J6_numberOfTrailingZeros]
    exact zb_tz _ _ _ _ _
  obtain ⟨k1, k2⟩ := zu_nat (x := x) (fun i h1 h2 => h3 i (by omega) (by omega))
  have tz := zh_tzN k1 (fun w => x0 (by rw [k2, w]; rfl))
  rw [← k2, zu_fs_one (p := fun i => bt x i) ha h1 h2] at tz
  rw [zo_X12_firstOf]
  unfold zb_X12_firstOf_0
  rw [if_pos x0, e, Option.bind_some, tz]
theorem zm_first0 {N : Nat} (hN : 100000 ≤ N) {I : Nat → Nat → Int32} {J : Nat → Nat → Int64} : zf_X12_firstOf N 0 I J = some (-1, I, J) := by
  obtain ⟨M, rfl⟩ := zu_one N hN
  rw [zo_X12_firstOf]
  unfold zb_X12_firstOf_0
  rw [if_neg (fun w => w rfl)]
/-- the next of a play among what is left -/
theorem zm_nf {N n : Nat} (hN : 100000 ≤ N) {I : Nat → Nat → Int32} {J : Nat → Nat → Int64} (h1 : I 52 1 = nI n) {p q : Nat} {A B : Nat → Nat} (hH : zw_H n (I 54) p q A B) {i j : Nat} {x : Int32} (hx : zw_lft p q A B i j x) :
    (∃ y, zf_X12_ofPlay N x (nI 0) I J = some (y, I, J) ∧ zf_X12_firstOf N y I J = some (if i < p then nI (A i) else -1, I, J)) ∧ ∃ y, zf_X12_ofPlay N x (nI 1) I J = some (y, I, J) ∧ zf_X12_firstOf N y I J = some (if j < q then nI (B j) else -1, I, J) := by
  obtain ⟨hn, pq, hA, hB, mA, mB⟩ := hH
  have bts : ∀ v : Int32, ∀ s, s < n → bt (zh_P n (I 54) x v) s = (bt x s && decide (I 54 (7 * s) = v)) := fun v s hs => zu_set_at (by omega) hs
  have bto : ∀ v : Int32, ∀ s, n ≤ s → bt (zh_P n (I 54) x v) s = false := fun v s hs => zu_set_out (by omega) hs
  have dAB : ∀ i' j', i' < p → j' < q → A i' ≠ B j' := fun i' j' a b w => by
    have e1 := (hA i' a).2
    rw [w, (hB j' b).2] at e1
    exact absurd e1 (by decide)
  constructor
  · refine ⟨_, zm_ofPlay hN hn h1 _ _, ?_⟩
    by_cases c : i < p
    · rw [if_pos c, zm_first hN (a := A i) (by have := (hA i c).1; omega) (by
        rw [bts _ _ (hA i c).1, (hx (A i) (by have := (hA i c).1; omega)).mpr (.inl ⟨i, Nat.le_refl i, c, rfl⟩), (hA i c).2]
        rfl) (fun s hs => by
        rw [bts _ _ (by have := (hA i c).1; omega)]
        cases hb : bt x s with
        | false => rfl
        | true =>
          rcases (hx s (by have := (hA i c).1; omega)).mp hb with ⟨i', a1, a2, a3⟩ | ⟨j', a1, a2, a3⟩
          · exfalso
            rcases Nat.lt_or_ge i i' with z | z
            · have := mA i i' z a2; omega
            · have : i' = i := by omega
              subst this; omega
          · rw [← a3, (hB j' a2).2]; rfl) (fun s s1 s2 => bto _ s (by omega))]
    · have z : zh_P n (I 54) x (nI 0) = 0 := by
        unfold zh_P
        refine (zu_set_zero (by omega)).mpr (fun s hs => ?_)
        cases hb : bt x s with
        | false => rfl
        | true =>
          rcases (hx s (by omega)).mp hb with ⟨i', a1, a2, a3⟩ | ⟨j', a1, a2, a3⟩
          · omega
          · rw [← a3, (hB j' a2).2]; rfl
      rw [if_neg c, z, zm_first0 hN]
  · refine ⟨_, zm_ofPlay hN hn h1 _ _, ?_⟩
    by_cases c : j < q
    · rw [if_pos c, zm_first hN (a := B j) (by have := (hB j c).1; omega) (by
        rw [bts _ _ (hB j c).1, (hx (B j) (by have := (hB j c).1; omega)).mpr (.inr ⟨j, Nat.le_refl j, c, rfl⟩), (hB j c).2]
        rfl) (fun s hs => by
        rw [bts _ _ (by have := (hB j c).1; omega)]
        cases hb : bt x s with
        | false => rfl
        | true =>
          rcases (hx s (by have := (hB j c).1; omega)).mp hb with ⟨i', a1, a2, a3⟩ | ⟨j', a1, a2, a3⟩
          · rw [← a3, (hA i' a2).2]; rfl
          · exfalso
            rcases Nat.lt_or_ge j j' with z | z
            · have := mB j j' z a2; omega
            · have : j' = j := by omega
              subst this; omega) (fun s s1 s2 => bto _ s (by omega))]
    · have z : zh_P n (I 54) x (nI 1) = 0 := by
        unfold zh_P
        refine (zu_set_zero (by omega)).mpr (fun s hs => ?_)
        cases hb : bt x s with
        | false => rfl
        | true =>
          rcases (hx s (by omega)).mp hb with ⟨i', a1, a2, a3⟩ | ⟨j', a1, a2, a3⟩
          · rw [← a3, (hA i' a2).2]; rfl
          · omega
      rw [if_neg c, z, zm_first0 hN]
/-- one is taken out of what is left -/
theorem zw_lft0 {n : Nat} {f : Nat → Int32} {p q : Nat} {A B : Nat → Nat} (hH : zw_H n f p q A B) {i j : Nat} {x : Int32} (hx : zw_lft p q A B i j x) (c : i < p) : zw_lft p q A B (i + 1) j (x &&& (((1 : Int32) <<< (nI (A i) &&& 31)) ^^^ (-1))) := by
  obtain ⟨hn, pq, hA, hB, mA, mB⟩ := hH
  intro s hs
  have a12 := (hA i c).1
  rw [b_and, b_not hs, b_bit (A i) (by omega) hs, Bool.and_eq_true, hx s hs]
  constructor
  · intro ⟨h1, h2⟩
    have ne : s ≠ A i := fun w => by subst w; simp at h2
    rcases h1 with ⟨i', a1, a2, a3⟩ | w
    · refine .inl ⟨i', ?_, a2, a3⟩
      rcases Nat.lt_or_ge i i' with z | z
      · omega
      · exfalso; apply ne; rw [← a3, show i' = i by omega]
    · exact .inr w
  · intro h1
    have ne : s ≠ A i := fun w => by
      rcases h1 with ⟨i', a1, a2, a3⟩ | ⟨j', a1, a2, a3⟩
      · have := mA i i' (by omega) a2; omega
      · have e1 := (hA i c).2
        rw [← w, ← a3, (hB j' a2).2] at e1
        exact absurd e1 (by decide)
    refine ⟨?_, by simp [ne]⟩
    rcases h1 with ⟨i', a1, a2, a3⟩ | w
    · exact .inl ⟨i', by omega, a2, a3⟩
    · exact .inr w
theorem zw_lft1 {n : Nat} {f : Nat → Int32} {p q : Nat} {A B : Nat → Nat} (hH : zw_H n f p q A B) {i j : Nat} {x : Int32} (hx : zw_lft p q A B i j x) (c : j < q) : zw_lft p q A B i (j + 1) (x &&& (((1 : Int32) <<< (nI (B j) &&& 31)) ^^^ (-1))) := by
  obtain ⟨hn, pq, hA, hB, mA, mB⟩ := hH
  intro s hs
  have a12 := (hB j c).1
  rw [b_and, b_not hs, b_bit (B j) (by omega) hs, Bool.and_eq_true, hx s hs]
  constructor
  · intro ⟨h1, h2⟩
    have ne : s ≠ B j := fun w => by subst w; simp at h2
    rcases h1 with w | ⟨i', a1, a2, a3⟩
    · exact .inl w
    · refine .inr ⟨i', ?_, a2, a3⟩
      rcases Nat.lt_or_ge j i' with z | z
      · omega
      · exfalso; apply ne; rw [← a3, show i' = j by omega]
  · intro h1
    have ne : s ≠ B j := fun w => by
      rcases h1 with ⟨j', a1, a2, a3⟩ | ⟨i', a1, a2, a3⟩
      · have e1 := (hB j c).2
        rw [← w, ← a3, (hA j' a2).2] at e1
        exact absurd e1 (by decide)
      · have := mB j i' (by omega) a2; omega
    refine ⟨?_, by simp [ne]⟩
    rcases h1 with w | ⟨i', a1, a2, a3⟩
    · exact .inl w
    · exact .inr ⟨i', by omega, a2, a3⟩
def zw_fr (I I' : Nat → Nat → Int32) : Prop := (∀ y, y ≠ 60 → y ≠ 52 → y ≠ 65 → y ≠ 66 → y ≠ 67 → y ≠ 68 → y ≠ 69 → y ≠ 70 → y ≠ 71 → y ≠ 73 → I' y = I y) ∧ ∀ i, i ≠ 9 → i ≠ 10 → i ≠ 11 → i ≠ 12 → i ≠ 17 → i ≠ 28 → i ≠ 29 → i ≠ 30 → i ≠ 35 → I' 52 i = I 52 i
theorem zw_fr_refl (I : Nat → Nat → Int32) : zw_fr I I := ⟨fun _ _ _ _ _ _ _ _ _ _ _ => rfl, fun _ _ _ _ _ _ _ _ _ _ => rfl⟩
theorem zw_fr_trans {I I' I'' : Nat → Nat → Int32} (h : zw_fr I I') (h2 : zw_fr I' I'') : zw_fr I I'' := ⟨fun y a b c d e f g i j k => (h2.1 y a b c d e f g i j k).trans (h.1 y a b c d e f g i j k), fun y a b c d e f g i j => (h2.2 y a b c d e f g i j).trans (h.2 y a b c d e f g i j)⟩
def zw_last (L : Int32) (x : Nat) : Int32 := if x = 12 then L else nI x
theorem zw_cT {n : Nat} {m : Nat} {t f : Nat → Int32} (hf : ∀ s, s < n → zi_fd (fun w => f (7 * s + w))) {L : Int32} {x s : Nat} (hs : s < n) (hn : n ≤ 12) (hx : x = 12 ∨ x < n) (hL : L = -1 ∨ ∃ s, s < n ∧ L = nI s) : zw_c m t f L x s ≤ 108 := by
  obtain ⟨_, ⟨v, _, hv, e⟩, _⟩ := hf s hs
  have e : f (7 * s + 1) = nI v := e
  unfold zw_c
  rw [e, nI_clamp (by omega)]
  by_cases q : x = 12
  · rw [if_pos q]
    by_cases z : L = -1
    · rw [if_pos z]; omega
    · rw [if_neg z]
      obtain ⟨k, hk, ek⟩ := zq_chgN m t (fun w => f (7 * L.toNatClampNeg + w)) (fun w => f (7 * s + w))
      rw [ek, nI_clamp (by omega)]; omega
  · rw [if_neg q]
    obtain ⟨k, hk, ek⟩ := zq_chgN m t (fun w => f (7 * x + w)) (fun w => f (7 * s + w))
    rw [ek, nI_clamp (by omega)]; omega
/-- a play's next scene is taken: up to the weaves behind it -/
theorem zm_child {N n : Nat} (hN : 100000 ≤ N) {call : Nat → Int32 → Int32 → Int32 → Int32 → (Nat → Nat → Int32) → (Nat → Nat → Int64) → zz_F → Option (Int32 × (Nat → Nat → Int32) × (Nat → Nat → Int64) × zz_F)} {I : Nat → Nat → Int32} {J : Nat → Nat → Int64} {F : zz_F} {m : Nat} {t f : Nat → Int32} (hn : n ≤ 12) (hf : ∀ s, s < n → zi_fd (fun w => f (7 * s + w))) (ru : zr_ru m t I F) (h54 : I 54 = f) {L : Int32} (hL : L = -1 ∨ ∃ s, s < n ∧ L = nI s) {x : Nat} (hx : x = 12 ∨ x < n) {s pl k T : Nat} (hs : s < n) (hpl : pl ≤ 1) (hk : k < 12) (hT : T ≤ 2000) {a : zw_K} (hR : zw_R I a) {left y : Int32} (ho : zf_X12_ofPlay N left (nI pl) I J = some (y, I, J)) (hfo : zf_X12_firstOf N y I J = some (nI s, I, J)) {u : Nat} (hu : 5 < u) :
    ∃ I3 F3 v, u ≤ v + 5 ∧ zl_X12_goWeaves N call u 32 left (zw_last L x) (nI k) (nI T) (nI pl) 0 0 I J F = ((call 0 (left &&& (((1 : Int32) <<< (nI s &&& 31)) ^^^ (-1))) (nI s) (nI (k + 1)) (nI (T + zw_c m t f L x s)) I3 J F3).bind fun r12 => zl_X12_goWeaves N call v 32 left (zw_last L x) (nI k) (nI T) (nI (pl + 1)) 0 0 (zz_u r12.2.1 67 pl (I 67 pl)) r12.2.2.1 r12.2.2.2) ∧ zw_R I3 (zw_n2 a s k (T + zw_c m t f L x s)) ∧ zw_fr I I3 ∧ zr_ru m t I3 F3 ∧ zF_re F F3 ∧ I3 65 k = nI pl ∧ (∀ k', k' ≠ k → I3 65 k' = I 65 k') ∧ I3 67 pl = nI (T + zw_c m t f L x s) ∧ ∀ z, z ≠ pl → I3 67 z = I 67 z := by
  obtain ⟨w, rfl⟩ : ∃ w, u = w + 5 := ⟨u - 5, by omega⟩
  have WT := zw_cT (m := m) (t := t) hf hs hn hx hL
  have ns : ¬ nI s = -1 := fun q => nI_pos (n := s) (by omega) (by rw [q]; decide)
  have g1 : ¬ (((7 : Int32) * nI s + 1) < 0 ∨ 84 ≤ ((7 : Int32) * nI s + 1).toNatClampNeg) := by rw [zu_71]; exact nI_in (by omega) (by omega)
  have g2 : ¬ (nI s < 0 ∨ 12 ≤ (nI s).toNatClampNeg) := nI_in (by omega) (by omega)
  obtain ⟨_, ⟨mi, _, hmi, emi⟩, _⟩ := hf s hs
  have emi : f (7 * s + 1) = nI mi := emi
  -- behind the minutes
  have aft : ∀ (u : Nat) (I1 : Nat → Nat → Int32) (F1 : zz_F), u = w + 4 → zr_fr I I1 → zF_re F F1 → ∃ I3 F3 v, w + 5 ≤ v + 5 ∧ (if nI (T + zw_c m t f L x s) < I1 70 s then zl_X12_goWeaves N call u 123 left (zw_last L x) (nI k) (nI T) (nI pl) (nI s) (nI (T + zw_c m t f L x s)) I1 J F1 else if ¬ nI (T + zw_c m t f L x s) = I1 70 s then zl_X12_goWeaves N call u 140 left (zw_last L x) (nI k) (nI T) (nI pl) (nI s) (nI (T + zw_c m t f L x s)) I1 J F1 else if I1 71 s ≤ nI k then zl_X12_goWeaves N call u 140 left (zw_last L x) (nI k) (nI T) (nI pl) (nI s) (nI (T + zw_c m t f L x s)) I1 J F1 else zl_X12_goWeaves N call u 123 left (zw_last L x) (nI k) (nI T) (nI pl) (nI s) (nI (T + zw_c m t f L x s)) I1 J F1) = ((call 0 (left &&& (((1 : Int32) <<< (nI s &&& 31)) ^^^ (-1))) (nI s) (nI (k + 1)) (nI (T + zw_c m t f L x s)) I3 J F3).bind fun r12 => zl_X12_goWeaves N call v 32 left (zw_last L x) (nI k) (nI T) (nI (pl + 1)) 0 0 (zz_u r12.2.1 67 pl (I 67 pl)) r12.2.2.1 r12.2.2.2) ∧ zw_R I3 (zw_n2 a s k (T + zw_c m t f L x s)) ∧ zw_fr I I3 ∧ zr_ru m t I3 F3 ∧ zF_re F F3 ∧ I3 65 k = nI pl ∧ (∀ k', k' ≠ k → I3 65 k' = I 65 k') ∧ I3 67 pl = nI (T + zw_c m t f L x s) ∧ ∀ z, z ≠ pl → I3 67 z = I 67 z := by
    intro u I1 F1 hu fr fF
    subst hu
    obtain ⟨r1, r2, r3, r4, r5, r6, r7, r8, r9, r10⟩ := hR
    have o : ∀ y, y ≠ 60 → y ≠ 52 → I1 y = I y := fr.1
    have c70 : I1 70 s = a.2.2.2.2.2.2.2.2.1 s := by rw [o 70 (by omega) (by omega)]; exact (r10 s (by omega)).1
    have c71 : I1 71 s = a.2.2.2.2.2.2.2.2.2 s := by rw [o 71 (by omega) (by omega)]; exact (r10 s (by omega)).2
    generalize zw_c m t f L x s = c at WT ⊢
    -- the call itself
    have cl : ∀ (v : Nat) (I2 : Nat → Nat → Int32), I2 67 = I 67 → zl_X12_goWeaves N call (v + 2) 140 left (zw_last L x) (nI k) (nI T) (nI pl) (nI s) (nI (T + c)) I2 J F1 = ((call 0 (left &&& (((1 : Int32) <<< (nI s &&& 31)) ^^^ (-1))) (nI s) (nI (k + 1)) (nI (T + c)) (zz_u (zz_u I2 65 k (nI pl)) 67 pl (nI (T + c))) J F1).bind fun r12 => zl_X12_goWeaves N call v 32 left (zw_last L x) (nI k) (nI T) (nI (pl + 1)) 0 0 (zz_u r12.2.1 67 pl (I 67 pl)) r12.2.2.1 r12.2.2.2) := fun v I2 h67 => by
      rw [ze_X12_goWeaves_140]
      unfold zb_X12_goWeaves_140
      rw [if_pos (nI_in (show pl < 2 by omega) (by omega)), if_pos (nI_in (show k < 12 by omega) (by omega)), nI_clamp (by omega), nI_clamp (by omega), nI_1, h67]
      congr 1
      funext r12
      rw [ze_X12_goWeaves_194]
      unfold zb_X12_goWeaves_194
      rw [nI_1]
    have R3 : ∀ I2 : Nat → Nat → Int32, (∀ y, y ≠ 60 → y ≠ 52 → y ≠ 70 → y ≠ 71 → I2 y = I y) → (∀ i, i ≠ 9 → i ≠ 10 → i ≠ 11 → i ≠ 12 → i ≠ 17 → I2 52 i = I 52 i) → (∀ s', s' < 12 → I2 70 s' = (zw_n2 a s k (T + c)).2.2.2.2.2.2.2.2.1 s' ∧ I2 71 s' = (zw_n2 a s k (T + c)).2.2.2.2.2.2.2.2.2 s') → zw_R (zz_u (zz_u I2 65 k (nI pl)) 67 pl (nI (T + c))) (zw_n2 a s k (T + c)) ∧ zw_fr I (zz_u (zz_u I2 65 k (nI pl)) 67 pl (nI (T + c))) ∧ zr_ru m t (zz_u (zz_u I2 65 k (nI pl)) 67 pl (nI (T + c))) F1 ∧ (∀ k', k' ≠ k → zz_u (zz_u I2 65 k (nI pl)) 67 pl (nI (T + c)) 65 k' = I 65 k') ∧ ∀ z, z ≠ pl → zz_u (zz_u I2 65 k (nI pl)) 67 pl (nI (T + c)) 67 z = I 67 z := fun I2 q1 q2 q3 => by
      have z : ∀ y, y ≠ 65 → y ≠ 67 → zz_u (zz_u I2 65 k (nI pl)) 67 pl (nI (T + c)) y = I2 y := fun y a b => by rw [zu_ux b, zu_ux a]
      have z52 := z 52 (by omega) (by omega)
      refine ⟨⟨?_, ?_, ?_, fun i hi => ?_, ?_, fun l hl i hi => ?_, ?_, ?_, fun k' hk' => ?_, fun s' hs' => ?_⟩, ⟨fun y a1 a2 a3 a4 a5 a6 a7 a8 a9 a10 => by rw [z y a3 a5, q1 y a1 a2 a8 a9], fun i a1 a2 a3 a4 a5 a6 a7 a8 a9 => by rw [z52, q2 i a1 a2 a3 a4 a5]⟩, ?_, fun k' hk' => ?_, fun z hz => ?_⟩
      · rw [z52, q2 28 (by omega) (by omega) (by omega) (by omega) (by omega)]; exact r1
      · rw [z52, q2 30 (by omega) (by omega) (by omega) (by omega) (by omega)]; exact r2
      · rw [z52, q2 29 (by omega) (by omega) (by omega) (by omega) (by omega)]; exact r3
      · rw [z 66 (by omega) (by omega), q1 66 (by omega) (by omega) (by omega) (by omega)]; exact r4 i hi
      · rw [z52, q2 35 (by omega) (by omega) (by omega) (by omega) (by omega)]; exact r5
      · rw [z 73 (by omega) (by omega), q1 73 (by omega) (by omega) (by omega) (by omega)]; exact r6 l hl i hi
      · rw [z 69 (by omega) (by omega), q1 69 (by omega) (by omega) (by omega) (by omega)]; exact r7
      · rw [z 69 (by omega) (by omega), q1 69 (by omega) (by omega) (by omega) (by omega)]; exact r8
      · rw [z 68 (by omega) (by omega), q1 68 (by omega) (by omega) (by omega) (by omega)]; exact r9 k' hk'
      · rw [z 70 (by omega) (by omega), z 71 (by omega) (by omega)]; exact q3 s' hs'
      · have := zr_ru_c ru fr fF
        exact ⟨this.1, by rw [z52, q2 16 (by omega) (by omega) (by omega) (by omega) (by omega)]; exact ru.2.1, by rw [z 58 (by omega) (by omega), q1 58 (by omega) (by omega) (by omega) (by omega)]; exact ru.2.2.1, this.2.2.2⟩
      · rw [zu_ux (by omega), zz_un (fun w => hk' w.2), q1 65 (by omega) (by omega) (by omega) (by omega)]
      · rw [zz_un (fun w => hz w.2), zu_ux (by omega), q1 67 (by omega) (by omega) (by omega) (by omega)]
    have n2a : (zw_n2 a s k (T + c)).2.2.2.2.2.2.2.2.1 = @ite _ (zw_nb a s k (T + c)) (Classical.propDecidable _) (zh_up a.2.2.2.2.2.2.2.2.1 s (nI (T + c))) a.2.2.2.2.2.2.2.2.1 := rfl
    have n2b : (zw_n2 a s k (T + c)).2.2.2.2.2.2.2.2.2 = @ite _ (zw_nb a s k (T + c)) (Classical.propDecidable _) (zh_up a.2.2.2.2.2.2.2.2.2 s (nI k)) a.2.2.2.2.2.2.2.2.2 := rfl
    by_cases b : zw_nb a s k (T + c)
    · have sel : (if nI (T + c) < I1 70 s then zl_X12_goWeaves N call (w + 4) 123 left (zw_last L x) (nI k) (nI T) (nI pl) (nI s) (nI (T + c)) I1 J F1 else if ¬ nI (T + c) = I1 70 s then zl_X12_goWeaves N call (w + 4) 140 left (zw_last L x) (nI k) (nI T) (nI pl) (nI s) (nI (T + c)) I1 J F1 else if I1 71 s ≤ nI k then zl_X12_goWeaves N call (w + 4) 140 left (zw_last L x) (nI k) (nI T) (nI pl) (nI s) (nI (T + c)) I1 J F1 else zl_X12_goWeaves N call (w + 4) 123 left (zw_last L x) (nI k) (nI T) (nI pl) (nI s) (nI (T + c)) I1 J F1) = zl_X12_goWeaves N call (w + 4) 123 left (zw_last L x) (nI k) (nI T) (nI pl) (nI s) (nI (T + c)) I1 J F1 := by
        rw [c70, c71]
        by_cases d1 : nI (T + c) < a.2.2.2.2.2.2.2.2.1 s
        · rw [if_pos d1]
        · obtain ⟨d2, d3⟩ := b.resolve_left d1
          rw [if_neg d1, if_neg (fun w => w d2), if_neg (Int32.not_le.mpr d3)]
      have e123 : zl_X12_goWeaves N call (w + 4) 123 left (zw_last L x) (nI k) (nI T) (nI pl) (nI s) (nI (T + c)) I1 J F1 = zl_X12_goWeaves N call (w + 3) 140 left (zw_last L x) (nI k) (nI T) (nI pl) (nI s) (nI (T + c)) (zz_u (zz_u I1 70 s (nI (T + c))) 71 s (nI k)) J F1 := by
        rw [ze_X12_goWeaves_123]
        unfold zb_X12_goWeaves_123
        rw [if_pos g2, nI_clamp (by omega)]
      obtain ⟨k1, k2, k3, k4, k5⟩ := R3 (zz_u (zz_u I1 70 s (nI (T + c))) 71 s (nI k)) (fun y a1 a2 a3 a4 => by rw [zu_ux a4, zu_ux a3, o y a1 a2]) (fun i a1 a2 a3 a4 a5 => by rw [zu_ux (by omega), zu_ux (by omega), fr.2 i a1 a2 a3 a4 a5]) (fun s' hs' => by
        rw [n2a, n2b, if_pos b, if_pos b]
        by_cases e : s' = s
        · rw [e]
          refine ⟨by rw [zu_ux (by omega), zz_us]; exact (if_pos rfl).symm, by rw [zz_us]; exact (if_pos rfl).symm⟩
        · refine ⟨?_, ?_⟩
          · rw [zu_ux (by omega), zz_un (fun w => e w.2), o 70 (by omega) (by omega), (r10 s' hs').1]; exact (if_neg e).symm
          · rw [zz_un (fun w => e w.2), zu_ux (by omega), o 71 (by omega) (by omega), (r10 s' hs').2]; exact (if_neg e).symm)
      exact ⟨_, F1, w + 1, by omega, sel.trans (e123.trans (cl (w + 1) _ (by rw [zu_ux (by omega), zu_ux (by omega), o 67 (by omega) (by omega)]))), k1, k2, k3, fF, by rw [zu_ux (by omega), zz_us], k4, zz_us _ _ _ _, k5⟩
    · have sel : (if nI (T + c) < I1 70 s then zl_X12_goWeaves N call (w + 4) 123 left (zw_last L x) (nI k) (nI T) (nI pl) (nI s) (nI (T + c)) I1 J F1 else if ¬ nI (T + c) = I1 70 s then zl_X12_goWeaves N call (w + 4) 140 left (zw_last L x) (nI k) (nI T) (nI pl) (nI s) (nI (T + c)) I1 J F1 else if I1 71 s ≤ nI k then zl_X12_goWeaves N call (w + 4) 140 left (zw_last L x) (nI k) (nI T) (nI pl) (nI s) (nI (T + c)) I1 J F1 else zl_X12_goWeaves N call (w + 4) 123 left (zw_last L x) (nI k) (nI T) (nI pl) (nI s) (nI (T + c)) I1 J F1) = zl_X12_goWeaves N call (w + 4) 140 left (zw_last L x) (nI k) (nI T) (nI pl) (nI s) (nI (T + c)) I1 J F1 := by
        rw [c70, c71]
        rw [if_neg (fun d1 => b (.inl d1))]
        by_cases d2 : nI (T + c) = a.2.2.2.2.2.2.2.2.1 s
        · rw [if_neg (fun w => w d2), if_pos (Int32.not_lt.mp (fun d3 => b (.inr ⟨d2, d3⟩)))]
        · rw [if_pos d2]
      obtain ⟨k1, k2, k3, k4, k5⟩ := R3 I1 (fun y a1 a2 a3 a4 => o y a1 a2) (fun i a1 a2 a3 a4 a5 => fr.2 i a1 a2 a3 a4 a5) (fun s' hs' => by
        rw [n2a, n2b, if_neg b, if_neg b, o 70 (by omega) (by omega), o 71 (by omega) (by omega)]
        exact r10 s' hs')
      exact ⟨_, F1, w + 2, by omega, sel.trans (cl (w + 2) _ (o 67 (by omega) (by omega))), k1, k2, k3, fF, by rw [zu_ux (by omega), zz_us], k4, zz_us _ _ _ _, k5⟩
  rw [ze_X12_goWeaves_32]
  unfold zb_X12_goWeaves_32
  rw [if_neg (show ¬ (2 : Int32) ≤ nI pl from nI_ge (b := 2) (by omega) (by omega)), ho, Option.bind_some]
  dsimp only
  rw [hfo, Option.bind_some]
  dsimp only
  rw [if_pos ns]
  by_cases z : zw_last L x = -1
  · have x12 : x = 12 := hx.resolve_right (fun q => by
      unfold zw_last at z
      rw [if_neg (by omega)] at z
      exact nI_pos (n := x) (by omega) (by rw [z]; decide))
    have L1 : L = -1 := by
      unfold zw_last at z
      rw [if_pos x12] at z
      exact z
    have cv : zw_c m t f L x s = mi := by
      unfold zw_c
      rw [if_pos x12, if_pos L1, emi, nI_clamp (by omega), Nat.zero_add]
    rw [if_neg (fun w => w z), if_pos g1, if_pos g2, zu_f1 (by omega), h54, emi, Int32.add_zero, nI_add, nI_clamp (show s < 2 ^ 31 by omega), ← cv]
    exact aft (w + 4) I F rfl (zr_fr_refl I) (zF_refl F)
  · rw [if_pos z]
    obtain ⟨x', hx', ex', ec⟩ : ∃ x', x' < n ∧ zw_last L x = nI x' ∧ zw_c m t f L x s = (zq_chg m t (fun w => f (7 * x' + w)) (fun w => f (7 * s + w))).toNatClampNeg + mi := by
      unfold zw_last at z ⊢
      unfold zw_c
      rw [emi, nI_clamp (show mi < 2 ^ 31 by omega)]
      by_cases q : x = 12
      · rw [if_pos q] at z ⊢
        obtain ⟨l, hl, el⟩ := hL.resolve_left z
        exact ⟨l, hl, el, by rw [if_pos q, if_neg z, el, nI_clamp (by omega)]⟩
      · rw [if_neg q]
        exact ⟨x, hx.resolve_left q, rfl, by rw [if_neg q]⟩
    obtain ⟨I1, F1, c1, c2, c3⟩ := zm_chg hN (J := J) ru (show x' < 12 by omega) (show s < 12 by omega)
    rw [h54] at c1
    obtain ⟨kk, hkk, ekk⟩ := zq_chgN m t (fun w => f (7 * x' + w)) (fun w => f (7 * s + w))
    rw [ekk] at c1 ec
    rw [nI_clamp (by omega)] at ec
    rw [ex', c1, Option.bind_some]
    dsimp only
    have h541 : I1 54 = f := by rw [c2.1 54 (by omega) (by omega)]; exact h54
    rw [if_pos g1, if_pos g2, zu_f1 (by omega), h541, emi, nI_add, nI_add, nI_clamp (show s < 2 ^ 31 by omega), show T + kk + mi = T + zw_c m t f L x s by omega, ← ex']
    exact aft (w + 4) I1 F1 rfl c2 c3
