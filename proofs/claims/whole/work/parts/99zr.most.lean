/-! THE MOST OVER ALL ORDERS: sets, and what a greatest number is -/
def zc_M (m : Nat) (P : Nat → Prop) (v : Nat → Int32) (x : Int32) : Prop := 0 ≤ x ∧ (x = 0 ∨ ∃ k, k < m ∧ P k ∧ x = v k) ∧ ∀ k, k < m → P k → v k ≤ x
theorem zc_Mle {m : Nat} {P : Nat → Prop} {v : Nat → Int32} {x y : Int32} (h : zc_M m P v x) (h2 : zc_M m P v y) : x ≤ y := by
  rcases h.2.1 with e | ⟨k, hk, p, e⟩
  · rw [e]; exact h2.1
  · rw [e]; exact h2.2.2 k hk p
theorem zc_Mu {m : Nat} {P : Nat → Prop} {v : Nat → Int32} {x y : Int32} (h : zc_M m P v x) (h2 : zc_M m P v y) : x = y := by
  have a := zc_Mle h h2
  have b := zc_Mle h2 h
  rw [Int32.le_iff_toInt_le] at a b
  exact Int32.toInt_inj.mp (by omega)
theorem zc_M0 {m : Nat} {P : Nat → Prop} {v : Nat → Int32} (h : ∀ k, k < m → ¬ P k) : zc_M m P v 0 := ⟨Int32.le_refl 0, .inl rfl, fun k hk p => (h k hk p).elim⟩
theorem zc_Mc {m : Nat} {P P' : Nat → Prop} {v v' : Nat → Int32} {x : Int32} (h : zc_M m P v x) (hP : ∀ j, j < m → (P' j ↔ P j)) (hv : ∀ j, j < m → P j → v' j = v j) : zc_M m P' v' x := by
  refine ⟨h.1, ?_, fun k hk p => ?_⟩
  · rcases h.2.1 with e | ⟨k, hk, p, e⟩
    · exact .inl e
    · exact .inr ⟨k, hk, (hP k hk).mpr p, by rw [hv k hk p]; exact e⟩
  · have p' := (hP k hk).mp p
    rw [hv k hk p']
    exact h.2.2 k hk p'
theorem zc_M1 {m k : Nat} {P P' : Nat → Prop} {v v' : Nat → Int32} {x w : Int32} (h : zc_M m P v x) (hk : k < m) (hP : ∀ j, j < m → (P' j ↔ P j ∨ j = k)) (hv : ∀ j, j < m → P j → v' j = v j) (hw : v' k = w) : zc_M m P' v' (zz_max x w) := by
  have nl : ∀ {a b : Int32}, ¬ a < b → b ≤ a := fun {a b} q => by
    rw [Int32.lt_iff_toInt_lt] at q
    rw [Int32.le_iff_toInt_le]; omega
  have ll : ∀ {a b : Int32}, a < b → a ≤ b := fun {a b} q => by
    rw [Int32.lt_iff_toInt_lt] at q
    rw [Int32.le_iff_toInt_le]; omega
  have tr : ∀ {a b c : Int32}, a ≤ b → b ≤ c → a ≤ c := fun {a b c} q r => by
    rw [Int32.le_iff_toInt_le] at q r ⊢; omega
  unfold zz_max
  by_cases q : x < w
  · rw [if_pos q]
    refine ⟨tr h.1 (ll q), .inr ⟨k, hk, (hP k hk).mpr (.inr rfl), hw.symm⟩, fun j hj p => ?_⟩
    rcases (hP j hj).mp p with p | p
    · rw [hv j hj p]; exact tr (h.2.2 j hj p) (ll q)
    · rw [p, hw]; exact Int32.le_refl w
  · rw [if_neg q]
    refine ⟨h.1, ?_, fun j hj p => ?_⟩
    · rcases h.2.1 with e | ⟨j, hj, p, e⟩
      · exact .inl e
      · exact .inr ⟨j, hj, (hP j hj).mpr (.inl p), by rw [hv j hj p]; exact e⟩
    · rcases (hP j hj).mp p with p | p
      · rw [hv j hj p]; exact h.2.2 j hj p
      · rw [p, hw]; exact nl q
/-- one bit taken out of a set -/
theorem zc_del {T k : Nat} (h : T.testBit k = true) (j : Nat) : (T - 2 ^ k).testBit j = (T.testBit j && !decide (j = k)) := by
  have e := Nat.div_add_mod T (2 ^ (k + 1))
  have l := Nat.mod_lt T (Nat.two_pow_pos (k + 1))
  generalize T / 2 ^ (k + 1) = q at e
  generalize hr : T % 2 ^ (k + 1) = r at e l
  have hb : r.testBit k = true := by
    rw [← hr, Nat.testBit_mod_two_pow, h, decide_eq_true (show k < k + 1 by omega)]; rfl
  have ge : 2 ^ k ≤ r := Nat.ge_two_pow_of_testBit hb
  have p2 : 2 ^ (k + 1) = 2 * 2 ^ k := by rw [Nat.pow_succ, Nat.mul_comm]
  have s : T - 2 ^ k = 2 ^ (k + 1) * q + (r - 2 ^ k) := by omega
  have u : T = 2 ^ (k + 1) * q + (2 ^ k + (r - 2 ^ k)) := by omega
  have lu : 2 ^ k + (r - 2 ^ k) < 2 ^ (k + 1) := by omega
  have ls : r - 2 ^ k < 2 ^ (k + 1) := by omega
  have lk : r - 2 ^ k < 2 ^ k := by omega
  rw [s, Nat.testBit_two_pow_mul_add q ls]
  conv => rhs; rw [u]
  rw [Nat.testBit_two_pow_mul_add q lu]
  by_cases a : j < k + 1
  · rw [if_pos a, if_pos a]
    by_cases b : j = k
    · subst b
      rw [Nat.testBit_lt_two_pow lk]; simp
    · rw [Nat.testBit_two_pow_add_gt (by omega)]; simp [b]
  · rw [if_neg a, if_neg a]
    have b : ¬ j = k := by omega
    simp [b]
theorem zc_ad2 {S k : Nat} (h : S.testBit k = false) : (S ||| 2 ^ k).testBit k = true ∧ (S ||| 2 ^ k) - 2 ^ k = S ∧ S < S ||| 2 ^ k := by
  have t : (S ||| 2 ^ k).testBit k = true := by rw [Nat.testBit_or, Nat.testBit_two_pow_self, Bool.or_true]
  have e : (S ||| 2 ^ k) - 2 ^ k = S := Nat.eq_of_testBit_eq (fun j => by
    rw [zc_del t, Nat.testBit_or, Nat.testBit_two_pow]
    by_cases b : j = k
    · subst b; rw [h]; simp
    · have b2 : ¬ k = j := fun q => b q.symm
      simp [b, b2])
  have g : 2 ^ k ≤ S ||| 2 ^ k := Nat.ge_two_pow_of_testBit t
  have p : 0 < 2 ^ k := Nat.two_pow_pos k
  exact ⟨t, e, by omega⟩
theorem zc_dlt {T k : Nat} (h : T.testBit k = true) : T - 2 ^ k < T := by
  have g : 2 ^ k ≤ T := Nat.ge_two_pow_of_testBit h
  have p : 0 < 2 ^ k := Nat.two_pow_pos k
  omega
theorem zc_dor {T S k : Nat} (h : T.testBit k = true) (e : T - 2 ^ k = S) : S.testBit k = false ∧ T = S ||| 2 ^ k := by
  subst e
  refine ⟨by rw [zc_del h]; simp, Nat.eq_of_testBit_eq (fun j => ?_)⟩
  rw [Nat.testBit_or, zc_del h, Nat.testBit_two_pow]
  by_cases b : j = k
  · subst b; rw [h]; simp
  · have b2 : ¬ k = j := fun q => b q.symm
    simp [b, b2]
/-- forward: what has been spread when S is under way and k of its neighbours are done -/
def zc_Q (T S k j : Nat) : Prop := T.testBit j = true ∧ (T - 2 ^ j < S ∨ T - 2 ^ j = S ∧ j < k)
def zc_V (A : Nat → Int32) (g : Nat → Nat → Int32) (T j : Nat) : Int32 := A (T - 2 ^ j) + g j (T - 2 ^ j)
def zc_B (m : Nat) (A : Nat → Int32) (g : Nat → Nat → Int32) (S k : Nat) : Prop := ∀ T, T < 2 ^ m → zc_M m (zc_Q T S k) (zc_V A g T) (A T)
theorem zc_B0 {m : Nat} {A : Nat → Int32} {g : Nat → Nat → Int32} (h : ∀ T, T < 2 ^ m → A T = 0) : zc_B m A g 0 0 := fun T hT => by
  rw [h T hT]
  exact zc_M0 (fun k _ q => q.2.elim (fun w => by omega) (fun w => by omega))
theorem zc_Bn {m : Nat} {A : Nat → Int32} {g : Nat → Nat → Int32} {S : Nat} (h : zc_B m A g S m) : zc_B m A g (S + 1) 0 := fun T hT =>
  zc_Mc (h T hT) (fun j hj => ⟨fun q => ⟨q.1, q.2.elim (fun w => by omega) (fun w => by omega)⟩, fun q => ⟨q.1, q.2.elim (fun w => by omega) (fun w => by omega)⟩⟩) (fun _ _ _ => rfl)
theorem zc_Bs {m : Nat} {A : Nat → Int32} {g : Nat → Nat → Int32} {S k : Nat} (h : zc_B m A g S k) (hs : S.testBit k = true) : zc_B m A g S (k + 1) := fun T hT =>
  zc_Mc (h T hT) (fun j hj => ⟨fun q => ⟨q.1, q.2.elim .inl (fun w => by
    by_cases e : j = k
    · subst e
      have := (zc_dor q.1 w.1).1
      rw [hs] at this; cases this
    · exact .inr ⟨w.1, by omega⟩)⟩, fun q => ⟨q.1, q.2.elim .inl (fun w => .inr ⟨w.1, by omega⟩)⟩⟩) (fun _ _ _ => rfl)
theorem zc_Bu {m : Nat} {A A' : Nat → Int32} {g : Nat → Nat → Int32} {S k : Nat} (h : zc_B m A g S k) (hs : S.testBit k = false) (hk : k < m) (e : A' (S ||| 2 ^ k) = zz_max (A (S ||| 2 ^ k)) (A S + g k S)) (ne : ∀ T, T ≠ S ||| 2 ^ k → A' T = A T) : zc_B m A' g S (k + 1) := fun T hT => by
  obtain ⟨t, d, l⟩ := zc_ad2 hs
  have low : ∀ j, zc_Q T S k j → zc_V A' g T j = zc_V A g T j := fun j q => by
    unfold zc_V
    rw [ne (T - 2 ^ j) (q.2.elim (fun w => by omega) (fun w => by omega))]
  by_cases c : T = S ||| 2 ^ k
  · subst c
    rw [e]
    refine zc_M1 (h _ hT) hk (fun j hj => ⟨fun q => ?_, fun q => ?_⟩) (fun j _ q => low j q) ?_
    · by_cases w : j = k
      · exact .inr w
      · exact .inl ⟨q.1, q.2.elim .inl (fun z => .inr ⟨z.1, by omega⟩)⟩
    · rcases q with q | q
      · exact ⟨q.1, q.2.elim .inl (fun z => .inr ⟨z.1, by omega⟩)⟩
      · subst q; exact ⟨t, .inr ⟨d, by omega⟩⟩
    · unfold zc_V
      rw [d, ne S (by omega)]
  · rw [ne T c]
    refine zc_Mc (h T hT) (fun j hj => ⟨fun q => ⟨q.1, q.2.elim .inl (fun w => ?_)⟩, fun q => ⟨q.1, q.2.elim .inl (fun w => .inr ⟨w.1, by omega⟩)⟩⟩) (fun j _ q => low j q)
    by_cases z : j = k
    · subst z
      exact (c (zc_dor q.1 w.1).2).elim
    · exact .inr ⟨w.1, by omega⟩
/-- scenes of a set counted; sets of their numbers and sets of scenes -/
def zc_cn (c : Nat) : Nat → Nat
  | 0 => 0
  | s + 1 => zc_cn c s + (if c.testBit s = true then 1 else 0)
def zc_ph (c T : Nat) : Nat → Nat
  | 0 => 0
  | s + 1 => if c.testBit s = true ∧ T.testBit (zc_cn c s) = true then 2 ^ s + zc_ph c T s else zc_ph c T s
theorem zc_phb (c T : Nat) : ∀ s, zc_ph c T s < 2 ^ s ∧ ∀ i, (zc_ph c T s).testBit i = (decide (i < s) && (c.testBit i && T.testBit (zc_cn c i)))
  | 0 => ⟨Nat.zero_lt_one, fun i => by
    show Nat.testBit 0 i = _
    rw [Nat.zero_testBit, decide_eq_false (Nat.not_lt_zero i)]; rfl⟩
  | s + 1 => by
    obtain ⟨a, b⟩ := zc_phb c T s
    have p2 : 2 ^ (s + 1) = 2 * 2 ^ s := by rw [Nat.pow_succ, Nat.mul_comm]
    unfold zc_ph
    by_cases q : c.testBit s = true ∧ T.testBit (zc_cn c s) = true
    · rw [if_pos q]
      refine ⟨by omega, fun i => ?_⟩
      by_cases u : i < s
      · rw [Nat.testBit_two_pow_add_gt u, b i, decide_eq_true u, decide_eq_true (show i < s + 1 by omega)]
      · by_cases v : i = s
        · subst v
          rw [Nat.testBit_two_pow_add_eq, b i, q.1, q.2, decide_eq_false (Nat.lt_irrefl i), decide_eq_true (show i < i + 1 by omega)]; rfl
        · rw [Nat.testBit_lt_two_pow (Nat.lt_of_lt_of_le (show 2 ^ s + zc_ph c T s < 2 ^ (s + 1) by omega) (Nat.pow_le_pow_right (by omega) (by omega))), decide_eq_false (show ¬ i < s + 1 by omega)]; rfl
    · rw [if_neg q]
      refine ⟨by omega, fun i => ?_⟩
      rw [b i]
      by_cases v : i = s
      · subst v
        rw [decide_eq_false (Nat.lt_irrefl i), decide_eq_true (show i < i + 1 by omega)]
        cases x : c.testBit i with
        | false => rfl
        | true =>
          cases y : T.testBit (zc_cn c i) with
          | false => rfl
          | true => exact (q ⟨x, y⟩).elim
      · by_cases u : i < s
        · rw [decide_eq_true u, decide_eq_true (show i < s + 1 by omega)]
        · rw [decide_eq_false u, decide_eq_false (show ¬ i < s + 1 by omega)]
theorem zc_cn_le (c : Nat) {a : Nat} : ∀ {b}, a ≤ b → zc_cn c a ≤ zc_cn c b
  | 0, h => by rw [show a = 0 by omega]; exact Nat.le_refl _
  | b + 1, h => by
    by_cases e : a = b + 1
    · rw [e]; exact Nat.le_refl _
    · have := zc_cn_le c (a := a) (b := b) (by omega)
      show _ ≤ zc_cn c b + _
      omega
theorem zc_cn_lt {c a b : Nat} (h : c.testBit a = true) (l : a < b) : zc_cn c a < zc_cn c b := by
  have := zc_cn_le c (a := a + 1) (b := b) (by omega)
  have e : zc_cn c (a + 1) = zc_cn c a + 1 := by show zc_cn c a + (if c.testBit a = true then 1 else 0) = _; rw [if_pos h]
  omega
theorem zc_cn_inj {c a b : Nat} (ha : c.testBit a = true) (hb : c.testBit b = true) (e : zc_cn c a = zc_cn c b) : a = b := by
  apply Nat.le_antisymm
  · exact Nat.le_of_not_lt (fun w => by have := zc_cn_lt hb w; omega)
  · exact Nat.le_of_not_lt (fun w => by have := zc_cn_lt ha w; omega)
theorem zc_cn_b (c : Nat) : ∀ n, zc_cn c n ≤ n
  | 0 => Nat.le_refl _
  | n + 1 => by
    have := zc_cn_b c n
    show zc_cn c n + (if c.testBit n = true then 1 else 0) ≤ n + 1
    split <;> omega
theorem zc_on {c k : Nat} : ∀ n, k < zc_cn c n → ∃ s, s < n ∧ c.testBit s = true ∧ zc_cn c s = k
  | 0, h => absurd h (Nat.not_lt_zero k)
  | n + 1, h => by
    by_cases w : k < zc_cn c n
    · obtain ⟨s, a, b, d⟩ := zc_on n w
      exact ⟨s, by omega, b, d⟩
    · have h : k < zc_cn c n + (if c.testBit n = true then 1 else 0) := h
      by_cases q : c.testBit n = true
      · rw [if_pos q] at h
        exact ⟨n, by omega, q, by omega⟩
      · rw [if_neg q] at h
        omega
theorem zc_phd {c T n s : Nat} (hs : s < n) (hc : c.testBit s = true) (ht : T.testBit (zc_cn c s) = true) : zc_ph c (T - 2 ^ zc_cn c s) n = zc_ph c T n - 2 ^ s := by
  apply Nat.eq_of_testBit_eq
  intro i
  have hp : (zc_ph c T n).testBit s = true := by rw [(zc_phb c T n).2, hc, ht, decide_eq_true hs]; rfl
  rw [(zc_phb c _ n).2, zc_del ht, zc_del hp, (zc_phb c T n).2]
  by_cases e : i = s
  · subst e; simp
  · cases x : c.testBit i with
    | false => simp
    | true =>
      have : ¬ zc_cn c i = zc_cn c s := fun w => e (zc_cn_inj x hc w)
      simp [e, this]
/-- both ways to the most are one -/
theorem zc_same {c n : Nat} {A R : Nat → Int32} {g : Nat → Nat → Int32} {mine : Nat → Nat} (hm : ∀ s, s < n → c.testBit s = true → mine (zc_cn c s) = s) (hA : ∀ T, T < 2 ^ zc_cn c n → zc_M (zc_cn c n) (fun k => T.testBit k = true) (zc_V A (fun k T => g (mine k) (zc_ph c T n)) T) (A T)) (hR : ∀ t, zc_sb t c → zc_M n (fun s => t.testBit s = true) (zc_V R g t) (R t)) : ∀ T, T < 2 ^ zc_cn c n → A T = R (zc_ph c T n) := by
  intro T
  induction T using Nat.strongRecOn with
  | ind T ih =>
    intro hT
    have sb : zc_sb (zc_ph c T n) c := fun i hi => by
      rw [(zc_phb c T n).2] at hi
      cases x : c.testBit i with
      | true => rfl
      | false => rw [x] at hi; simp at hi
    have H := hA T hT
    have key : ∀ s, s < n → c.testBit s = true → T.testBit (zc_cn c s) = true → zc_V A (fun k T => g (mine k) (zc_ph c T n)) T (zc_cn c s) = zc_V R g (zc_ph c T n) s := fun s hs hc ht => by
      show A (T - 2 ^ zc_cn c s) + g (mine (zc_cn c s)) (zc_ph c (T - 2 ^ zc_cn c s) n) = R (zc_ph c T n - 2 ^ s) + g s (zc_ph c T n - 2 ^ s)
      rw [ih _ (zc_dlt ht) (Nat.lt_trans (zc_dlt ht) hT), zc_phd hs hc ht, hm s hs hc]
    refine zc_Mu (m := n) (P := fun s => (zc_ph c T n).testBit s = true) (v := zc_V R g (zc_ph c T n)) ⟨H.1, ?_, fun s hs p => ?_⟩ (hR _ sb)
    · rcases H.2.1 with e | ⟨k, hk, p, e⟩
      · exact .inl e
      · obtain ⟨s, s1, s2, s3⟩ := zc_on n hk
        subst s3
        refine .inr ⟨s, s1, ?_, by rw [e]; exact key s s1 s2 p⟩
        show (zc_ph c T n).testBit s = true
        rw [(zc_phb c T n).2, s2, p, decide_eq_true s1]; rfl
    · have p : (zc_ph c T n).testBit s = true := p
      rw [(zc_phb c T n).2, decide_eq_true hs, Bool.true_and, Bool.and_eq_true] at p
      rw [← key s hs p.1 p.2]
      exact H.2.2 _ (zc_cn_lt p.1 hs) p.2
theorem zc_pha {c n : Nat} (hc : c < 2 ^ n) : zc_ph c (2 ^ zc_cn c n - 1) n = c := by
  apply Nat.eq_of_testBit_eq
  intro i
  rw [(zc_phb c _ n).2, Nat.testBit_two_pow_sub_one]
  by_cases h : i < n
  · cases x : c.testBit i with
    | false => simp
    | true => simp [h, zc_cn_lt x h]
  · rw [Nat.testBit_lt_two_pow (Nat.lt_of_lt_of_le hc (Nat.pow_le_pow_right (by omega) (by omega)))]
    simp
