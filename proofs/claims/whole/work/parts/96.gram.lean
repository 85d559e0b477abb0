/-! THE CLASS'S READER OF A RULE, PURE -/
abbrev zg_S : Type := List Int32 × List Int32 × Nat × (Nat → Bool) × Nat × Bool
def zg_rk (x : Int32) : Nat := if x = 42 ∨ x = 47 then 3 else if x = 43 ∨ x = 45 then 2 else if x = 60 ∨ x = 61 ∨ x = 62 then 1 else if x = 256 then 4 else 0
def zg_rel (r : Nat) : List Int32 → List Int32 → List Int32 × List Int32
  | [], cs => (cs, [])
  | x :: w, cs => if x = 40 ∨ zg_rk x < r then (cs, x :: w) else zg_rel r w (-x :: cs)
def zg_em : List Int32 → List Int32 → List Int32
  | [], cs => cs
  | x :: p, cs => zg_em p (-x :: cs)
def zg_ev (e : Nat → Int32) : List Int32 → List Int32
  | [] => []
  | k :: cs => zc_1 e k (zg_ev e cs)
def zg_stop (r : Nat) (w : List Int32) : Prop := w = [] ∨ ∃ x w1, w = x :: w1 ∧ (x = 40 ∨ zg_rk x < r)
theorem zg_em_app (p q cs : List Int32) : zg_em (p ++ q) cs = zg_em q (zg_em p cs) := by
  induction p generalizing cs with
  | nil => rfl
  | cons x p ih => exact ih _
theorem zg_rel_app {r : Nat} {p w0 : List Int32} (cs : List Int32) (hp : ∀ x, x ∈ p → x ≠ 40 ∧ r ≤ zg_rk x) (hw : zg_stop r w0) : zg_rel r (p ++ w0) cs = (zg_em p cs, w0) := by
  induction p generalizing cs with
  | nil =>
    rcases hw with rfl | ⟨x, w1, rfl, hx⟩
    · rfl
    · show (if x = 40 ∨ zg_rk x < r then (cs, x :: w1) else zg_rel r w1 (-x :: cs)) = _
      rw [if_pos hx]
      rfl
  | cons x p ih =>
    have hx := hp x (by simp)
    show (if x = 40 ∨ zg_rk x < r then (cs, x :: (p ++ w0)) else zg_rel r (p ++ w0) (-x :: cs)) = _
    rw [if_neg (fun w => w.elim hx.1 (fun q => by omega)), ih _ (fun y hy => hp y (by simp [hy]))]
    rfl
def zg_ah (s : zg_S) (c : Int32) : Option zg_S :=
  if c = 45 then some (s.1, 256 :: s.2.1, s.2.2.1, s.2.2.2.1, s.2.2.2.2.1, true)
  else if c = 40 then (if s.2.2.1 < 4 then some (s.1, 40 :: s.2.1, s.2.2.1 + 1, (fun k => if k = s.2.2.1 + 1 then false else s.2.2.2.1 k), s.2.2.2.2.1, true) else none)
  else if zq_dig c = true then some ((c - 48) :: s.1, s.2.1, s.2.2.1, s.2.2.2.1, 1, false)
  else if zq_let c = 6 then none
  else some (-c :: s.1, s.2.1, s.2.2.1, s.2.2.2.1, 0, false)
def zg_bh (s : zg_S) (c : Int32) : Option zg_S :=
  if zq_dig c = true then (if s.2.2.2.2.1 = 1 ∨ s.2.2.2.2.1 = 2 then (match s.1 with
    | k :: r => some ((k * 10 + (c - 48)) :: r, s.2.1, s.2.2.1, s.2.2.2.1, s.2.2.2.2.1 + 1, false)
    | [] => none) else none)
  else if c = 41 then (if 0 < s.2.2.1 then some ((zg_rel 1 s.2.1 s.1).1, (zg_rel 1 s.2.1 s.1).2.tail, s.2.2.1 - 1, s.2.2.2.1, 0, false) else none)
  else if zg_rk c = 0 ∨ c = 256 then none
  else if zg_rk c = 1 ∧ s.2.2.2.1 s.2.2.1 = true then none
  else some ((zg_rel (zg_rk c) s.2.1 s.1).1, c :: (zg_rel (zg_rk c) s.2.1 s.1).2, s.2.2.1, (if zg_rk c = 1 then (fun k => if k = s.2.2.1 then true else s.2.2.2.1 k) else s.2.2.2.1), s.2.2.2.2.1, true)
def zg_step (s : zg_S) (c : Int32) : Option zg_S := if s.2.2.2.2.2 = true then zg_ah s c else zg_bh s c
def zg_go (H : Nat → Int32) : Nat → Nat → zg_S → Option zg_S
  | 0, _, s => some s
  | k + 1, a, s => (zg_step s (H a)).bind (zg_go H k (a + 1))
def zg_to (H : Nat → Int32) (a : Nat) (s : zg_S) (b : Nat) (s' : zg_S) : Prop := ∃ k, b = a + k ∧ zg_go H k a s = some s'
theorem zg_to_refl (H : Nat → Int32) (a : Nat) (s : zg_S) : zg_to H a s a s := ⟨0, rfl, rfl⟩
theorem zg_go_app (H : Nat → Int32) : ∀ k l a s, zg_go H (k + l) a s = (zg_go H k a s).bind (zg_go H l (a + k))
  | 0, l, a, s => by rw [Nat.zero_add]; rfl
  | k + 1, l, a, s => by
    rw [show k + 1 + l = (k + l) + 1 by omega]
    show (zg_step s (H a)).bind (zg_go H (k + l) (a + 1)) = ((zg_step s (H a)).bind (zg_go H k (a + 1))).bind (zg_go H l (a + (k + 1)))
    cases zg_step s (H a) with
    | none => rfl
    | some s' =>
      rw [Option.bind_some, Option.bind_some, zg_go_app H k l (a + 1) s', show a + 1 + k = a + (k + 1) by omega]
theorem zg_to_trans {H : Nat → Int32} {a b c : Nat} {s s' s'' : zg_S} (h : zg_to H a s b s') (h2 : zg_to H b s' c s'') : zg_to H a s c s'' := by
  obtain ⟨k, rfl, h⟩ := h
  obtain ⟨l, rfl, h2⟩ := h2
  exact ⟨k + l, by omega, by rw [zg_go_app, h]; exact h2⟩
theorem zg_to_step {H : Nat → Int32} {a : Nat} {s s' : zg_S} (h : zg_step s (H a) = some s') : zg_to H a s (a + 1) s' := ⟨1, rfl, by
  show (zg_step s (H a)).bind _ = _
  rw [h]
  rfl⟩
theorem zg_to_one {H : Nat → Int32} {a b : Nat} {s s' s'' : zg_S} (h : zg_step s (H a) = some s') (h2 : zg_to H (a + 1) s' b s'') : zg_to H a s b s'' := zg_to_trans (zg_to_step h) h2
theorem zg_to_fun {H : Nat → Int32} {a b : Nat} {s s' s'' : zg_S} (h : zg_to H a s b s') (h2 : zg_to H a s b s'') : s' = s'' := by
  obtain ⟨k, rfl, h⟩ := h
  obtain ⟨l, e, h2⟩ := h2
  obtain rfl : k = l := by omega
  rw [h] at h2
  exact Option.some.inj h2
theorem zg_to_mid {H : Nat → Int32} {a b c : Nat} {s s' s'' : zg_S} (h : zg_to H a s b s') (h2 : zg_to H a s c s'') (hb : b < c) : ∃ s3, zg_step s' (H b) = some s3 := by
  obtain ⟨k, rfl, h⟩ := h
  obtain ⟨l, rfl, h2⟩ := h2
  rw [show l = k + ((l - k - 1) + 1) by omega, zg_go_app, h, Option.bind_some] at h2
  have h2 : (zg_step s' (H (a + k))).bind (zg_go H (l - k - 1) (a + k + 1)) = some s'' := h2
  cases q : zg_step s' (H (a + k)) with
  | none => rw [q] at h2; cases h2
  | some s3 => exact ⟨s3, rfl⟩
def zg_St (L : Nat) (c : Int32) (mkd : Bool) : Prop := (L ≤ 3 → c ≠ 42 ∧ c ≠ 47) ∧ (L ≤ 2 → c ≠ 43 ∧ c ≠ 45) ∧ (L ≤ 1 → (c = 60 ∨ c = 61 ∨ c = 62) → mkd = true)
def zg_G (L : Nat) (H e : Nat → Int32) (a : Nat) (s0 : zg_S) (cs0 w0 : List Int32) (d : Nat) (mk : Nat → Bool) (u : Int32) (b : Nat) : Prop := ∃ p cs' mk' dg', zg_to H a s0 b (cs', p ++ w0, d, mk', dg', false) ∧ (∀ x, x ∈ p → x ≠ 40 ∧ L ≤ zg_rk x) ∧ zg_ev e (zg_em p cs') = u :: zg_ev e cs0 ∧ (∀ k, k < d → mk' k = mk k) ∧ (2 ≤ L → mk' d = mk d) ∧ (zq_dig (H b) = true → ¬ (dg' = 1 ∨ dg' = 2)) ∧ zg_St L (H b) (mk' d)
def zg_B (H : Nat → Int32) (m a : Nat) (s0 : zg_S) (x : Nat) : Prop := x ≤ m ∧ ∃ s', zg_to H a s0 x s' ∧ (x < m → zg_step s' (H x) = none) ∧ (x = m → s'.2.2.2.2.2 = true ∨ 0 < s'.2.2.1)
def zg_R (L : Nat) (H e : Nat → Int32) (m a : Nat) (s0 : zg_S) (cs0 w0 : List Int32) (d : Nat) (mk : Nat → Bool) (q : Nat ⊕ (Int32 × Nat)) : Prop := match q with
  | .inl x => zg_B H m a s0 x
  | .inr (u, b) => zg_G L H e a s0 cs0 w0 d mk u b
theorem zg_B_pre {H : Nat → Int32} {m a b x : Nat} {s s' : zg_S} (h : zg_to H a s b s') (h2 : zg_B H m b s' x) : zg_B H m a s x := by
  obtain ⟨h1, s'', h3, h4, h5⟩ := h2
  exact ⟨h1, s'', zg_to_trans h h3, h4, h5⟩
/-- nothing can stand behind a whole comparison but a bracket -/
theorem zg_none {cs w : List Int32} {d dg : Nat} {mk : Nat → Bool} {c : Int32} (hd : zq_dig c = true → ¬ (dg = 1 ∨ dg = 2)) (hs : zg_St 1 c (mk d)) (h41 : c = 41 → d = 0) : zg_step (cs, w, d, mk, dg, false) c = none := by
  unfold zg_step zg_bh
  rw [if_neg Bool.false_ne_true]
  dsimp only
  by_cases q : zq_dig c = true
  · rw [if_pos q, if_neg (hd q)]
  rw [if_neg q]
  by_cases q1 : c = 41
  · rw [if_pos q1, if_neg (by rw [h41 q1]; omega)]
  rw [if_neg q1]
  by_cases q2 : zg_rk c = 0 ∨ c = 256
  · rw [if_pos q2]
  rw [if_neg q2]
  have c1 := hs.1 (by omega)
  have c2 := hs.2.1 (by omega)
  have c3 := hs.2.2 (by omega)
  by_cases q3 : c = 60 ∨ c = 61 ∨ c = 62
  · have r1 : zg_rk c = 1 := by rcases q3 with e | e | e <;> subst e <;> decide
    rw [if_pos ⟨r1, c3 q3⟩]
  · exfalso
    apply q2
    by_cases q4 : c = 256
    · exact .inr q4
    · left
      unfold zg_rk
      rw [if_neg (fun w => w.elim c1.1 c1.2), if_neg (fun w => w.elim c2.1 c2.2), if_neg q3, if_neg q4]
/-- a sign between two -/
theorem zg_op {cs p w0 : List Int32} {d dg : Nat} {mk : Nat → Bool} {c : Int32} {r : Nat} (hr : zg_rk c = r) (h0 : 1 ≤ r) (h3 : r ≤ 3) (hp : ∀ x, x ∈ p → x ≠ 40 ∧ r ≤ zg_rk x) (hw : zg_stop r w0) (hm : r = 1 → mk d = false) : zg_step (cs, p ++ w0, d, mk, dg, false) c = some (zg_em p cs, c :: w0, d, (if r = 1 then (fun k => if k = d then true else mk k) else mk), dg, true) := by
  have nd : ¬ zq_dig c = true := fun q => by
    unfold zq_dig at q
    have q := of_decide_eq_true q
    have : zg_rk c = 0 := by
      unfold zg_rk
      rw [if_neg (fun w => by rcases w with rfl | rfl <;> exact absurd q (by decide)), if_neg (fun w => by rcases w with rfl | rfl <;> exact absurd q (by decide)), if_neg (fun w => by rcases w with rfl | rfl | rfl <;> exact absurd q (by decide)), if_neg (fun w => by subst w; exact absurd q (by decide))]
    omega
  have n41 : ¬ c = 41 := fun q => by subst q; have : zg_rk 41 = 0 := by decide
                                     omega
  have n256 : ¬ (zg_rk c = 0 ∨ c = 256) := fun q => by
    rcases q with q | q
    · omega
    · subst q; have : zg_rk 256 = 4 := by decide
      omega
  unfold zg_step zg_bh
  rw [if_neg Bool.false_ne_true]
  dsimp only
  rw [if_neg nd, if_neg n41, if_neg n256, hr, if_neg (fun w => by rw [hm w.1] at w; exact Bool.false_ne_true w.2), zg_rel_app cs hp hw]
theorem zg_ev_j {e : Nat → Int32} {k : Int32} (hk : k = 42 ∨ k = 47 ∨ k = 43 ∨ k = 45 ∨ k = 60 ∨ k = 61 ∨ k = 62) (p cs : List Int32) {x y : Int32} {st : List Int32} (h : zg_ev e (zg_em p cs) = y :: x :: st) : zg_ev e (zg_em (p ++ [k]) cs) = zc_j k x y :: st := by
  rw [zg_em_app]
  show zc_1 e (-k) (zg_ev e (zg_em p cs)) = _
  rw [h]
  unfold zc_1
  rcases hk with rfl | rfl | rfl | rfl | rfl | rfl | rfl <;> rfl
theorem zg_mem {p : List Int32} {k : Int32} {L : Nat} (hp : ∀ x, x ∈ p → x ≠ 40 ∧ L ≤ zg_rk x) (hk : k ≠ 40 ∧ L ≤ zg_rk k) : ∀ x, x ∈ p ++ [k] → x ≠ 40 ∧ L ≤ zg_rk x := fun x hx => by
  rcases List.mem_append.mp hx with q | q
  · exact hp x q
  · rw [List.mem_singleton.mp q]; exact hk
