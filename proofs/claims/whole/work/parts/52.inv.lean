/-! A RULE'S TEXT AND ITS CODE, PURE -/
/-- the sign at a place, -1 behind the end -/
def zq_h (m : Nat) (t : Nat → Int32) (a : Nat) : Int32 := if a < m then t a &&& 255 else -1
def zq_dig (c : Int32) : Bool := decide (48 ≤ c ∧ c ≤ 57)
def zq_let (c : Int32) : Nat := if c = 111 then 0 else if c = 112 then 1 else if c = 113 then 2 else if c = 109 then 3 else if c = 108 then 4 else if c = 115 then 5 else 6
/-- a number of one to three digits: its value, the place behind it -/
def zq_num (m : Nat) (t : Nat → Int32) (a : Nat) : Int32 × Nat :=
  if zq_dig (zq_h m t (a + 1)) = true then
    if zq_dig (zq_h m t (a + 2)) = true then (10 * (10 * (zq_h m t a - 48) + (zq_h m t (a + 1) - 48)) + (zq_h m t (a + 2) - 48), a + 3)
    else (10 * (zq_h m t a - 48) + (zq_h m t (a + 1) - 48), a + 2)
  else (zq_h m t a - 48, a + 1)
/-- the reader that goes down: 0 a comparison, 1 a sum, 2 a product, 3 a thing, 4 and 5 the rest of a sum, of a product; a fault's place, or the value and the place behind it -/
def zq_g (m : Nat) (t : Nat → Int32) (e : Nat → Int32) : Nat → Nat → Nat → Int32 → Nat → Nat ⊕ (Int32 × Nat)
  | 0, _, _, _, a => .inl a
  | f + 1, md, dp, v, a => match md with
    | 0 => match zq_g m t e f 1 dp 0 a with
      | .inl x => .inl x
      | .inr (u, b) =>
        if zq_h m t b = 60 then (match zq_g m t e f 1 dp 0 (b + 1) with
          | .inl x => .inl x
          | .inr (w, b2) => .inr (if u < w then 1 else 0, b2))
        else if zq_h m t b = 62 then (match zq_g m t e f 1 dp 0 (b + 1) with
          | .inl x => .inl x
          | .inr (w, b2) => .inr (if w < u then 1 else 0, b2))
        else if zq_h m t b = 61 then (match zq_g m t e f 1 dp 0 (b + 1) with
          | .inl x => .inl x
          | .inr (w, b2) => .inr (if u = w then 1 else 0, b2))
        else .inr (u, b)
    | 1 => match zq_g m t e f 2 dp 0 a with
      | .inl x => .inl x
      | .inr (u, b) => zq_g m t e f 4 dp u b
    | 2 => match zq_g m t e f 3 dp 0 a with
      | .inl x => .inl x
      | .inr (u, b) => zq_g m t e f 5 dp u b
    | 3 =>
      if zq_h m t a = 45 then (match zq_g m t e f 3 dp 0 (a + 1) with
        | .inl x => .inl x
        | .inr (u, b) => .inr (-u, b))
      else if zq_h m t a = 40 ∧ dp < 4 then (match zq_g m t e f 0 (dp + 1) 0 (a + 1) with
        | .inl x => .inl x
        | .inr (u, b) => if zq_h m t b = 41 then .inr (u, b + 1) else .inl b)
      else if zq_dig (zq_h m t a) = true then .inr (zq_num m t a)
      else if zq_let (zq_h m t a) = 6 then .inl a
      else .inr (e (zq_let (zq_h m t a)), a + 1)
    | 4 =>
      if zq_h m t a = 43 then (match zq_g m t e f 2 dp 0 (a + 1) with
        | .inl x => .inl x
        | .inr (w, b) => zq_g m t e f 4 dp (v + w) b)
      else if zq_h m t a = 45 then (match zq_g m t e f 2 dp 0 (a + 1) with
        | .inl x => .inl x
        | .inr (w, b) => zq_g m t e f 4 dp (v - w) b)
      else .inr (v, a)
    | _ =>
      if zq_h m t a = 42 then (match zq_g m t e f 3 dp 0 (a + 1) with
        | .inl x => .inl x
        | .inr (w, b) => zq_g m t e f 5 dp (v * w) b)
      else if zq_h m t a = 47 then (match zq_g m t e f 3 dp 0 (a + 1) with
        | .inl x => .inl x
        | .inr (w, b) => zq_g m t e f 5 dp (if w = 0 then 0 else v / w) b)
      else .inr (v, a)
/-- a rule's value of things e; without a text: twice the first, the second and the third -/
def zq_val (m : Nat) (t : Nat → Int32) (e : Nat → Int32) : Int32 := if m = 0 then 2 * e 0 + e 1 + e 2 else match zq_g m t e 999 0 0 0 0 with
  | .inl _ => 0
  | .inr (v, _) => v
/-- a text that is a rule as a whole -/
def zq_ok (m : Nat) (t : Nat → Int32) : Prop := (m = 0 ∨ ∀ e, ∃ v, zq_g m t e 999 0 0 0 0 = .inr (v, m)) ∧ ∀ k, k < m → ∃ b, b < 256 ∧ t k = (nI b).toInt8.toInt32
/-- two numbers by a sign -/
def zc_j (k x y : Int32) : Int32 := if k = 43 then x + y else if k = 45 then x - y else if k = 42 then x * y else if k = 47 then (if y = 0 then 0 else x / y) else if k = 60 then (if x < y then 1 else 0) else if k = 62 then (if y < x then 1 else 0) else (if x = y then 1 else 0)
/-- the code's stack, its top first -/
def zc_1 (e : Nat → Int32) (k : Int32) (st : List Int32) : List Int32 :=
  if 0 ≤ k then k :: st
  else if zv_X8_isThing (-k) = 1 then e (zq_let (-k)) :: st
  else if k = -256 then (match st with
    | x :: r => -x :: r
    | [] => [])
  else match st with
    | y :: x :: r => zc_j (-k) x y :: r
    | st => st
def zc_s (e : Nat → Int32) (c : Nat → Int32) : Nat → List Int32
  | 0 => []
  | k + 1 => zc_1 e (c k) (zc_s e c k)
/-- the things of two scenes, by their fields -/
def zq_e (f g : Nat → Int32) (k : Nat) : Int32 := match k with
  | 0 => if f 0 = g 0 then 0 else 1
  | 1 => zv_J6_bitCount (f 2 &&& g 2)
  | 2 => zv_J6_bitCount (f 3 ^^^ g 3)
  | 3 => g 1
  | 4 => f 1
  | _ => zv_J6_bitCount (g 2)
/-- the change from one scene to another -/
def zq_chg (m : Nat) (t : Nat → Int32) (f g : Nat → Int32) : Int32 := zz_max 0 (zz_min 99 (zq_val m t (zq_e f g)))
/-! WHAT HOLDS BETWEEN THE CLASS AND THE REFERENCE -/
def zi_fd (f : Nat → Int32) : Prop := (∃ v, v < 2 ∧ f 0 = nI v) ∧ (∃ v, 1 ≤ v ∧ v ≤ 9 ∧ f 1 = nI v) ∧ (∃ v, v < 64 ∧ f 2 = nI v) ∧ (∃ v, v < 16 ∧ f 3 = nI v) ∧ (f 4 = -1 ∨ ∃ v, v < 8 ∧ f 4 = nI v) ∧ (f 5 = -1 ∨ ∃ v, v < 8 ∧ f 5 = nI v) ∧ ∃ v, v < 10 ∧ f 6 = nI v
def zi_sc (n : Nat) (I : Nat → Nat → Int32) : Prop := n ≤ 12 ∧ I 52 1 = nI n ∧ I 5 2 = nI n ∧ (∀ k, k < 7 * n → I 6 k = I 54 k) ∧ (∀ s, s < n → zi_fd (fun w => I 54 (7 * s + w))) ∧ I 7 0 = zu_set (fun s => decide (I 54 (7 * s) = 0)) n ∧ I 7 1 = zu_set (fun s => decide (I 54 (7 * s) = 1)) n
/-- a night b is what the row a tells -/
def zi_row (n : Nat) (a b : Nat → Int32) : Prop := b 0 = a 12 ∧ b 1 = a 13 ∧ b 2 = zu_set (fun s => decide (a s = 0)) n ∧ b 3 = zu_set (fun s => decide (a s = 1)) n ∧ b 4 = zu_set (fun s => decide (a s = 2)) n ∧ b 5 = a 14 ∧ b 6 = a 15 ∧ b 7 = a 16 ∧ b 8 = a 17 ∧ (∀ s, s < n → a s = 0 ∨ a s = 1 ∨ a s = 2) ∧ (a 13 = -1 ∨ ∃ s, s < n ∧ a 13 = nI s)
def zi_txt (I : Nat → Nat → Int32) : Prop := (∃ t, t ≤ 80 ∧ I 2 1 = nI t ∧ I 52 4 = nI t) ∧ ∀ k, k < 80 → I 3 k = I 55 k &&& 255 ∧ ∃ b, b < 256 ∧ I 55 k = (nI b).toInt8.toInt32
def zi_tol (I : Nat → Nat → Int32) (J : Nat → Nat → Int64) : Prop := ∃ k, k ≤ 12 ∧ I 2 3 = nI k ∧ I 52 6 = nI k ∧ ∀ t, t < k → J 4 t = J 56 t
def zi_bow (I : Nat → Nat → Int32) : Prop := I 2 15 = I 52 43 ∧ I 2 16 = I 52 44 ∧ (∀ i, bt (I 52 44) i = true → bt (I 52 43) i = true) ∧ ∀ i, 6 ≤ i → bt (I 52 43) i = false
def zi_rng (n : Nat) (I : Nat → Nat → Int32) : Prop := ∃ m t, m ≤ 12 ∧ t < 12 ∧ I 9 5 = nI m ∧ I 52 20 = nI m ∧ I 9 4 = nI t ∧ ∀ k, k < m → zi_row n (fun i => I 61 (18 * k + i)) (I (14 + (t + 12 - m + k) % 12))
def zi_shl (n : Nat) (I : Nat → Nat → Int32) : Prop := ∃ c, c ≤ n ∧ I 52 45 = nI c ∧ ∀ i, i < 2 → (I 12 i = 0 ∨ I 12 i = 1) ∧ (I 81 i = 0 ∨ I 81 i = 1) ∧ (∃ e, e ≤ c ∧ I 82 i = nI e) ∧ (I 12 i = 1 ↔ I 81 i = 1 ∧ I 82 i = I 52 45) ∧ (I 12 i = 1 → zi_row n (fun k => I 80 (18 * i + k)) (I (26 + i)))
def zi_rul (n : Nat) (I : Nat → Nat → Int32) : Prop := ∃ m cs, m ≤ 40 ∧ cs ≤ 40 ∧ I 52 16 = nI m ∧ I 28 3 = nI cs ∧ zq_ok m (I 58) ∧ (∀ e, zc_s e (I 29) cs = [zq_val m (I 58) e]) ∧ (I 28 4 = 0 ∨ I 28 4 = 1) ∧ (I 28 4 = 1 → ∀ a b, a < n → b < n → I 31 (12 * a + b) = zq_chg m (I 58) (fun w => I 54 (7 * a + w)) (fun w => I 54 (7 * b + w)))
def zi_F (F : zz_F) : Prop := 82 ≤ F.1 ∧ zz_ru F = 58 ∧ zz_XK F.2.2.1 (zz_mo F) = 14 ∧ (zz_mo F = 48 ∨ 84 ≤ zz_mo F ∧ zz_mo F < F.1 + 2) ∧ zz_XL F.2.2.2.2.1 F.2.2.2.1 (zz_mo F) ≤ 4096
def zi (n : Nat) (I : Nat → Nat → Int32) (J : Nat → Nat → Int64) (F : zz_F) : Prop := zi_sc n I ∧ zi_row n (I 53) (I 8) ∧ zi_txt I ∧ zi_tol I J ∧ zi_bow I ∧ zi_rng n I ∧ zi_shl n I ∧ zi_rul n I ∧ zi_F F
/-- the cells that matter: 0 what is told aside -/
def zk_k (a i : Nat) : Bool := match a with
  | 2 => i == 1 || i == 15 || i == 16
  | 3 => true
  | 5 => true
  | 6 => true
  | 7 => true
  | 8 => true
  | 9 => true
  | 12 => true
  | 14 => true
  | 15 => true
  | 16 => true
  | 17 => true
  | 18 => true
  | 19 => true
  | 20 => true
  | 21 => true
  | 22 => true
  | 23 => true
  | 24 => true
  | 25 => true
  | 26 => true
  | 27 => true
  | 28 => i == 3 || i == 4
  | 29 => true
  | 31 => true
  | 52 => i == 1 || i == 4 || i == 16 || i == 20 || i == 43 || i == 44 || i == 45
  | 53 => true
  | 54 => true
  | 55 => true
  | 58 => true
  | 61 => true
  | 80 => true
  | 81 => true
  | 82 => true
  | _ => false
def zk (I I' : Nat → Nat → Int32) : Prop := ∀ a i, zk_k a i = true → I' a i = I a i
theorem zk_refl (I : Nat → Nat → Int32) : zk I I := fun _ _ _ => rfl
theorem zk_trans {I I' I'' : Nat → Nat → Int32} (h : zk I I') (h2 : zk I' I'') : zk I I'' := fun a i k => (h2 a i k).trans (h a i k)
theorem zk_u {I I' : Nat → Nat → Int32} {a i : Nat} {v : Int32} (hk : zk_k a i = false) (h : zk I I') : zk I (zz_u I' a i v) := fun b j k => by
  unfold zz_u
  split
  · next e => rw [e.1, e.2, hk] at k; cases k
  · exact h b j k
/-- all else is told anew -/
theorem zi_told {n : Nat} {I I' : Nat → Nat → Int32} {J J' : Nat → Nat → Int64} {F F' : zz_F} (h : zi n I J F) (hk : zk I I') (ht : zi_tol I' J') (hF : zi_F F') : zi n I' J' F' := by
  obtain ⟨h1, h2, h3, h4, h5, h6, h7, h8, h9⟩ := h
  have e3 : I' 3 = I 3 := funext fun i => hk 3 i rfl
  have e6 : I' 6 = I 6 := funext fun i => hk 6 i rfl
  have e7 : I' 7 = I 7 := funext fun i => hk 7 i rfl
  have e8 : I' 8 = I 8 := funext fun i => hk 8 i rfl
  have e9 : I' 9 = I 9 := funext fun i => hk 9 i rfl
  have e12 : I' 12 = I 12 := funext fun i => hk 12 i rfl
  have e29 : I' 29 = I 29 := funext fun i => hk 29 i rfl
  have e31 : I' 31 = I 31 := funext fun i => hk 31 i rfl
  have e53 : I' 53 = I 53 := funext fun i => hk 53 i rfl
  have e54 : I' 54 = I 54 := funext fun i => hk 54 i rfl
  have e55 : I' 55 = I 55 := funext fun i => hk 55 i rfl
  have e58 : I' 58 = I 58 := funext fun i => hk 58 i rfl
  have e61 : I' 61 = I 61 := funext fun i => hk 61 i rfl
  have e80 : I' 80 = I 80 := funext fun i => hk 80 i rfl
  have e81 : I' 81 = I 81 := funext fun i => hk 81 i rfl
  have e82 : I' 82 = I 82 := funext fun i => hk 82 i rfl
  have en : ∀ k, I' (14 + k % 12) = I (14 + k % 12) := fun k => funext fun i => hk _ i (by
    have : k % 12 < 12 := Nat.mod_lt _ (by omega)
    rcases (by omega : k % 12 = 0 ∨ k % 12 = 1 ∨ k % 12 = 2 ∨ k % 12 = 3 ∨ k % 12 = 4 ∨ k % 12 = 5 ∨ k % 12 = 6 ∨ k % 12 = 7 ∨ k % 12 = 8 ∨ k % 12 = 9 ∨ k % 12 = 10 ∨ k % 12 = 11) with q | q | q | q | q | q | q | q | q | q | q | q <;> rw [q] <;> rfl)
  have es : ∀ k, k < 2 → I' (26 + k) = I (26 + k) := fun k hq => funext fun i => hk _ i (by
    rcases (by omega : k = 0 ∨ k = 1) with q | q <;> rw [q] <;> rfl)
  have c1 : I' 2 1 = I 2 1 := hk 2 1 rfl
  have c2 : I' 2 15 = I 2 15 := hk 2 15 rfl
  have c3 : I' 2 16 = I 2 16 := hk 2 16 rfl
  have c4 : I' 5 2 = I 5 2 := hk 5 2 rfl
  have c5 : I' 28 3 = I 28 3 := hk 28 3 rfl
  have c6 : I' 28 4 = I 28 4 := hk 28 4 rfl
  have c7 : I' 52 1 = I 52 1 := hk 52 1 rfl
  have c8 : I' 52 4 = I 52 4 := hk 52 4 rfl
  have c9 : I' 52 16 = I 52 16 := hk 52 16 rfl
  have d1 : I' 52 20 = I 52 20 := hk 52 20 rfl
  have d2 : I' 52 43 = I 52 43 := hk 52 43 rfl
  have d3 : I' 52 44 = I 52 44 := hk 52 44 rfl
  have d4 : I' 52 45 = I 52 45 := hk 52 45 rfl
  refine ⟨?_, ?_, ?_, ht, ?_, ?_, ?_, ?_, hF⟩
  · unfold zi_sc at h1 ⊢; rw [c7, c4, e6, e54, e7]; exact h1
  · rw [e53, e8]; exact h2
  · unfold zi_txt at h3 ⊢; rw [c1, c8, e3, e55]; exact h3
  · unfold zi_bow at h5 ⊢; rw [c2, c3, d2, d3]; exact h5
  · obtain ⟨m, t, a1, a2, a3, a4, a5, a6⟩ := h6
    exact ⟨m, t, a1, a2, by rw [e9]; exact a3, by rw [d1]; exact a4, by rw [e9]; exact a5, fun k hq => by rw [e61, en]; exact a6 k hq⟩
  · obtain ⟨c, a1, a2, a3⟩ := h7
    refine ⟨c, a1, by rw [d4]; exact a2, fun i hi => ?_⟩
    rw [e12, e81, e82, d4, e80, es i hi]
    exact a3 i hi
  · obtain ⟨m, cs, a1, a2, a3, a4, a5, a6, a7, a8⟩ := h8
    refine ⟨m, cs, a1, a2, by rw [c9]; exact a3, by rw [c5]; exact a4, by rw [e58]; exact a5, by rw [e29, e58]; exact a6, by rw [c6]; exact a7, ?_⟩
    rw [c6, e31, e58, e54]; exact a8
