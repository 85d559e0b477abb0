/-! LINES OF SCENES, AND THE REFERENCE'S READER OF THEM -/
def zn_fl (p mi pe pr to ne ch : Int32) : Nat → Int32
  | 0 => p
  | 1 => mi
  | 2 => pe
  | 3 => pr
  | 4 => to
  | 5 => ne
  | _ => ch
def zn_in (lo hi c : Int32) : Prop := lo ≤ c ∧ c ≤ hi
def zn_ri (H : Nat → Int32) (lo hi : Nat) : Nat → Nat → Nat → Nat ⊕ (Nat × Nat)
  | 0, a, b => .inr (b, a)
  | f + 1, a, b => if nI lo ≤ H a ∧ H a ≤ nI hi then (if b < 2 ^ (H a - nI lo).toNatClampNeg then zn_ri H lo hi f (a + 1) (b ||| 2 ^ (H a - nI lo).toNatClampNeg) else .inl a) else .inr (b, a)
def zn_p7 (H : Nat → Int32) (p mi pe pr to ne : Int32) (a : Nat) : Nat ⊕ ((Nat → Int32) × Nat) := if H a = 61 then (if 48 ≤ H (a + 1) ∧ H (a + 1) ≤ 57 then .inr (zn_fl p mi pe pr to ne (H (a + 1) - 48), a + 2) else .inl (a + 1)) else .inl a
def zn_p5 (H : Nat → Int32) (p mi pe pr to : Int32) (a : Nat) : Nat ⊕ ((Nat → Int32) × Nat) := if H a = 60 then (if 97 ≤ H (a + 1) ∧ H (a + 1) ≤ 104 then zn_p7 H p mi pe pr to (H (a + 1) - 97) (a + 2) else .inl (a + 1)) else zn_p7 H p mi pe pr to (-1) a
def zn_p4 (H : Nat → Int32) (p mi pe pr : Int32) (a : Nat) : Nat ⊕ ((Nat → Int32) × Nat) := if H a = 62 then (if 97 ≤ H (a + 1) ∧ H (a + 1) ≤ 104 then zn_p5 H p mi pe pr (H (a + 1) - 97) (a + 2) else .inl (a + 1)) else zn_p5 H p mi pe pr (-1) a
def zn_p3 (H : Nat → Int32) (p mi pe : Int32) (a : Nat) : Nat ⊕ ((Nat → Int32) × Nat) := match zn_ri H 49 52 99 a 0 with
  | .inl x => .inl x
  | .inr (b, a) => zn_p4 H p mi pe (nI b) a
def zn_p2 (H : Nat → Int32) (p mi : Int32) (a : Nat) : Nat ⊕ ((Nat → Int32) × Nat) := match zn_ri H 65 70 99 a 0 with
  | .inl x => .inl x
  | .inr (b, a) => zn_p3 H p mi (nI b) a
def zn_p0 (H : Nat → Int32) (a : Nat) : Nat ⊕ ((Nat → Int32) × Nat) := if 48 ≤ H a ∧ H a ≤ 49 then (if 49 ≤ H (a + 1) ∧ H (a + 1) ≤ 57 then zn_p2 H (H a - 48) (H (a + 1) - 48) (a + 2) else .inl (a + 1)) else .inl a
/-! rising, by numbers -/
def zn_la (v : Nat) : Int32 := if v = 0 then -1 else nI (Nat.log2 v)
theorem zn_la_lt : ∀ v, v < 64 → ∀ j, j < 6 → (zn_la v < nI j ↔ v < 2 ^ j) := by decide +kernel
theorem zn_la_up : ∀ v, v < 64 → ∀ j, j < 6 → v < 2 ^ j → zn_la (v ||| 2 ^ j) = nI j := by decide +kernel
theorem zn_sh : ∀ v, v < 64 → ∀ j, j < 6 → (nI v >>> (nI j &&& 31) = 0 ↔ v < 2 ^ j) := by decide +kernel
theorem zn_or : ∀ v, v < 64 → ∀ j, j < 6 → (nI v ||| ((1 : Int32) <<< (nI j &&& 31)) = nI (v ||| 2 ^ j)) ∧ v ||| 2 ^ j < 64 := by decide +kernel
theorem zn_or4 : ∀ v, v < 16 → ∀ j, j < 4 → v ||| 2 ^ j < 16 := by decide +kernel
/-- what comes out of it -/
theorem zn_ri_ok {m : Nat} {t : Nat → Int32} {lo k : Nat} (hk : lo + k ≤ 900) (hk5 : k ≤ 5) (K : Nat) (hK : ∀ v, v < K → ∀ j, j ≤ k → v ||| 2 ^ j < K) : ∀ f a b v c, b < K → a ≤ m → m < a + f → zn_ri (zq_h m t) lo (lo + k) f a b = .inr (v, c) → v < K ∧ a ≤ c ∧ c ≤ m ∧ ¬ (nI lo ≤ zq_h m t c ∧ zq_h m t c ≤ nI (lo + k)) := by
  intro f
  induction f with
  | zero => intro a b v c _ _ h3 _; omega
  | succ f ih =>
    intro a b v c hb ha hf h
    unfold zn_ri at h
    by_cases q : nI lo ≤ zq_h m t a ∧ zq_h m t a ≤ nI (lo + k)
    · rw [if_pos q] at h
      have am := zh_rl (k := 0) (show lo < 1000 by omega) q.1
      obtain ⟨j, hj, ej⟩ := zh_rg (show lo + k ≤ 1000 by omega) q.1 q.2
      rw [ej, nI_clamp (by omega)] at h
      by_cases q2 : b < 2 ^ j
      · rw [if_pos q2] at h
        obtain ⟨g1, g2, g3, g4⟩ := ih (a + 1) _ v c (hK b hb j hj) (by omega) (by omega) h
        exact ⟨g1, by omega, g3, g4⟩
      · rw [if_neg q2] at h; cases h
    · rw [if_neg q] at h
      have := Sum.inr.inj h
      obtain ⟨rfl, rfl⟩ := Prod.mk.inj this
      exact ⟨hb, Nat.le_refl a, ha, q⟩
theorem zn_ri_bad {m : Nat} {t : Nat → Int32} {lo k : Nat} (hk : lo + k ≤ 900) : ∀ f a b x, a ≤ m → zn_ri (zq_h m t) lo (lo + k) f a b = .inl x → x < m := by
  intro f
  induction f with
  | zero => intro a b x _ h; cases h
  | succ f ih =>
    intro a b x ha h
    unfold zn_ri at h
    by_cases q : nI lo ≤ zq_h m t a ∧ zq_h m t a ≤ nI (lo + k)
    · rw [if_pos q] at h
      have am := zh_rl (k := 0) (show lo < 1000 by omega) q.1
      by_cases q2 : b < 2 ^ (zq_h m t a - nI lo).toNatClampNeg
      · rw [if_pos q2] at h
        exact ih (a + 1) _ x (by omega) h
      · rw [if_neg q2] at h
        rw [← Sum.inl.inj h]; exact am
    · rw [if_neg q] at h; cases h
/-- the reference's rising -/
def zr_riP (B : Nat → Nat → Int32) (J : Nat → Nat → Int64) (F : zz_F) (o : Option (Int32 × (Nat → Nat → Int32) × (Nat → Nat → Int64) × zz_F)) (r : Nat ⊕ (Nat × Nat)) : Prop := match r with
  | .inl x => x < 900 ∧ ∃ v, o = some (v, zr_m B (nI x) (nI x), J, F)
  | .inr (v, c) => o = some (nI v, zr_m B (nI c) (-1), J, F)
theorem zr_ri {N : Nat} (hN : 100000 ≤ N) {B : Nat → Nat → Int32} {J : Nat → Nat → Int64} {F : zz_F} {m : Nat} {t : Nat → Int32} (h : zr_ok B F m t) (hm : m ≤ 100) {lo k : Nat} (hk : lo + k ≤ 900) (hk5 : k ≤ 5) : ∀ f a b u, b < 64 → a ≤ m → m < a + f → f + 1 < u → zr_riP B J F (zl_X12_rising N u 5 (nI lo) (nI (k + 1)) (nI b) (zn_la b) (zr_m B (nI a) (-1)) J F) (zn_ri (zq_h m t) lo (lo + k) f a b) := by
  intro f
  induction f with
  | zero => intro a b u _ _ h3 _; omega
  | succ f ih =>
    intro a b u hb ha hf hu
    obtain ⟨w, rfl⟩ : ∃ w, u = w + 2 := ⟨u - 2, by omega⟩
    have hh := zr_here hN (J := J) h (show a < 1000 by omega) (-1)
    rw [zo_X12_rising_5]
    unfold zb_X12_rising_5 zn_ri
    rw [zr_fine, if_neg (by decide), hh, Option.bind_some]
    dsimp only
    rw [show nI lo + nI (k + 1) - 1 = nI (lo + k) by rw [nI_add, show lo + (k + 1) = lo + k + 1 by omega, nI_pred]]
    by_cases q : nI lo ≤ zq_h m t a ∧ zq_h m t a ≤ nI (lo + k)
    · have am := zh_rl (k := 0) (show lo < 1000 by omega) q.1
      obtain ⟨j, hj, ej⟩ := zh_rg (c := lo) (k := k) (by omega) q.1 q.2
      have inn : zv_X12_in (zq_h m t a) (nI lo) (nI (lo + k)) = 1 := by
        unfold zv_X12_in
        rw [if_neg (Int32.not_lt.mpr q.1), if_neg (Int32.not_lt.mpr q.2)]
      rw [if_pos q, inn, if_neg (show ¬ (1 : Int32) = 0 by decide), hh, Option.bind_some]
      dsimp only
      rw [ej, nI_clamp (by omega)]
      by_cases q2 : b < 2 ^ j
      · rw [if_pos q2, if_pos ((zn_la_lt b hb j (by omega)).mpr q2), (zn_or b hb j (by omega)).1, zr_11, nI_1, zr_at, ← zn_la_up b hb j (by omega) q2]
        exact ih (a + 1) _ (w + 1) (zn_or b hb j (by omega)).2 (by omega) (by omega) (by omega)
      · rw [if_neg q2, if_neg (fun z => q2 ((zn_la_lt b hb j (by omega)).mp z)), zr_11, zr_fault]
        refine ⟨by omega, nI b, ?_⟩
        rw [zo_X12_rising_5]
        unfold zb_X12_rising_5
        rw [zr_bad (by omega), if_pos rfl]
    · have inn : zv_X12_in (zq_h m t a) (nI lo) (nI (lo + k)) = 0 := by
        unfold zv_X12_in
        by_cases w : zq_h m t a < nI lo
        · rw [if_pos w]
        · rw [if_neg w, if_pos (Int32.not_le.mp (fun z => q ⟨Int32.not_lt.mp w, z⟩))]
      rw [if_neg q, inn, if_pos rfl]
      exact rfl
theorem zr_rif {N : Nat} (hN : 100000 ≤ N) {B : Nat → Nat → Int32} {J : Nat → Nat → Int64} {F : zz_F} {m : Nat} {t : Nat → Int32} (h : zr_ok B F m t) (hm : m ≤ 80) {lo k : Nat} (hk : lo + k ≤ 900) (hk5 : k ≤ 5) {a : Nat} (ha : a ≤ m) : zr_riP B J F (zf_X12_rising N (nI lo) (nI (k + 1)) (zr_m B (nI a) (-1)) J F) (zn_ri (zq_h m t) lo (lo + k) 99 a 0) := by
  have r := zr_ri hN (J := J) h (by omega) hk hk5 99 a 0 (N - 1) (by omega) ha (by omega) (by omega)
  obtain ⟨M, rfl⟩ := zu_one N hN
  rw [zo_X12_rising]
  exact r
theorem zr_riB {N : Nat} (hN : 100000 ≤ N) {B : Nat → Nat → Int32} {J : Nat → Nat → Int64} {F : zz_F} {a : Int32} {x : Nat} (hx : x < 1000) (p q : Int32) : zf_X12_rising N p q (zr_m B a (nI x)) J F = some (0, zr_m B a (nI x), J, F) := by
  obtain ⟨M, rfl⟩ : ∃ M, N = M + 1 + 1 := ⟨N - 2, by omega⟩
  rw [zo_X12_rising]
  unfold zb_X12_rising_0
  rw [zo_X12_rising_5]
  unfold zb_X12_rising_5
  rw [zr_bad hx, if_pos rfl]
theorem zr_oneB {N : Nat} (hN : 100000 ≤ N) {B : Nat → Nat → Int32} {J : Nat → Nat → Int64} {F : zz_F} {a : Int32} {x : Nat} (hx : x < 1000) (p q : Int32) : zf_X12_oneOf N p q (zr_m B a (nI x)) J F = some (0, zr_m B a (nI x), J, F) := by
  obtain ⟨M, rfl⟩ := zu_one N hN
  rw [zo_X12_oneOf]
  unfold zb_X12_oneOf_0
  rw [zr_bad hx, if_neg (fun w => w rfl)]
theorem zr_u57 (B : Nat → Nat → Int32) (a w : Int32) (i : Nat) (v : Int32) : zz_u (zr_m B a w) 57 i v = zr_m (zz_u B 57 i v) a w := by
  funext b j
  unfold zr_m zz_u
  by_cases e : b = 52
  · subst e; simp
  · simp [e]
/-! a line, in the reference -/
def zn_t7 (N : Nat) (l1 : Int32) (I : Nat → Nat → Int32) (J : Nat → Nat → Int64) (F : zz_F) : Option (Int32 × (Nat → Nat → Int32) × (Nat → Nat → Int64) × zz_F) := (zf_X12_need N 61 I J F).bind fun r => (zf_X12_oneOf N 48 10 r.2.1 r.2.2.1 r.2.2.2).bind fun q => if ¬ ((l1 + 6) < 0 ∨ 84 ≤ (l1 + 6).toNatClampNeg) then (some (0, zz_u q.2.1 57 ((l1 + 6).toNatClampNeg) q.1, q.2.2.1, q.2.2.2)) else none
def zn_t5 (N : Nat) (l1 : Int32) (I : Nat → Nat → Int32) (J : Nat → Nat → Int64) (F : zz_F) : Option (Int32 × (Nat → Nat → Int32) × (Nat → Nat → Int64) × zz_F) := (zf_X12_passes N 60 I J F).bind fun r => if r.1 = 0 then (if ¬ ((l1 + 5) < 0 ∨ 84 ≤ (l1 + 5).toNatClampNeg) then zn_t7 N l1 (zz_u r.2.1 57 ((l1 + 5).toNatClampNeg) ((-1))) r.2.2.1 r.2.2.2 else none) else ((zf_X12_oneOf N 97 8 r.2.1 r.2.2.1 r.2.2.2).bind fun q => if ¬ ((l1 + 5) < 0 ∨ 84 ≤ (l1 + 5).toNatClampNeg) then zn_t7 N l1 (zz_u q.2.1 57 ((l1 + 5).toNatClampNeg) q.1) q.2.2.1 q.2.2.2 else none)
def zn_t4 (N : Nat) (l1 : Int32) (I : Nat → Nat → Int32) (J : Nat → Nat → Int64) (F : zz_F) : Option (Int32 × (Nat → Nat → Int32) × (Nat → Nat → Int64) × zz_F) := (zf_X12_passes N 62 I J F).bind fun r => if r.1 = 0 then (if ¬ ((l1 + 4) < 0 ∨ 84 ≤ (l1 + 4).toNatClampNeg) then zn_t5 N l1 (zz_u r.2.1 57 ((l1 + 4).toNatClampNeg) ((-1))) r.2.2.1 r.2.2.2 else none) else ((zf_X12_oneOf N 97 8 r.2.1 r.2.2.1 r.2.2.2).bind fun q => if ¬ ((l1 + 4) < 0 ∨ 84 ≤ (l1 + 4).toNatClampNeg) then zn_t5 N l1 (zz_u q.2.1 57 ((l1 + 4).toNatClampNeg) q.1) q.2.2.1 q.2.2.2 else none)
def zn_t3 (N : Nat) (l1 : Int32) (I : Nat → Nat → Int32) (J : Nat → Nat → Int64) (F : zz_F) : Option (Int32 × (Nat → Nat → Int32) × (Nat → Nat → Int64) × zz_F) := (zf_X12_rising N 49 4 I J F).bind fun r => if ¬ ((l1 + 3) < 0 ∨ 84 ≤ (l1 + 3).toNatClampNeg) then zn_t4 N l1 (zz_u r.2.1 57 ((l1 + 3).toNatClampNeg) r.1) r.2.2.1 r.2.2.2 else none
def zn_t2 (N : Nat) (l1 : Int32) (I : Nat → Nat → Int32) (J : Nat → Nat → Int64) (F : zz_F) : Option (Int32 × (Nat → Nat → Int32) × (Nat → Nat → Int64) × zz_F) := (zf_X12_rising N 65 6 I J F).bind fun r => if ¬ ((l1 + 2) < 0 ∨ 84 ≤ (l1 + 2).toNatClampNeg) then zn_t3 N l1 (zz_u r.2.1 57 ((l1 + 2).toNatClampNeg) r.1) r.2.2.1 r.2.2.2 else none
def zn_t1 (N : Nat) (l1 : Int32) (I : Nat → Nat → Int32) (J : Nat → Nat → Int64) (F : zz_F) : Option (Int32 × (Nat → Nat → Int32) × (Nat → Nat → Int64) × zz_F) := (zf_X12_oneOf N 49 9 I J F).bind fun r => if ¬ ((l1 + 1) < 0 ∨ 84 ≤ (l1 + 1).toNatClampNeg) then zn_t2 N l1 (zz_u r.2.1 57 ((l1 + 1).toNatClampNeg) (r.1 + 1)) r.2.2.1 r.2.2.2 else none
def zn_t0 (N : Nat) (l1 : Int32) (I : Nat → Nat → Int32) (J : Nat → Nat → Int64) (F : zz_F) : Option (Int32 × (Nat → Nat → Int32) × (Nat → Nat → Int64) × zz_F) := (zf_X12_oneOf N 48 2 I J F).bind fun r => if ¬ (l1 < 0 ∨ 84 ≤ l1.toNatClampNeg) then zn_t1 N l1 (zz_u r.2.1 57 (l1.toNatClampNeg) r.1) r.2.2.1 r.2.2.2 else none
theorem zn_t_eq (M : Nat) (l1 : Int32) (I : Nat → Nat → Int32) (J : Nat → Nat → Int64) (F : zz_F) : zf_X12_readScene (M + 1) l1 I J F = zn_t0 (M + 1) l1 I J F := by
  rw [zo_X12_readScene]
  rfl
theorem zn_gu {k w : Nat} (hk : k < 12) (hw : w < 7) : ¬ (nI (7 * k) + nI w < 0 ∨ 84 ≤ (nI (7 * k) + nI w).toNatClampNeg) ∧ (nI (7 * k) + nI w).toNatClampNeg = 7 * k + w := by
  rw [nI_add, nI_clamp (by omega)]
  exact ⟨fun q => q.elim (nI_pos (by omega)) (fun q => by omega), rfl⟩
/-- cell 57 from 7 k on is free -/
def zn_fr (k : Nat) (B B' : Nat → Nat → Int32) : Prop := (∀ y, y ≠ 57 → B' y = B y) ∧ ∀ j, j < 7 * k → B' 57 j = B 57 j
theorem zn_fr_refl (k : Nat) (B : Nat → Nat → Int32) : zn_fr k B B := ⟨fun _ _ => rfl, fun _ _ => rfl⟩
theorem zn_fr_u {k : Nat} {B B' : Nat → Nat → Int32} (h : zn_fr k B B') (w : Nat) (v : Int32) : zn_fr k B (zz_u B' 57 (7 * k + w) v) := ⟨fun y hy => by rw [zu_ux hy]; exact h.1 y hy, fun j hj => by rw [zz_un (by omega)]; exact h.2 j hj⟩
theorem zr_ok_u {B : Nat → Nat → Int32} {F : zz_F} {len : Nat} {t : Nat → Int32} (h : zz_re F = some 55 ∧ B 55 = t ∧ B 52 9 = nI len ∧ B 52 10 = nI 76) (hl : len ≤ 80) : zr_ok B F (min len 76) t := ⟨55, len, 76, by omega, h.1, rfl, h.2.1, h.2.2.1, h.2.2.2, by omega, by omega, rfl, by show min len 76 ≤ 80; omega⟩
def zn_B (B : Nat → Nat → Int32) (F : zz_F) (len : Nat) (t : Nat → Int32) : Prop := zz_re F = some 55 ∧ B 55 = t ∧ B 52 9 = nI len ∧ B 52 10 = nI 76
theorem zn_B_u {B : Nat → Nat → Int32} {F : zz_F} {len : Nat} {t : Nat → Int32} (h : zn_B B F len t) (i : Nat) (v : Int32) : zn_B (zz_u B 57 i v) F len t := ⟨h.1, by rw [zu_ux (by omega)]; exact h.2.1, by rw [zu_ux (by omega)]; exact h.2.2.1, by rw [zu_ux (by omega)]; exact h.2.2.2⟩
/-- a fault was there: nothing is read, all is written -/
theorem zn_b7 {N : Nat} (hN : 100000 ≤ N) {k : Nat} (hk : k < 12) {B : Nat → Nat → Int32} {J : Nat → Nat → Int64} {F : zz_F} {a : Int32} {x : Nat} (hx : x < 1000) : ∃ B', zn_fr k B B' ∧ zn_t7 N (nI (7 * k)) (zr_m B a (nI x)) J F = some (0, zr_m B' a (nI x), J, F) := by
  have g := zn_gu hk (show 6 < 7 by omega)
  refine ⟨zz_u B 57 (7 * k + 6) 0, zn_fr_u (zn_fr_refl k B) 6 0, ?_⟩
  unfold zn_t7
  refine zu_bd (zr_needB hN hx 61) (zu_bd (zr_oneB hN hx _ _) (zu_gd g.1 ?_))
  show some ((0 : Int32), zz_u (zr_m B a (nI x)) 57 ((nI (7 * k) + nI 6).toNatClampNeg) 0, J, F) = _
  rw [g.2, zr_u57]
theorem zn_b5 {N : Nat} (hN : 100000 ≤ N) {k : Nat} (hk : k < 12) {B : Nat → Nat → Int32} {J : Nat → Nat → Int64} {F : zz_F} {a : Int32} {x : Nat} (hx : x < 1000) : ∃ B', zn_fr k B B' ∧ zn_t5 N (nI (7 * k)) (zr_m B a (nI x)) J F = some (0, zr_m B' a (nI x), J, F) := by
  have g := zn_gu hk (show 5 < 7 by omega)
  obtain ⟨B', f1, e1⟩ := zn_b7 hN hk (B := zz_u B 57 (7 * k + 5) (-1)) (J := J) (F := F) (a := a) hx
  refine ⟨B', ⟨fun y hy => by rw [f1.1 y hy, zu_ux hy], fun j hj => by rw [f1.2 j hj, zz_un (by omega)]⟩, ?_⟩
  unfold zn_t5
  refine zu_bd (zr_passB hN hx 60) (zu_gd rfl (zu_gd g.1 ?_))
  show zn_t7 N (nI (7 * k)) (zz_u (zr_m B a (nI x)) 57 ((nI (7 * k) + nI 5).toNatClampNeg) (-1)) J F = _
  rw [g.2, zr_u57]
  exact e1
theorem zn_b4 {N : Nat} (hN : 100000 ≤ N) {k : Nat} (hk : k < 12) {B : Nat → Nat → Int32} {J : Nat → Nat → Int64} {F : zz_F} {a : Int32} {x : Nat} (hx : x < 1000) : ∃ B', zn_fr k B B' ∧ zn_t4 N (nI (7 * k)) (zr_m B a (nI x)) J F = some (0, zr_m B' a (nI x), J, F) := by
  have g := zn_gu hk (show 4 < 7 by omega)
  obtain ⟨B', f1, e1⟩ := zn_b5 hN hk (B := zz_u B 57 (7 * k + 4) (-1)) (J := J) (F := F) (a := a) hx
  refine ⟨B', ⟨fun y hy => by rw [f1.1 y hy, zu_ux hy], fun j hj => by rw [f1.2 j hj, zz_un (by omega)]⟩, ?_⟩
  unfold zn_t4
  refine zu_bd (zr_passB hN hx 62) (zu_gd rfl (zu_gd g.1 ?_))
  show zn_t5 N (nI (7 * k)) (zz_u (zr_m B a (nI x)) 57 ((nI (7 * k) + nI 4).toNatClampNeg) (-1)) J F = _
  rw [g.2, zr_u57]
  exact e1
theorem zn_b3 {N : Nat} (hN : 100000 ≤ N) {k : Nat} (hk : k < 12) {B : Nat → Nat → Int32} {J : Nat → Nat → Int64} {F : zz_F} {a : Int32} {x : Nat} (hx : x < 1000) : ∃ B', zn_fr k B B' ∧ zn_t3 N (nI (7 * k)) (zr_m B a (nI x)) J F = some (0, zr_m B' a (nI x), J, F) := by
  have g := zn_gu hk (show 3 < 7 by omega)
  obtain ⟨B', f1, e1⟩ := zn_b4 hN hk (B := zz_u B 57 (7 * k + 3) 0) (J := J) (F := F) (a := a) hx
  refine ⟨B', ⟨fun y hy => by rw [f1.1 y hy, zu_ux hy], fun j hj => by rw [f1.2 j hj, zz_un (by omega)]⟩, ?_⟩
  unfold zn_t3
  refine zu_bd (zr_riB hN hx _ _) (zu_gd g.1 ?_)
  show zn_t4 N (nI (7 * k)) (zz_u (zr_m B a (nI x)) 57 ((nI (7 * k) + nI 3).toNatClampNeg) 0) J F = _
  rw [g.2, zr_u57]
  exact e1
theorem zn_b2 {N : Nat} (hN : 100000 ≤ N) {k : Nat} (hk : k < 12) {B : Nat → Nat → Int32} {J : Nat → Nat → Int64} {F : zz_F} {a : Int32} {x : Nat} (hx : x < 1000) : ∃ B', zn_fr k B B' ∧ zn_t2 N (nI (7 * k)) (zr_m B a (nI x)) J F = some (0, zr_m B' a (nI x), J, F) := by
  have g := zn_gu hk (show 2 < 7 by omega)
  obtain ⟨B', f1, e1⟩ := zn_b3 hN hk (B := zz_u B 57 (7 * k + 2) 0) (J := J) (F := F) (a := a) hx
  refine ⟨B', ⟨fun y hy => by rw [f1.1 y hy, zu_ux hy], fun j hj => by rw [f1.2 j hj, zz_un (by omega)]⟩, ?_⟩
  unfold zn_t2
  refine zu_bd (zr_riB hN hx _ _) (zu_gd g.1 ?_)
  show zn_t3 N (nI (7 * k)) (zz_u (zr_m B a (nI x)) 57 ((nI (7 * k) + nI 2).toNatClampNeg) 0) J F = _
  rw [g.2, zr_u57]
  exact e1
theorem zn_b1 {N : Nat} (hN : 100000 ≤ N) {k : Nat} (hk : k < 12) {B : Nat → Nat → Int32} {J : Nat → Nat → Int64} {F : zz_F} {a : Int32} {x : Nat} (hx : x < 1000) : ∃ B', zn_fr k B B' ∧ zn_t1 N (nI (7 * k)) (zr_m B a (nI x)) J F = some (0, zr_m B' a (nI x), J, F) := by
  have g := zn_gu hk (show 1 < 7 by omega)
  obtain ⟨B', f1, e1⟩ := zn_b2 hN hk (B := zz_u B 57 (7 * k + 1) (0 + 1)) (J := J) (F := F) (a := a) hx
  refine ⟨B', ⟨fun y hy => by rw [f1.1 y hy, zu_ux hy], fun j hj => by rw [f1.2 j hj, zz_un (by omega)]⟩, ?_⟩
  unfold zn_t1
  refine zu_bd (zr_oneB hN hx _ _) (zu_gd g.1 ?_)
  show zn_t2 N (nI (7 * k)) (zz_u (zr_m B a (nI x)) 57 ((nI (7 * k) + nI 1).toNatClampNeg) (0 + 1)) J F = _
  rw [g.2, zr_u57]
  exact e1
/-- how a line's reading comes out -/
def zn_P (k : Nat) (B : Nat → Nat → Int32) (J : Nat → Nat → Int64) (F : zz_F) (o : Option (Int32 × (Nat → Nat → Int32) × (Nat → Nat → Int64) × zz_F)) (r : Nat ⊕ ((Nat → Int32) × Nat)) : Prop := match r with
  | .inl x => x < 900 ∧ ∃ B' a, zn_fr k B B' ∧ o = some (0, zr_m B' (nI a) (nI x), J, F)
  | .inr (fl, c) => ∃ B', zn_fr k B B' ∧ (∀ w, w < 7 → B' 57 (7 * k + w) = fl w) ∧ o = some (0, zr_m B' (nI c) (-1), J, F)
theorem zn_P_pre {k : Nat} {B B1 : Nat → Nat → Int32} {J : Nat → Nat → Int64} {F : zz_F} {o : Option (Int32 × (Nat → Nat → Int32) × (Nat → Nat → Int64) × zz_F)} {r : Nat ⊕ ((Nat → Int32) × Nat)} (h : zn_fr k B B1) (h2 : zn_P k B1 J F o r) : zn_P k B J F o r := by
  have tr : ∀ B', zn_fr k B1 B' → zn_fr k B B' := fun B' q => ⟨fun y hy => (q.1 y hy).trans (h.1 y hy), fun j hj => (q.2 j hj).trans (h.2 j hj)⟩
  cases r with
  | inl x =>
    obtain ⟨h1, B', a, h3, h4⟩ := h2
    exact ⟨h1, B', a, tr B' h3, h4⟩
  | inr p =>
    obtain ⟨fl, c⟩ := p
    obtain ⟨B', h1, h3, h4⟩ := h2
    exact ⟨B', tr B' h1, h3, h4⟩
theorem zn_P_bad {k : Nat} {B : Nat → Nat → Int32} {J : Nat → Nat → Int64} {F : zz_F} {o : Option (Int32 × (Nat → Nat → Int32) × (Nat → Nat → Int64) × zz_F)} {a x : Nat} (hx : x < 900) (h : ∃ B', zn_fr k B B' ∧ o = some (0, zr_m B' (nI a) (nI x), J, F)) : zn_P k B J F o (.inl x) := by
  obtain ⟨B', h1, h2⟩ := h
  exact ⟨hx, B', a, h1, h2⟩
/-- the fields so far -/
def zn_g (k w : Nat) (B : Nat → Nat → Int32) (fl : Nat → Int32) : Prop := ∀ i, i < w → B 57 (7 * k + i) = fl i
theorem zn_g_u {k w : Nat} {B : Nat → Nat → Int32} {fl : Nat → Int32} {v : Int32} (h : zn_g k w B fl) (hv : fl w = v) : zn_g k (w + 1) (zz_u B 57 (7 * k + w) v) fl := fun i hi => by
  by_cases q : i = w
  · subst q; rw [zz_us]; exact hv.symm
  · rw [zz_un (by omega)]; exact h i (by omega)
