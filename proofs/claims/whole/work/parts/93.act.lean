/-! ACTS ARE DONE -/
def zh_a1 (n m : Nat) (t f a : Nat → Int32) (x : Int32 × Int32) : Option (Nat → Int32) :=
  if x.1 = 119 then some (zh_up a 12 (a 12 + x.2))
  else if x.1 = 120 then (if x.2.toNatClampNeg < n ∧ a x.2.toNatClampNeg = 0 then some (zh_up a x.2.toNatClampNeg 2) else none)
  else (if zh_nx n a f (x.1 - 48).toNatClampNeg = -1 then none else some (zh_pl a f (zh_nx n a f (x.1 - 48).toNatClampNeg).toNatClampNeg (x.1 - 48).toNatClampNeg (zh_ch m t a f (zh_nx n a f (x.1 - 48).toNatClampNeg).toNatClampNeg)))
def zh_al (n m : Nat) (t f : Nat → Int32) : List (Int32 × Int32) → (Nat → Int32) → Nat × (Nat → Int32) × Bool
  | [], a => (0, a, false)
  | x :: l, a => match zh_a1 n m t f a x with
    | none => (0, a, true)
    | some a' => ((zh_al n m t f l a').1 + 1, (zh_al n m t f l a').2)
def zh_oA (x : Int32 × Int32) : Prop := (x.1 = 48 ∨ x.1 = 49) ∨ (x.1 = 120 ∧ ∃ k, k < 12 ∧ x.2 = nI k) ∨ (x.1 = 119 ∧ ∃ k, k < 10 ∧ x.2 = nI k)
theorem zh_al_n {n m : Nat} {t f a : Nat → Int32} {x : Int32 × Int32} {l : List (Int32 × Int32)} (h : zh_a1 n m t f a x = none) : zh_al n m t f (x :: l) a = (0, a, true) := by
  show (match zh_a1 n m t f a x with
    | none => (0, a, true)
    | some a' => ((zh_al n m t f l a').1 + 1, (zh_al n m t f l a').2)) = _
  rw [h]
theorem zh_al_s {n m : Nat} {t f a a' : Nat → Int32} {x : Int32 × Int32} {l : List (Int32 × Int32)} (h : zh_a1 n m t f a x = some a') : zh_al n m t f (x :: l) a = ((zh_al n m t f l a').1 + 1, (zh_al n m t f l a').2) := by
  show (match zh_a1 n m t f a x with
    | none => (0, a, true)
    | some a' => ((zh_al n m t f l a').1 + 1, (zh_al n m t f l a').2)) = _
  rw [h]
theorem zi_row_v {n : Nat} (hn : n ≤ 12) {a b b' : Nat → Int32} {v : Int32} (h : zi_row n a b) (h0 : b' 0 = b 0 + v) (h1 : ∀ i, i ≠ 0 → b' i = b i) : zi_row n (zh_up a 12 (a 12 + v)) b' := by
  have o : ∀ i, i ≠ 12 → zh_up a 12 (a 12 + v) i = a i := fun i hi => if_neg hi
  have st : ∀ w : Int32, zu_set (fun i => decide (zh_up a 12 (a 12 + v) i = w)) n = zu_set (fun i => decide (a i = w)) n := fun w => zu_set_cong fun i hi => by rw [o i (by omega)]
  obtain ⟨a0, a1, a2, a3, a4, a5, a6, a7, a8, a9, a10⟩ := h
  refine ⟨?_, ?_, ?_, ?_, ?_, ?_, ?_, ?_, ?_, ?_, ?_⟩
  · rw [h0, a0]; exact (if_pos rfl).symm
  · rw [h1 1 (by omega), a1, o 13 (by omega)]
  · rw [h1 2 (by omega), a2, st]
  · rw [h1 3 (by omega), a3, st]
  · rw [h1 4 (by omega), a4, st]
  · rw [h1 5 (by omega), a5, o 14 (by omega)]
  · rw [h1 6 (by omega), a6, o 15 (by omega)]
  · rw [h1 7 (by omega), a7, o 16 (by omega)]
  · rw [h1 8 (by omega), a8, o 17 (by omega)]
  · intro s hs
    rw [o s (by omega)]
    exact a9 s hs
  · rw [o 13 (by omega)]
    exact a10
theorem zi_row_d {n : Nat} (hn : n ≤ 12) {ro : Nat → Int32} {I : Nat → Nat → Int32} {s : Nat} (hs : s < n) (c : ro s = 0) (h : zi_row n ro (I 8)) : zi_row n (zh_up ro s 2) (zz_dropm I (nI s) 8) := by
  obtain ⟨a0, a1, a2, a3, a4, a5, a6, a7, a8, a9, a10⟩ := h
  have nd : ∀ i, 12 ≤ i → zh_up ro s 2 i = ro i := fun i hi => if_neg (by omega)
  refine ⟨?_, ?_, ?_, ?_, ?_, ?_, ?_, ?_, ?_, fun i hi => ?_, ?_⟩
  · rw [nd 12 (by omega), ← a0]; rfl
  · rw [nd 13 (by omega), ← a1]; rfl
  · show I 8 2 &&& (((1 : Int32) <<< (nI s &&& 31)) ^^^ (-1)) = _
    rw [a2]
    exact (zu_upD hn hs (by decide)).symm
  · rw [zu_upN (by decide) (by rw [c]; decide), ← a3]; rfl
  · show I 8 4 ||| ((1 : Int32) <<< (nI s &&& 31)) = _
    rw [a4]
    exact (zu_upS hn hs).symm
  · rw [nd 14 (by omega), ← a5]; rfl
  · rw [nd 15 (by omega), ← a6]; rfl
  · rw [nd 16 (by omega), ← a7]; rfl
  · rw [nd 17 (by omega), ← a8]; rfl
  · unfold zh_up
    split
    · exact .inr (.inr rfl)
    · exact a9 i hi
  · rw [nd 13 (by omega)]; exact a10
theorem zs_pn {N n : Nat} (hN : 100000 ≤ N) {I : Nat → Nat → Int32} {J : Nat → Nat → Int64} {ro : Nat → Int32} (hsc : zi_sc n I) (hr : zi_row n ro (I 8)) {m : Nat} (bt : ∀ a b, a < n → b < n → zv_X1_between I (nI a) (nI b) = zt_c m I a b) {p : Nat} (hp : p ≤ 1) :
    (zh_nx n ro (I 54) p = -1 ∧ zf_X11_performNext N (nI p) I J = some (0, I, J)) ∨ ∃ s I', s < n ∧ zh_nx n ro (I 54) p = nI s ∧ zf_X11_performNext N (nI p) I J = some (1, I', J) ∧ (∀ x, x ≠ 8 → I' x = I x) ∧ zi_row n (zh_pl ro (I 54) s p (zh_ch m (I 58) ro (I 54) s)) (I' 8) := by
  have hn := hsc.1
  have nx := zs_nextG hN (J := J) hsc hr hp
  rcases zh_nx_ok n ro (I 54) p with e | ⟨s, hs, e, s0, sp⟩
  · left
    refine ⟨e, ?_⟩
    rw [e] at nx
    obtain ⟨M, rfl⟩ := zu_one N hN
    rw [zo_X11_performNext]
    exact zu_bd nx (zu_gn (fun w => w rfl) rfl)
  · right
    have ne : ¬ nI s = -1 := fun q => nI_pos (n := s) (by omega) (by rw [q]; decide)
    have chv := zs_chhG hn hr bt hs
    rw [e] at nx
    obtain ⟨pr, _, pf, _⟩ := zs_perfG hsc hr hs hp sp s0 (zh_ch m (I 58) ro (I 54) s)
    refine ⟨s, zz_perfm I (nI s) (zh_ch m (I 58) ro (I 54) s), hs, e, ?_, pf, pr⟩
    obtain ⟨M, rfl⟩ := zu_one N hN
    rw [zo_X11_performNext]
    unfold zb_X11_performNext_0
    refine zu_bd nx (zu_gd ne (zu_gd (fun g1 g2 _ _ => ?_) ?_))
    · dsimp only at g1 g2 ⊢
      rw [hr.2.1] at g1 g2 ⊢
      rcases hr.2.2.2.2.2.2.2.2.2.2 with w | ⟨l, hl, w⟩
      · rw [w] at g1; exact absurd (by decide) g1
      · rw [w, show nI l * 12 = nI (l * 12) from pk_mul l 12, nI_add]
        exact nI_in (by omega) (by omega)
    · dsimp only
      rw [chv]
theorem zs_act {N n : Nat} (hN : 100000 ≤ N) {I : Nat → Nat → Int32} {J : Nat → Nat → Int64} {ro : Nat → Int32} (hsc : zi_sc n I) (hr : zi_row n ro (I 8)) {m : Nat} (bt' : ∀ a b, a < n → b < n → zv_X1_between I (nI a) (nI b) = zt_c m I a b) {x : Int32 × Int32} (hx : zh_oA x) {b : Int32} (hb1 : x.1 = 120 → b - 97 = x.2) (hb2 : x.1 = 119 → b - 48 = x.2) :
    (zh_a1 n m (I 58) (I 54) ro x = none ∧ zf_X11_act N x.1 b I J = some (0, I, J)) ∨ ∃ a' I', zh_a1 n m (I 58) (I 54) ro x = some a' ∧ zf_X11_act N x.1 b I J = some (1, I', J) ∧ (∀ y, y ≠ 8 → I' y = I y) ∧ zi_row n a' (I' 8) := by
  have hn := hsc.1
  obtain ⟨M, rfl⟩ := zu_one N hN
  rw [zo_X11_act]
  unfold zb_X11_act_0 zh_a1
  rcases hx with e | ⟨e, k, hk, e2⟩ | ⟨e, k, hk, e2⟩
  · have d1 : ¬ x.1 = 120 := by rcases e with e | e <;> rw [e] <;> decide
    have d2 : ¬ x.1 = 119 := by rcases e with e | e <;> rw [e] <;> decide
    rw [if_pos d2, if_pos d1, if_neg d2, if_neg d1]
    obtain ⟨p, hp, ep⟩ : ∃ p, p ≤ 1 ∧ x.1 - 48 = nI p := by
      rcases e with e | e
      · exact ⟨0, by omega, by rw [e]; rfl⟩
      · exact ⟨1, by omega, by rw [e]; rfl⟩
    rw [ep, nI_clamp (by omega)]
    rcases zs_pn hN (J := J) hsc hr bt' hp with ⟨q, v⟩ | ⟨s, I', hs, q, v, fr, pr⟩
    · left
      rw [if_pos q]
      exact ⟨rfl, zu_bd v (zu_gd (.inl rfl) rfl)⟩
    · right
      have ne : ¬ nI s = -1 := fun q => nI_pos (n := s) (by omega) (by rw [q]; decide)
      rw [q, if_neg ne, nI_clamp (by omega)]
      exact ⟨_, I', rfl, zu_bd v (zu_gd (.inr rfl) rfl), fr, pr⟩
  · rw [hb1 e, e, if_pos (show ¬ (120 : Int32) = 119 by decide), if_neg (show ¬ ¬ (120 : Int32) = 120 from fun w => w rfl), if_neg (show ¬ (120 : Int32) = 119 by decide), if_pos (show (120 : Int32) = 120 from rfl), e2, nI_clamp (by omega)]
    rcases zu_scn hsc (nI k) with ⟨q1, q2⟩ | ⟨s, hs, es, q1, q2⟩
    · left
      have : ¬ k < n := fun w => by
        unfold zv_X9_has at q1
        rw [if_neg (nI_pos (by omega)), hsc.2.2.1, if_neg (nI_ge w (by omega))] at q1
        cases q1
      have rf : zv_X11_refusalToDrop I (nI k) = -1 := by
        unfold zv_X11_refusalToDrop
        rw [q1, if_neg (fun w => w rfl)]
      rw [if_neg (fun w => this w.1), rf]
      exact ⟨rfl, rfl⟩
    · have ks : k = s := (nI_eq (by omega) (by omega)).mp es
      subst ks
      have hb : bt (I 8 2) k = decide (ro k = 0) := by
        rw [hr.2.2.1]
        exact zu_set_at (by omega) hs
      by_cases c : ro k = 0
      · right
        have rf : zv_X11_refusalToDrop I (nI k) = 0 := by
          unfold zv_X11_refusalToDrop
          rw [q1, if_pos (by decide), if_pos (by rw [zu_bz (by omega), hb]; simp [c])]
        rw [if_pos ⟨hs, c⟩, rf, if_neg (show ¬ ¬ (0 : Int32) = 0 from fun w => w rfl), if_neg (show ¬ (1 : Int32) = 0 by decide)]
        refine ⟨_, _, rfl, rfl, fun y hy => ?_, zi_row_d hn hs c hr⟩
        unfold zz_dropm
        rw [zu_ux hy, zu_ux hy]
      · left
        have rf : zv_X11_refusalToDrop I (nI k) = -2 := by
          unfold zv_X11_refusalToDrop
          rw [q1, if_pos (by decide), if_neg (by rw [zu_bz (by omega), hb]; simp [c])]
        rw [if_neg (fun w => c w.2), rf]
        exact ⟨rfl, rfl⟩
  · right
    rw [hb2 e, if_neg (show ¬ ¬ x.1 = 119 from fun w => w e), if_pos e]
    refine ⟨_, _, rfl, rfl, fun y hy => zu_ux hy, zi_row_v hn hr (zz_us _ _ _ _) (fun i hi => by rw [zz_un (fun w => hi w.2)])⟩
/-- the reference does an act -/
theorem zm_act {N n : Nat} (hN : 100000 ≤ N) (hn : n ≤ 12) {I : Nat → Nat → Int32} {J : Nat → Nat → Int64} {F : zz_F} {m : Nat} {t : Nat → Int32} (h : zr_ru m t I F) (h1 : I 52 1 = nI n) (hl : I 53 13 = -1 ∨ ∃ l, l < n ∧ I 53 13 = nI l) {x : Int32 × Int32} (hx : zh_oA x) {b : Int32} (hb : x.1 = 120 ∨ x.1 = 119 → b = x.2) :
    (zh_a1 n m t (I 54) (I 53) x = none ∧ zf_X12_act N x.1 b I J F = some (0, I, J, F)) ∨ ∃ a' I' F', zh_a1 n m t (I 54) (I 53) x = some a' ∧ zf_X12_act N x.1 b I J F = some (1, zh_r I' 53 a', J, F') ∧ zr_fr I I' ∧ zF_re F F' ∧ (a' 13 = -1 ∨ ∃ l, l < n ∧ a' 13 = nI l) := by
  obtain ⟨M, rfl⟩ : ∃ M, N = M + 2 := ⟨N - 2, by omega⟩
  rw [zo_X12_act]
  unfold zb_X12_act_0 zh_a1
  have r45 : ∀ u v, zl_X12_act (M + 2) (M + 1) 45 u v I J F = some (0, I, J, F) := fun u v => by rw [zo_X12_act_45]; rfl
  have row : ∀ (k : Nat) (v : Int32), zz_u I 53 k v = zh_r I 53 (zh_up (I 53) k v) := fun k v => by
    funext b j
    unfold zz_u zh_r zh_up
    by_cases q : b = 53
    · subst q; by_cases w : j = k <;> simp [w]
    · simp [q]
  rcases hx with e | ⟨e, k, hk, e2⟩ | ⟨e, k, hk, e2⟩
  · have d1 : ¬ x.1 = 120 := by rcases e with e | e <;> rw [e] <;> decide
    have d2 : ¬ x.1 = 119 := by rcases e with e | e <;> rw [e] <;> decide
    rw [if_neg d2, if_neg d1, if_neg d2, if_neg d1]
    obtain ⟨p, hp, ep⟩ : ∃ p, p ≤ 1 ∧ x.1 - 48 = nI p := by
      rcases e with e | e
      · exact ⟨0, by omega, by rw [e]; rfl⟩
      · exact ⟨1, by omega, by rw [e]; rfl⟩
    rw [ep, nI_clamp (by omega)]
    have nx := zm_next hN hn (J := J) h1 p
    rcases zh_nx_ok n (I 53) (I 54) p with q | ⟨s, hs, q, s0, sp⟩
    · left
      rw [if_pos q]
      exact ⟨rfl, zu_bd nx (zu_gn (fun w => w q) rfl)⟩
    · right
      have ne : ¬ nI s = -1 := fun q => nI_pos (n := s) (by omega) (by rw [q]; decide)
      rw [q] at nx
      rw [q, if_neg ne, nI_clamp (by omega)]
      obtain ⟨I', F', g1, g2, g3⟩ := zm_go hN hn (J := J) h hl hs hp sp
      refine ⟨_, I', F', rfl, zu_bd nx (zu_gd ne (zu_bd g1 rfl)), g2, g3, .inr ⟨s, hs, ?_⟩⟩
      unfold zh_pl zh_up
      rw [if_pos rfl]
  · rw [hb (.inl e), e, if_neg (show ¬ (120 : Int32) = 119 by decide), if_pos rfl, if_neg (show ¬ (120 : Int32) = 119 by decide), if_pos rfl, e2, nI_clamp (by omega), r45]
    have isS : zv_X12_isScene I (nI k) = if k < n then 1 else 0 := by
      unfold zv_X12_isScene zv_X12_in
      rw [h1, if_neg (nI_pos (by omega))]
      by_cases q : k < n
      · rw [if_pos q, show nI n - 1 = nI (n - 1) by rw [show n = n - 1 + 1 by omega, nI_pred]; rfl, if_neg (nI_nlt (by omega) (by omega))]
      · rw [if_neg q]
        by_cases z : n = 0
        · subst z
          rw [if_pos]
          exact Int32.lt_of_lt_of_le (show nI 0 - 1 < 0 by decide) (Int32.not_lt.mp (nI_pos (by omega)))
        · rw [show nI n - 1 = nI (n - 1) by rw [show n = n - 1 + 1 by omega, nI_pred]; rfl, if_pos (nI_lt (by omega) (by omega))]
    rw [isS]
    by_cases q : k < n
    · rw [if_pos q, if_neg (show ¬ (1 : Int32) = 0 by decide), if_pos (show ¬ (nI k < 0 ∨ 18 ≤ k) from fun w => w.elim (nI_pos (by omega)) (fun w => by omega))]
      by_cases c : I 53 k = 0
      · right
        rw [if_pos ⟨q, c⟩, if_pos c, row]
        refine ⟨_, I, F, rfl, rfl, zr_fr_refl I, zF_refl F, ?_⟩
        rw [show zh_up (I 53) k 2 13 = I 53 13 from if_neg (by omega)]
        exact hl
      · left
        rw [if_neg (fun w => c w.2), if_neg c]
        exact ⟨rfl, rfl⟩
    · left
      rw [if_neg q, if_pos rfl, if_neg (fun w => q w.1)]
      exact ⟨rfl, rfl⟩
  · right
    rw [hb (.inr e), if_pos e, if_pos e, row]
    refine ⟨_, I, F, rfl, rfl, zr_fr_refl I, zF_refl F, ?_⟩
    rw [show zh_up (I 53) 12 (I 53 12 + x.2) 13 = I 53 13 from if_neg (by omega)]
    exact hl
