/-! AN EVENING: ITS LOOPS -/
theorem zh_cons_i {x : Int32 × Int32} {r : Nat ⊕ List (Int32 × Int32)} {l : List (Int32 × Int32)} (h : zh_cons x r = .inr l) : ∃ l', r = .inr l' ∧ l = x :: l' := by
  cases r with
  | inl p => cases h
  | inr l' => exact ⟨l', rfl, (Sum.inr.inj h).symm⟩
theorem zh_rg {s : Int32} {c k : Nat} (hk : c + k ≤ 1000) (h1 : nI c ≤ s) (h2 : s ≤ nI (c + k)) : ∃ j, j ≤ k ∧ s - nI c = nI j := by
  have q0 : ¬ s < 0 := fun w => nI_pos (n := c) (by omega) (Int32.lt_of_le_of_lt h1 w)
  obtain ⟨j, hj, rfl⟩ := nI_of q0
  have j1 : c ≤ j := (nI_leI (by omega) hj).mp h1
  have j2 : j ≤ c + k := (nI_leI hj (by omega)).mp h2
  exact ⟨j - c, by omega, pk_sub j1⟩
theorem zh_er_i {c : Nat → Int32} {len f a : Nat} {l : List (Int32 × Int32)} (h : zh_er c len (f + 1) a = .inr l) (ha : ¬ len ≤ a) : ∃ x l', l = x :: l' ∧ x.1 = c a ∧ zh_oA x ∧ ((x.1 = 48 ∨ x.1 = 49) ∧ zh_er c len f (a + 1) = .inr l' ∨ (x.1 = 120 ∧ x.2 = c (a + 1) - 97 ∧ (97 ≤ c (a + 1) ∧ c (a + 1) ≤ 108) ∧ zh_er c len f (a + 2) = .inr l') ∨ (x.1 = 119 ∧ x.2 = c (a + 1) - 48 ∧ (48 ≤ c (a + 1) ∧ c (a + 1) ≤ 57) ∧ zh_er c len f (a + 2) = .inr l')) := by
  unfold zh_er at h
  rw [if_neg ha] at h
  by_cases e1 : c a = 48 ∨ c a = 49
  · rw [if_pos e1] at h
    obtain ⟨l', h1, rfl⟩ := zh_cons_i h
    exact ⟨_, l', rfl, rfl, .inl e1, .inl ⟨e1, h1⟩⟩
  rw [if_neg e1] at h
  by_cases e2 : c a = 120
  · rw [if_pos e2] at h
    by_cases q : 97 ≤ c (a + 1) ∧ c (a + 1) ≤ 108
    · rw [if_pos q] at h
      obtain ⟨l', h1, rfl⟩ := zh_cons_i h
      obtain ⟨j, hj, ej⟩ := zh_rg (c := 97) (k := 11) (by omega) q.1 q.2
      exact ⟨_, l', rfl, e2.symm, .inr (.inl ⟨rfl, j, by omega, ej⟩), .inr (.inl ⟨rfl, rfl, q, h1⟩)⟩
    · rw [if_neg q] at h
      cases h
  rw [if_neg e2] at h
  by_cases e3 : c a = 119
  · rw [if_pos e3] at h
    by_cases q : 48 ≤ c (a + 1) ∧ c (a + 1) ≤ 57
    · rw [if_pos q] at h
      obtain ⟨l', h1, rfl⟩ := zh_cons_i h
      obtain ⟨j, hj, ej⟩ := zh_rg (c := 48) (k := 9) (by omega) q.1 q.2
      exact ⟨_, l', rfl, e3.symm, .inr (.inr ⟨rfl, j, by omega, ej⟩), .inr (.inr ⟨rfl, rfl, q, h1⟩)⟩
    · rw [if_neg q] at h
      cases h
  · rw [if_neg e3] at h
    cases h
theorem zh_rl {m : Nat} {t : Nat → Int32} {a c k : Nat} (hc : c < 1000) (h1 : nI c ≤ zq_h m t a) : a < m := zq_h_lt rfl (fun w => nI_pos (n := c) (by omega) (Int32.lt_of_le_of_lt h1 w))
/-- the class does the acts -/
theorem zs_al {N n : Nat} (hN : 100000 ≤ N) {X : Nat → Nat → Int32} {J : Nat → Nat → Int64} (hsc : zi_sc n X) {mm : Nat} (bt' : ∀ a b, a < n → b < n → zv_X1_between X (nI a) (nI b) = zt_c mm X a b) {len m : Nat} (hl : len ≤ 80) (hm : m ≤ len) {t : Nat → Int32} (ht : ∀ k, k < 80 → X 3 k = t k &&& 255) : ∀ f a u d k (I : Nat → Nat → Int32) (ro : Nat → Int32) l, zh_er (zq_h m t) len f a = .inr l → a ≤ len → len ≤ a + f → k ≤ a → 2 * f + 4 < u → (∀ x, x ≠ 8 → I x = X x) → zi_row n ro (I 8) → ∃ I' u', (∀ x, x ≠ 8 → I' x = X x) ∧ zi_row n (zh_al n mm (X 58) (X 54) l ro).2.1 (I' 8) ∧ zl_X11_evening N u 65 (nI len) (nI a) (nI d) 0 (nI k) I J = zl_X11_evening N (u' + 2) 141 0 0 (nI (d + (zh_al n mm (X 58) (X 54) l ro).1)) (if (zh_al n mm (X 58) (X 54) l ro).2.2 = true then 1 else 0) 0 I' J := by
  have fin : ∀ a u d k (I : Nat → Nat → Int32), a = len → zl_X11_evening N (u + 1) 65 (nI len) (nI a) (nI d) 0 (nI k) I J = zl_X11_evening N u 141 0 0 (nI d) 0 0 I J := fun a u d k I ha => by
    subst ha
    rw [zo_X11_evening_65]
    unfold zb_X11_evening_65
    rw [if_pos (nI_le (Nat.le_refl a) (by omega))]
    split <;> rfl
  intro f
  induction f with
  | zero =>
    intro a u d k I ro l he ha hf hk hu hI hr
    obtain ⟨w, rfl⟩ : ∃ w, u = w + 3 := ⟨u - 3, by omega⟩
    have : l = [] := (Sum.inr.inj he).symm
    subst this
    exact ⟨I, w, hI, hr, fin a (w + 2) d k I (by omega)⟩
  | succ f ih =>
    intro a u d k I ro l he ha hf hk hu hI hr
    obtain ⟨w, rfl⟩ : ∃ w, u = w + 4 := ⟨u - 4, by omega⟩
    by_cases al : len ≤ a
    · have : l = [] := by
        unfold zh_er at he
        rw [if_pos al] at he
        exact (Sum.inr.inj he).symm
      subst this
      exact ⟨I, w + 1, hI, hr, fin a (w + 3) d k I (by omega)⟩
    obtain ⟨x, l', rfl, x1, xo, cs⟩ := zh_er_i he al
    have I54 : I 54 = X 54 := hI 54 (by omega)
    have I58 : I 58 = X 58 := hI 58 (by omega)
    have sI : zi_sc n I := zc_sc hsc (congrFun (hI 5 (by omega)) 2) (hI 6 (by omega)) (hI 7 (by omega)) (congrFun (hI 52 (by omega)) 1) I54
    have bI : ∀ a b, a < n → b < n → zv_X1_between I (nI a) (nI b) = zt_c mm I a b := fun a b ha hb => by
      rw [show zv_X1_between I = zv_X1_between X by
        funext u v
        unfold zv_X1_between
        rw [hI 31 (by omega)], bt' a b ha hb]
      unfold zt_c
      rw [I58, I54]
    have am : a < m := by
      rcases xo with (e | e) | ⟨e, _⟩ | ⟨e, _⟩
      · exact zq_h_lt (c := 48) (x1.symm.trans e) (by decide)
      · exact zq_h_lt (c := 49) (x1.symm.trans e) (by decide)
      · exact zq_h_lt (c := 120) (x1.symm.trans e) (by decide)
      · exact zq_h_lt (c := 119) (x1.symm.trans e) (by decide)
    have sg : ∀ j, j < m → zv_X11_signAt I (nI j) = zq_h m t j := fun j hj => by
      unfold zv_X11_signAt
      rw [if_neg (nI_pos (by omega)), if_neg (nI_ge (by omega) (by omega)), nI_clamp (by omega), hI 3 (by omega), ht j (by omega)]
      exact (if_pos hj).symm
    have s1 : zv_X11_signAt I (nI a) = x.1 := (sg a am).trans x1.symm
    have b1 : x.1 = 120 → zv_X11_signAt I (nI a + 1) - 97 = x.2 := fun e => by
      rcases cs with ⟨c1, _⟩ | ⟨c1, c2, c3, _⟩ | ⟨c1, _⟩
      · rw [e] at c1; rcases c1 with c1 | c1 <;> cases c1
      · rw [nI_1, sg (a + 1) (zh_rl (c := 97) (k := 0) (by omega) c3.1), c2]
      · rw [e] at c1; cases c1
    have b2 : x.1 = 119 → zv_X11_signAt I (nI a + 1) - 48 = x.2 := fun e => by
      rcases cs with ⟨c1, _⟩ | ⟨c1, _⟩ | ⟨c1, c2, c3, _⟩
      · rw [e] at c1; rcases c1 with c1 | c1 <;> cases c1
      · rw [e] at c1; cases c1
      · rw [nI_1, sg (a + 1) (zh_rl (c := 48) (k := 0) (by omega) c3.1), c2]
    rw [zo_X11_evening_65]
    unfold zb_X11_evening_65
    rw [if_neg (nI_ge (show k < len by omega) (by omega)), if_neg (nI_ge (show a < len by omega) (by omega)), if_neg (fun w => w rfl), s1]
    have r135 : ∀ (l2 l3 l4 l5 : Int32) (I' : Nat → Nat → Int32), zl_X11_evening N (w + 3) 135 (nI len) l2 l3 l4 l5 I' J = zl_X11_evening N (w + 2) 65 (nI len) l2 l3 l4 (l5 + 1) I' J := fun l2 l3 l4 l5 I' => by
      rw [zo_X11_evening_135]
      rfl
    rcases zs_act hN (J := J) sI hr bI xo b1 b2 with ⟨e0, ev⟩ | ⟨a', I', e0, ev, fr, pr⟩
    · rw [I58, I54] at e0
      rw [zh_al_n e0, ev, Option.bind_some, if_pos rfl, r135]
      refine ⟨I, w - 1, hI, hr, ?_⟩
      obtain ⟨w', rfl⟩ : ∃ w', w = w' + 1 := ⟨w - 1, by omega⟩
      rw [zo_X11_evening_65]
      unfold zb_X11_evening_65
      rw [if_neg (nI_ge (show a < len by omega) (by omega)), if_pos (show ¬ (1 : Int32) = 0 by decide)]
      show (if nI len ≤ nI k + 1 then zl_X11_evening N (w' + 2) 141 0 0 (nI d) 1 0 I J else zl_X11_evening N (w' + 2) 141 0 0 (nI d) 1 0 I J) = _
      rw [ite_self]
      rfl
    · rw [I58, I54] at e0
      rw [zh_al_s e0, ev, Option.bind_some, if_neg (show ¬ (1 : Int32) = 0 by decide)]
      have hI' : ∀ x, x ≠ 8 → I' x = X x := fun x hx => (fr x hx).trans (hI x hx)
      have nx : ∀ j, j ≤ len → a < j → len ≤ j + f → zh_er (zq_h m t) len f j = .inr l' → ∃ I'' u', (∀ x, x ≠ 8 → I'' x = X x) ∧ zi_row n (zh_al n mm (X 58) (X 54) l' a').2.1 (I'' 8) ∧ zl_X11_evening N (w + 3) 135 (nI len) (nI j) (nI d + 1) 0 (nI k) I' J = zl_X11_evening N (u' + 2) 141 0 0 (nI (d + ((zh_al n mm (X 58) (X 54) l' a').1 + 1))) (if (zh_al n mm (X 58) (X 54) l' a').2.2 = true then 1 else 0) 0 I'' J := fun j hj haj hjf he' => by
        rw [r135, nI_1, nI_1]
        obtain ⟨I'', u', g1, g2, g3⟩ := ih j (w + 2) (d + 1) (k + 1) I' a' l' he' hj hjf (by omega) (by omega) hI' pr
        refine ⟨I'', u', g1, g2, ?_⟩
        rw [g3, show d + 1 + (zh_al n mm (X 58) (X 54) l' a').1 = d + ((zh_al n mm (X 58) (X 54) l' a').1 + 1) by omega]
      rcases cs with ⟨c1, c2⟩ | ⟨c1, c2, c3, c4⟩ | ⟨c1, c2, c3, c4⟩
      · have d1 : ¬ x.1 = 120 := by rcases c1 with e | e <;> rw [e] <;> decide
        have d2 : ¬ x.1 = 119 := by rcases c1 with e | e <;> rw [e] <;> decide
        rw [if_neg d1, if_pos d2]
        have := nx (a + 1) (by omega) (by omega) (by omega) c2
        rw [← nI_1] at this
        exact this
      · have := zh_rl (c := 97) (k := 0) (by omega) c3.1
        have := nx (a + 2) (by omega) (by omega) (by omega) c4
        rw [if_pos c1]
        rw [show nI a + 2 = nI (a + 2) from nI_add a 2]
        exact this
      · have := zh_rl (c := 48) (k := 0) (by omega) c3.1
        have := nx (a + 2) (by omega) (by omega) (by omega) c4
        have d1 : ¬ x.1 = 120 := by rw [c1]; decide
        rw [if_neg d1, if_neg (fun w => w c1)]
        rw [show nI a + 2 = nI (a + 2) from nI_add a 2]
        exact this
/-! the reference reads them -/
theorem zr_u64 (B : Nat → Nat → Int32) (a w : Int32) (i : Nat) (v : Int32) : zz_u (zr_m B a w) 64 i v = zr_m (zz_u B 64 i v) a w := by
  funext b j
  unfold zr_m zz_u
  by_cases e : b = 52
  · subst e; simp
  · simp [e]
def zh_enl (g : Nat → Int32) (k : Nat) (l : List (Int32 × Int32)) : Prop := ∀ i x, l[i]? = some x → g (2 * (k + i)) = x.1 ∧ (x.1 = 120 ∨ x.1 = 119 → g (2 * (k + i) + 1) = x.2)
def zr_bt (B : Nat → Nat → Int32) (F : zz_F) (len : Nat) (t : Nat → Int32) : Prop := zz_re F = some 55 ∧ B 55 = t ∧ B 52 9 = nI len ∧ B 52 10 = nI 60
theorem zr_bt_ok {B : Nat → Nat → Int32} {F : zz_F} {len : Nat} {t : Nat → Int32} (h : zr_bt B F len t) (hl : len ≤ 80) : zr_ok B F (min len 60) t := ⟨55, len, 60, by omega, h.1, rfl, h.2.1, h.2.2.1, h.2.2.2, by omega, by omega, rfl, by show min len 60 ≤ 80; omega⟩
theorem zr_bt_u {B : Nat → Nat → Int32} {F : zz_F} {len : Nat} {t : Nat → Int32} (h : zr_bt B F len t) (i : Nat) (v : Int32) : zr_bt (zz_u B 64 i v) F len t := ⟨h.1, by rw [zu_ux (by omega)]; exact h.2.1, by rw [zu_ux (by omega)]; exact h.2.2.1, by rw [zu_ux (by omega)]; exact h.2.2.2⟩
theorem zm_ra {N : Nat} (hN : 100000 ≤ N) {J : Nat → Nat → Int64} {F : zz_F} {len : Nat} (hl : len ≤ 80) {t : Nat → Int32} (hb : ∀ i, i < min len 60 → ∃ b, b < 256 ∧ t i = (nI b).toInt8.toInt32) {B : Nat → Nat → Int32} (h : zr_bt B F len t) {a k : Nat} (ha : a ≤ 80) (hk : k < 80) : zf_X12_readAct N (2 * nI k) (zr_m B (nI a) (-1)) J F =
    if zq_h (min len 60) t a = 48 ∨ zq_h (min len 60) t a = 49 then some (0, zr_m (zz_u B 64 (2 * k) (zq_h (min len 60) t a)) (nI (a + 1)) (-1), J, F)
    else if zq_h (min len 60) t a = 120 then (if 97 ≤ zq_h (min len 60) t (a + 1) ∧ zq_h (min len 60) t (a + 1) ≤ 108 then some (0, zr_m (zz_u (zz_u B 64 (2 * k) 120) 64 (2 * k + 1) (zq_h (min len 60) t (a + 1) - 97)) (nI (a + 2)) (-1), J, F) else some (0, zr_m (zz_u (zz_u B 64 (2 * k) 120) 64 (2 * k + 1) 0) (nI (a + 1)) (nI (a + 1)), J, F))
    else if zq_h (min len 60) t a = 119 then (if 48 ≤ zq_h (min len 60) t (a + 1) ∧ zq_h (min len 60) t (a + 1) ≤ 57 then some (0, zr_m (zz_u (zz_u B 64 (2 * k) 119) 64 (2 * k + 1) (zq_h (min len 60) t (a + 1) - 48)) (nI (a + 2)) (-1), J, F) else some (0, zr_m (zz_u (zz_u B 64 (2 * k) 119) 64 (2 * k + 1) 0) (nI (a + 1)) (nI (a + 1)), J, F))
    else some (0, zr_m B (nI a) (nI a), J, F) := by
  obtain ⟨M, rfl⟩ := zu_one N hN
  have hh := zr_here hN (J := J) (zr_bt_ok h hl) (show a < 1000 by omega) (-1)
  rw [zo_X12_readAct]
  unfold zb_X12_readAct_0
  rw [hh, Option.bind_some]
  dsimp only
  rw [zr_11, nI_1, zr_at, show (2 : Int32) * nI k = nI (2 * k) from pk_mul 2 k, nI_1, nI_clamp (show 2 * k < 2 ^ 31 by omega), nI_clamp (show 2 * k + 1 < 2 ^ 31 by omega)]
  have g1 : ¬ (nI (2 * k) < 0 ∨ 160 ≤ 2 * k) := fun w => by
    rcases w with w | w
    · exact nI_pos (by omega) w
    · omega
  have g2 : ¬ (nI (2 * k + 1) < 0 ∨ 160 ≤ 2 * k + 1) := fun w => by
    rcases w with w | w
    · exact nI_pos (by omega) w
    · omega
  generalize hc : zq_h (min len 60) t a = c
  have one : ∀ (v : Int32) (lo n' : Nat), 1 ≤ n' → lo + n' ≤ 128 → zf_X12_oneOf (M + 1) (nI lo) (nI n') (zz_u (zr_m B (nI (a + 1)) (-1)) 64 (2 * k) v) J F = if nI lo ≤ zq_h (min len 60) t (a + 1) ∧ zq_h (min len 60) t (a + 1) ≤ nI (lo + n' - 1) then some (zq_h (min len 60) t (a + 1) - nI lo, zr_m (zz_u B 64 (2 * k) v) (nI (a + 1 + 1)) (-1), J, F) else some (0, zr_m (zz_u B 64 (2 * k) v) (nI (a + 1)) (nI (a + 1)), J, F) := fun v lo n' h1 h2 => by
    rw [zr_u64]
    exact zr_one hN (zr_bt_ok (zr_bt_u h _ _) hl) hb (by omega) h1 h2
  by_cases e0 : c = 48
  · subst e0
    rw [if_pos rfl, if_pos g1, if_pos (by decide), if_pos (by decide), if_pos (.inl rfl), zr_u64]
  by_cases e1 : c = 49
  · subst e1
    rw [if_neg (by decide), if_pos rfl, if_pos g1, if_pos (by decide), if_pos (by decide), if_pos (.inr rfl), zr_u64]
  rw [if_neg e0, if_neg e1, if_neg (show ¬ (c = 48 ∨ c = 49) from fun w => w.elim e0 e1)]
  by_cases e2 : c = 120
  · subst e2
    rw [if_pos rfl, if_pos g1, if_neg (fun w => w rfl), if_pos rfl]
    have o := one 120 97 12 (by omega) (by omega)
    by_cases q : 97 ≤ zq_h (min len 60) t (a + 1) ∧ zq_h (min len 60) t (a + 1) ≤ 108
    · rw [if_pos (show nI 97 ≤ zq_h (min len 60) t (a + 1) ∧ zq_h (min len 60) t (a + 1) ≤ nI (97 + 12 - 1) from q)] at o
      rw [if_pos q]
      refine zu_bd o (zu_gd g2 (zu_gd (show ¬ (120 : Int32) = 119 by decide) ?_))
      rw [zr_u64]
      rfl
    · rw [if_neg (show ¬ (nI 97 ≤ zq_h (min len 60) t (a + 1) ∧ zq_h (min len 60) t (a + 1) ≤ nI (97 + 12 - 1)) from q)] at o
      rw [if_neg q]
      refine zu_bd o (zu_gd g2 (zu_gd (show ¬ (120 : Int32) = 119 by decide) ?_))
      rw [zr_u64]
  rw [if_neg e2, if_neg e2]
  by_cases e3 : c = 119
  · subst e3
    rw [if_pos rfl, if_pos g1, if_pos (by decide), if_neg (fun w => w rfl), if_pos rfl]
    have o := one 119 48 10 (by omega) (by omega)
    by_cases q : 48 ≤ zq_h (min len 60) t (a + 1) ∧ zq_h (min len 60) t (a + 1) ≤ 57
    · rw [if_pos (show nI 48 ≤ zq_h (min len 60) t (a + 1) ∧ zq_h (min len 60) t (a + 1) ≤ nI (48 + 10 - 1) from q)] at o
      rw [if_pos q]
      refine zu_bd o (zu_gd g2 ?_)
      rw [zr_u64]
      rfl
    · rw [if_neg (show ¬ (nI 48 ≤ zq_h (min len 60) t (a + 1) ∧ zq_h (min len 60) t (a + 1) ≤ nI (48 + 10 - 1)) from q)] at o
      rw [if_neg q]
      refine zu_bd o (zu_gd g2 ?_)
      rw [zr_u64]
  rw [if_neg e3, if_neg e3, zr_fault]
def zm_erP (N : Nat) (J : Nat → Nat → Int64) (F : zz_F) (u f k len : Nat) (B B' : Nat → Nat → Int32) (a u' : Nat) (r : Nat ⊕ List (Int32 × Int32)) : Prop := match r with
  | .inl x => x < 1000 ∧ ∃ k' a', zl_X12_evening N u 13 (nI k) 0 (zr_m B (nI a) (-1)) J F = zl_X12_evening N (u' + 1) 44 k' 0 (zr_m B' (nI a') (nI x)) J F
  | .inr l => zh_enl (B' 64) k l ∧ k + l.length ≤ len ∧ u ≤ u' + f + 2 ∧ zl_X12_evening N u 13 (nI k) 0 (zr_m B (nI a) (-1)) J F = zl_X12_evening N (u' + 1) 44 (nI (k + l.length)) 0 (zr_m B' (nI len) (-1)) J F
theorem zm_er {N : Nat} (hN : 100000 ≤ N) {J : Nat → Nat → Int64} {F : zz_F} {len : Nat} (hl : len ≤ 80) {t : Nat → Int32} (hb : ∀ i, i < min len 60 → ∃ b, b < 256 ∧ t i = (nI b).toInt8.toInt32) : ∀ f a u k (B : Nat → Nat → Int32), zr_bt B F len t → a ≤ min len 60 → len ≤ a + f → k ≤ a → f + 4 < u → ∃ B' u', (∀ x, x ≠ 64 → B' x = B x) ∧ (∀ j, j < 2 * k → B' 64 j = B 64 j) ∧ zm_erP N J F u f k len B B' a u' (zh_er (zq_h (min len 60) t) len f a) := by
  have fin : ∀ f a u k (B : Nat → Nat → Int32), zr_bt B F len t → a = len → k ≤ a → f + 4 < u → ∃ B' u', (∀ x, x ≠ 64 → B' x = B x) ∧ (∀ j, j < 2 * k → B' 64 j = B 64 j) ∧ zm_erP N J F u f k len B B' a u' (.inr []) := by
    intro f a u k B h ha hk hu
    subst ha
    obtain ⟨w, rfl⟩ : ∃ w, u = w + 2 := ⟨u - 2, by omega⟩
    refine ⟨B, w, fun _ _ => rfl, fun _ _ => rfl, fun i x hx => by simp at hx, hk, by omega, ?_⟩
    rw [zo_X12_evening_13]
    unfold zb_X12_evening_13
    rw [zr_fine, if_neg (by decide), if_pos (by
      show B 52 9 ≤ nI a
      rw [h.2.2.1]
      exact nI_le (Nat.le_refl a) (by omega))]
    rfl
  intro f
  induction f with
  | zero =>
    intro a u k B h ha hf hk hu
    exact fin 0 a u k B h (by omega) hk hu
  | succ f ih =>
    intro a u k B h ha hf hk hu
    by_cases al : len ≤ a
    · unfold zh_er
      rw [if_pos al]
      exact fin (f + 1) a u k B h (by omega) hk hu
    obtain ⟨w, rfl⟩ : ∃ w, u = w + 2 := ⟨u - 2, by omega⟩
    have s13 : zl_X12_evening N (w + 2) 13 (nI k) 0 (zr_m B (nI a) (-1)) J F = (zf_X12_readAct N (2 * nI k) (zr_m B (nI a) (-1)) J F).bind fun r2 => zl_X12_evening N (w + 1) 13 (nI k + 1) 0 r2.2.1 r2.2.2.1 r2.2.2.2 := by
      rw [zo_X12_evening_13]
      unfold zb_X12_evening_13
      rw [zr_fine, if_neg (by decide), if_neg (by
        show ¬ B 52 9 ≤ nI a
        rw [h.2.2.1]
        exact nI_ge (by omega) (by omega))]
    rw [zm_ra hN hl hb h (by omega) (by omega)] at s13
    have bad : ∀ (B2 : Nat → Nat → Int32) (a2 x : Nat), x < 1000 → zl_X12_evening N (w + 1) 13 (nI k + 1) 0 (zr_m B2 (nI a2) (nI x)) J F = zl_X12_evening N w 44 (nI k + 1) 0 (zr_m B2 (nI a2) (nI x)) J F := fun B2 a2 x hx => by
      rw [zo_X12_evening_13]
      unfold zb_X12_evening_13
      rw [zr_bad hx, if_pos rfl]
    obtain ⟨w', rfl⟩ : ∃ w', w = w' + 1 := ⟨w - 1, by omega⟩
    unfold zh_er
    rw [if_neg al]
    have wr : ∀ (B1 : Nat → Nat → Int32) (x : Int32 × Int32) (a2 : Nat), zr_bt B1 F len t → a2 ≤ min len 60 → a < a2 → (∀ y, y ≠ 64 → B1 y = B y) → (∀ j, j < 2 * k → B1 64 j = B 64 j) → B1 64 (2 * k) = x.1 → (x.1 = 120 ∨ x.1 = 119 → B1 64 (2 * k + 1) = x.2) → zl_X12_evening N (w' + 1 + 2) 13 (nI k) 0 (zr_m B (nI a) (-1)) J F = zl_X12_evening N (w' + 1 + 1) 13 (nI k + 1) 0 (zr_m B1 (nI a2) (-1)) J F → ∃ B' u', (∀ y, y ≠ 64 → B' y = B y) ∧ (∀ j, j < 2 * k → B' 64 j = B 64 j) ∧ zm_erP N J F (w' + 1 + 2) (f + 1) k len B B' a u' (zh_cons x (zh_er (zq_h (min len 60) t) len f a2)) := by
      intro B1 x a2 hB1 ha2 haa h1 h2 h3 h4 he
      obtain ⟨B', u', g1, g2, g3⟩ := ih a2 (w' + 1 + 1) (k + 1) B1 hB1 ha2 (by omega) (by omega) (by omega)
      refine ⟨B', u', fun y hy => (g1 y hy).trans (h1 y hy), fun j hj => (g2 j (by omega)).trans (h2 j hj), ?_⟩
      generalize hr : zh_er (zq_h (min len 60) t) len f a2 = r at g3
      cases r with
      | inl p =>
        obtain ⟨hp, k', a', hh⟩ := g3
        rw [← nI_1] at hh
        exact ⟨hp, k', a', he.trans hh⟩
      | inr l =>
        obtain ⟨e1, e2, e3, e4⟩ := g3
        rw [← nI_1 (a := k)] at e4
        refine ⟨fun i y hy => ?_, by simp; omega, by omega, he.trans (e4.trans (by
          rw [show k + 1 + l.length = k + (x :: l).length by simp; omega]))⟩
        cases i with
        | zero =>
          have : x = y := by simpa using hy
          subst this
          refine ⟨(g2 _ (by omega)).trans h3, fun hh => (g2 _ (by omega)).trans (h4 hh)⟩
        | succ i =>
          have := e1 i y (by simpa using hy)
          rw [show k + 1 + i = k + (i + 1) by omega] at this
          exact this
    have o1 : ∀ (v : Int32) y, y ≠ 64 → zz_u B 64 (2 * k) v y = B y := fun v y hy => zu_ux hy
    have o2 : ∀ (v : Int32) j, j < 2 * k → zz_u B 64 (2 * k) v 64 j = B 64 j := fun v j hj => zz_un (by omega)
    have p1 : ∀ (v v2 : Int32) y, y ≠ 64 → zz_u (zz_u B 64 (2 * k) v) 64 (2 * k + 1) v2 y = B y := fun v v2 y hy => by rw [zu_ux hy, zu_ux hy]
    have p2 : ∀ (v v2 : Int32) j, j < 2 * k → zz_u (zz_u B 64 (2 * k) v) 64 (2 * k + 1) v2 64 j = B 64 j := fun v v2 j hj => by rw [zz_un (by omega), zz_un (by omega)]
    have p3 : ∀ (v v2 : Int32), zz_u (zz_u B 64 (2 * k) v) 64 (2 * k + 1) v2 64 (2 * k) = v := fun v v2 => by rw [zz_un (by omega), zz_us]
    by_cases e1 : zq_h (min len 60) t a = 48 ∨ zq_h (min len 60) t a = 49
    · rw [if_pos e1] at s13 ⊢
      have am : a < min len 60 := by
        rcases e1 with e | e
        · exact zq_h_lt e (by decide)
        · exact zq_h_lt e (by decide)
      exact wr _ _ (a + 1) (zr_bt_u h _ _) (by omega) (by omega) (o1 _) (o2 _) (zz_us _ _ _ _) (fun w => by
        exfalso
        rcases e1 with e | e <;> rcases w with w | w <;> rw [show zq_h (min len 60) t a = _ from w] at e <;> cases e) s13
    rw [if_neg e1] at s13 ⊢
    by_cases e2 : zq_h (min len 60) t a = 120
    · rw [if_pos e2] at s13 ⊢
      by_cases q : 97 ≤ zq_h (min len 60) t (a + 1) ∧ zq_h (min len 60) t (a + 1) ≤ 108
      · rw [if_pos q] at s13 ⊢
        have am := zh_rl (c := 97) (k := 0) (by omega) q.1
        exact wr _ _ (a + 2) (zr_bt_u (zr_bt_u h _ _) _ _) (by omega) (by omega) (p1 _ _) (p2 _ _) (p3 _ _) (fun _ => zz_us _ _ _ _) s13
      · rw [if_neg q] at s13 ⊢
        exact ⟨_, w', p1 120 0, p2 120 0, by omega, _, _, s13.trans (bad _ _ _ (by omega))⟩
    rw [if_neg e2] at s13 ⊢
    by_cases e3 : zq_h (min len 60) t a = 119
    · rw [if_pos e3] at s13 ⊢
      by_cases q : 48 ≤ zq_h (min len 60) t (a + 1) ∧ zq_h (min len 60) t (a + 1) ≤ 57
      · rw [if_pos q] at s13 ⊢
        have am := zh_rl (c := 48) (k := 0) (by omega) q.1
        exact wr _ _ (a + 2) (zr_bt_u (zr_bt_u h _ _) _ _) (by omega) (by omega) (p1 _ _) (p2 _ _) (p3 _ _) (fun _ => zz_us _ _ _ _) s13
      · rw [if_neg q] at s13 ⊢
        exact ⟨_, w', p1 119 0, p2 119 0, by omega, _, _, s13.trans (bad _ _ _ (by omega))⟩
    rw [if_neg e3] at s13 ⊢
    exact ⟨B, w', fun _ _ => rfl, fun _ _ => rfl, by omega, _, _, s13.trans (bad _ _ _ (by omega))⟩
/-- the reference does them -/
def zr_f4 (I I' : Nat → Nat → Int32) : Prop := (∀ x, x ≠ 60 → x ≠ 52 → x ≠ 53 → I' x = I x) ∧ ∀ i, i ≠ 9 → i ≠ 10 → i ≠ 11 → i ≠ 12 → i ≠ 17 → I' 52 i = I 52 i
theorem zm_al {N n : Nat} (hN : 100000 ≤ N) (hn : n ≤ 12) {J : Nat → Nat → Int64} {m : Nat} {t f : Nat → Int32} {k : Nat} (hk : k ≤ 80) : ∀ (l : List (Int32 × Int32)) d u (I : Nat → Nat → Int32) (F : zz_F), d + l.length = k → l.length + 3 < u → (∀ x, x ∈ l → zh_oA x) → zh_enl (I 64) d l → zr_ru m t I F → I 54 = f → I 52 1 = nI n → (I 53 13 = -1 ∨ ∃ l, l < n ∧ I 53 13 = nI l) → ∃ I' F' u', zr_f4 I I' ∧ I' 53 = (zh_al n m t f l (I 53)).2.1 ∧ zF_re F F' ∧ zl_X12_evening N u 72 (nI k) (nI d) I J F = zl_X12_evening N (u' + 2) 108 (nI k) (nI (d + (zh_al n m t f l (I 53)).1)) I' J F' ∧ (d + (zh_al n m t f l (I 53)).1 < k ↔ (zh_al n m t f l (I 53)).2.2 = true) := by
  intro l
  induction l with
  | nil =>
    intro d u I F hd hu ho he h h54 h1 hl
    obtain ⟨w, rfl⟩ : ∃ w, u = w + 3 := ⟨u - 3, by simp at hu; omega⟩
    refine ⟨I, F, w, ⟨fun _ _ _ _ => rfl, fun _ _ _ _ _ _ => rfl⟩, rfl, zF_refl F, ?_, by simp [zh_al] at hd ⊢; omega⟩
    rw [zo_X12_evening_72]
    unfold zb_X12_evening_72
    have : d = k := by simpa using hd
    subst this
    rw [if_pos (nI_le (Nat.le_refl d) (by omega))]
    rfl
  | cons x l ih =>
    intro d u I F hd hu ho he h h54 h1 hl
    simp only [List.length_cons] at hd hu
    obtain ⟨w, rfl⟩ : ∃ w, u = w + 3 := ⟨u - 3, by omega⟩
    have hx := ho x (by simp)
    have e0 := he 0 x (by simp)
    rw [Nat.add_zero] at e0
    rw [zo_X12_evening_72]
    unfold zb_X12_evening_72
    rw [if_neg (nI_ge (show d < k by omega) (by omega)), show (2 : Int32) * nI d = nI (2 * d) from pk_mul 2 d, nI_1, if_pos (nI_in (show 2 * d < 160 by omega) (by omega)), if_pos (nI_in (show 2 * d + 1 < 160 by omega) (by omega)), nI_clamp (by omega), nI_clamp (by omega), e0.1]
    subst h54
    rcases zm_act hN hn (J := J) h h1 hl hx (b := I 64 (2 * d + 1)) e0.2 with ⟨q, v⟩ | ⟨a', I', F', q, v, fr, fF, hl'⟩
    · rw [zh_al_n q, v]
      refine ⟨I, F, w, ⟨fun _ _ _ _ => rfl, fun _ _ _ _ _ _ => rfl⟩, rfl, zF_refl F, rfl, by simp; omega⟩
    · rw [zh_al_s q, v, Option.bind_some, if_neg (show ¬ (1 : Int32) = 0 by decide), nI_1]
      have R53 : zh_r I' 53 a' 53 = a' := funext fun j => zh_rr _ _ _ j
      have Ro : ∀ y, y ≠ 60 → y ≠ 52 → y ≠ 53 → zh_r I' 53 a' y = I y := fun y y1 y2 y3 => by rw [zu_rx y3, fr.1 y y1 y2]
      obtain ⟨I2, F2, u2, g1, g2, g3, g4, g5⟩ := ih (d + 1) (w + 2) (zh_r I' 53 a') F' (by omega) (by omega) (fun y hy => ho y (by simp [hy])) (fun i y hy => by
        rw [Ro 64 (by omega) (by omega) (by omega)]
        have := he (i + 1) y (by simpa using hy)
        rw [show d + (i + 1) = d + 1 + i by omega] at this
        exact this) (by
        have := zr_ru_c h fr fF
        exact ⟨this.1, by rw [zu_rx (by omega)]; exact this.2.1, by rw [zu_rx (by omega)]; exact this.2.2.1, this.2.2.2⟩) (Ro 54 (by omega) (by omega) (by omega)) (by rw [zu_rx (by omega), fr.2 1 (by omega) (by omega) (by omega) (by omega) (by omega)]; exact h1) (by rw [R53]; exact hl')
      rw [R53] at g2 g4 g5
      refine ⟨I2, F2, u2, ⟨fun y y1 y2 y3 => (g1.1 y y1 y2 y3).trans (Ro y y1 y2 y3), fun i i1 i2 i3 i4 i5 => (g1.2 i i1 i2 i3 i4 i5).trans (by rw [zu_rx (by omega), fr.2 i i1 i2 i3 i4 i5])⟩, g2, zF_trans fF g3, ?_, ?_⟩
      · rw [g4, show d + 1 + (zh_al n m t (I 54) l a').1 = d + ((zh_al n m t (I 54) l a').1 + 1) by omega]
      · rw [← g5]
        constructor <;> intro w <;> omega
theorem zh_er_o {c : Nat → Int32} {len : Nat} : ∀ f a l, zh_er c len f a = .inr l → ∀ x, x ∈ l → zh_oA x
  | 0, a, l, h, x, hx => by
    have : l = [] := (Sum.inr.inj h).symm
    subst this
    cases hx
  | f + 1, a, l, h, x, hx => by
    by_cases q : len ≤ a
    · unfold zh_er at h
      rw [if_pos q] at h
      have : l = [] := (Sum.inr.inj h).symm
      subst this
      cases hx
    · obtain ⟨y, l', rfl, _, yo, cs⟩ := zh_er_i h q
      rcases List.mem_cons.mp hx with e | e
      · subst e; exact yo
      · rcases cs with ⟨_, c1⟩ | ⟨_, _, _, c1⟩ | ⟨_, _, _, c1⟩
        · exact zh_er_o f _ l' c1 x e
        · exact zh_er_o f _ l' c1 x e
        · exact zh_er_o f _ l' c1 x e
