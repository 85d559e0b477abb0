/-! LINES, BOTH -/
theorem zn_d7 {m : Nat} {t : Nat → Int32} {p mi pe pr to ne : Int32} (hp : ∃ v, v < 2 ∧ p = nI v) (hmi : ∃ v, 1 ≤ v ∧ v ≤ 9 ∧ mi = nI v) (hpe : ∃ v, v < 64 ∧ pe = nI v) (hpr : ∃ v, v < 16 ∧ pr = nI v) (hto : to = -1 ∨ ∃ v, v < 8 ∧ to = nI v) (hne : ne = -1 ∨ ∃ v, v < 8 ∧ ne = nI v) {a b : Nat} {fl : Nat → Int32} (h : zn_p7 (zq_h m t) p mi pe pr to ne a = .inr (fl, b)) : zi_fd fl ∧ b ≤ m := by
  unfold zn_p7 at h
  by_cases c : zq_h m t a = 61
  · rw [if_pos c] at h
    by_cases d : 48 ≤ zq_h m t (a + 1) ∧ zq_h m t (a + 1) ≤ 57
    · rw [if_pos d] at h
      obtain ⟨rfl, rfl⟩ := Prod.mk.inj (Sum.inr.inj h)
      have al := zh_rl (c := 48) (k := 0) (by omega) d.1
      obtain ⟨j, hj, ej⟩ := zh_rg (c := 48) (k := 9) (by omega) d.1 d.2
      exact ⟨⟨hp, hmi, hpe, hpr, hto, hne, j, by omega, ej⟩, by omega⟩
    · rw [if_neg d] at h; cases h
  · rw [if_neg c] at h; cases h
theorem zn_8 {c : Int32} (d : 97 ≤ c ∧ c ≤ 104) : c - 97 = -1 ∨ ∃ v, v < 8 ∧ c - 97 = nI v := by
  obtain ⟨j, hj, ej⟩ := zh_rg (c := 97) (k := 7) (by omega) d.1 d.2
  exact .inr ⟨j, by omega, ej⟩
theorem zn_d0 {m : Nat} (hm : m ≤ 90) {t : Nat → Int32} {a b : Nat} {fl : Nat → Int32} (ha : a ≤ m) (h : zn_p0 (zq_h m t) a = .inr (fl, b)) : zi_fd fl ∧ b ≤ m := by
  unfold zn_p0 at h
  by_cases c : 48 ≤ zq_h m t a ∧ zq_h m t a ≤ 49
  · rw [if_pos c] at h
    have al := zh_rl (c := 48) (k := 0) (by omega) c.1
    obtain ⟨j, hj, ej⟩ := zh_rg (c := 48) (k := 1) (by omega) c.1 c.2
    by_cases d : 49 ≤ zq_h m t (a + 1) ∧ zq_h m t (a + 1) ≤ 57
    · rw [if_pos d] at h
      have al2 := zh_rl (c := 49) (k := 0) (by omega) d.1
      have hp : ∃ v, v < 2 ∧ zq_h m t a - 48 = nI v := ⟨j, by omega, ej⟩
      have hmi := (zn_mi d).2
      unfold zn_p2 at h
      generalize hq : zn_ri (zq_h m t) 65 70 99 (a + 2) 0 = q at h
      cases q with
      | inl x => cases h
      | inr pr =>
        obtain ⟨pe, a2⟩ := pr
        obtain ⟨e1, e2, e3, _⟩ := zn_ri_ok (lo := 65) (k := 5) (by omega) (by omega) 64 (fun v hv j hj => (zn_or v hv j (by omega)).2) 99 (a + 2) 0 pe a2 (by omega) (by omega) (by omega) hq
        have h : zn_p3 (zq_h m t) (zq_h m t a - 48) (zq_h m t (a + 1) - 48) (nI pe) a2 = .inr (fl, b) := h
        unfold zn_p3 at h
        generalize hq2 : zn_ri (zq_h m t) 49 52 99 a2 0 = q2 at h
        cases q2 with
        | inl x => cases h
        | inr pr2 =>
          obtain ⟨pr, a3⟩ := pr2
          obtain ⟨g1, g2, g3, _⟩ := zn_ri_ok (lo := 49) (k := 3) (by omega) (by omega) 16 (fun v hv j hj => zn_or4 v hv j (by omega)) 99 a2 0 pr a3 (by omega) (by omega) (by omega) hq2
          have h : zn_p4 (zq_h m t) (zq_h m t a - 48) (zq_h m t (a + 1) - 48) (nI pe) (nI pr) a3 = .inr (fl, b) := h
          have d5 : ∀ to a4, (to = -1 ∨ ∃ v, v < 8 ∧ to = nI v) → zn_p5 (zq_h m t) (zq_h m t a - 48) (zq_h m t (a + 1) - 48) (nI pe) (nI pr) to a4 = .inr (fl, b) → zi_fd fl ∧ b ≤ m := fun to a4 hto h => by
            unfold zn_p5 at h
            by_cases c5 : zq_h m t a4 = 60
            · rw [if_pos c5] at h
              by_cases d5 : 97 ≤ zq_h m t (a4 + 1) ∧ zq_h m t (a4 + 1) ≤ 104
              · rw [if_pos d5] at h
                exact zn_d7 hp hmi ⟨pe, e1, rfl⟩ ⟨pr, g1, rfl⟩ hto (zn_8 d5) h
              · rw [if_neg d5] at h; cases h
            · rw [if_neg c5] at h
              exact zn_d7 hp hmi ⟨pe, e1, rfl⟩ ⟨pr, g1, rfl⟩ hto (.inl rfl) h
          unfold zn_p4 at h
          by_cases c4 : zq_h m t a3 = 62
          · rw [if_pos c4] at h
            by_cases d4 : 97 ≤ zq_h m t (a3 + 1) ∧ zq_h m t (a3 + 1) ≤ 104
            · rw [if_pos d4] at h
              exact d5 _ _ (zn_8 d4) h
            · rw [if_neg d4] at h; cases h
          · rw [if_neg c4] at h
            exact d5 _ _ (.inl rfl) h
    · rw [if_neg d] at h; cases h
  · rw [if_neg c] at h; cases h
def zn_cn (fl : Nat → Int32) (r : Nat ⊕ List (Nat → Int32)) : Nat ⊕ List (Nat → Int32) := match r with
  | .inl x => .inl x
  | .inr l => .inr (fl :: l)
def zn_ls (H : Nat → Int32) (n len : Nat) : Nat → Nat → Nat → Nat ⊕ List (Nat → Int32)
  | 0, _, a => .inl a
  | f + 1, k, a => if n + k = 12 then .inl a else match zn_p0 H a with
    | .inl x => .inl x
    | .inr (fl, b) => if H b = 59 then zn_cn fl (zn_ls H n len f (k + 1) (b + 1)) else if b < len then .inl b else .inr [fl]
def zn_en (g : Nat → Int32) (k : Nat) (l : List (Nat → Int32)) : Prop := ∀ i fl, l[i]? = some fl → ∀ w, w < 7 → g (7 * (k + i) + w) = fl w
theorem zn_en_c {g : Nat → Int32} {k : Nat} {fl : Nat → Int32} {l : List (Nat → Int32)} (h0 : ∀ w, w < 7 → g (7 * k + w) = fl w) (h : zn_en g (k + 1) l) : zn_en g k (fl :: l) := fun i f hi w hw => by
  cases i with
  | zero =>
    have : fl = f := by simpa using hi
    subst this
    exact h0 w hw
  | succ i =>
    have := h i f (by simpa using hi) w hw
    rw [show k + 1 + i = k + (i + 1) by omega] at this
    exact this
def zn_lcP (n k : Nat) (I X : Nat → Nat → Int32) (J : Nat → Nat → Int64) (o : Option (Int32 × (Nat → Nat → Int32) × (Nat → Nat → Int64))) (r : Nat ⊕ List (Nat → Int32)) : Prop := match r with
  | .inl x => ∃ X', zn_F n I X' ∧ o = some (nI x, X', J)
  | .inr l => ∃ X', zn_F n I X' ∧ (∀ j, j < 7 * (n + k) → X' 6 j = X 6 j) ∧ zn_en (X' 6) (n + k) l ∧ X' 36 3 = nI (k + l.length) ∧ o = some (-1, X', J)
theorem zn_lc {N C len m : Nat} (hN : 100000 ≤ N) (hC : 1000 ≤ C) (hl : len ≤ 80) (hm : m = min len 76) {n : Nat} {I : Nat → Nat → Int32} {J : Nat → Nat → Int64} {t : Nat → Int32} (ht : ∀ k, k < 80 → I 3 k = t k &&& 255) : ∀ f k a (X : Nat → Nat → Int32), n + k + f = 13 → n + k ≤ 12 → a ≤ m → zn_F n I X → X 36 1 = nI 0 → X 36 2 = nI (n + k) → X 36 3 = nI k → zn_lcP n k I X J (zn_W N C len m a X J) (zn_ls (zq_h m t) n len f k a) := by
  intro f
  induction f with
  | zero =>
    intro k a X hk hk2 am hF h1 h2 h3
    omega
  | succ f ih =>
    intro k a X hk hk2 am hF h1 h2 h3
    unfold zn_ls
    by_cases k12 : n + k = 12
    · rw [if_pos k12]
      have t0 := zn_T0 hN (J := J) h1 h2 (by omega) (zq_h m t a)
      rw [if_neg (fun w => by omega)] at t0
      exact ⟨X, hF, zn_no hC hl hm ht hF am (by rw [h1]; decide) (fun _ => t0)⟩
    · rw [if_neg k12]
      have q := zn_c0 hN hC hl hm (Nat.le_add_right n k) (show n + k < 12 by omega) (J := J) ht hF h1 h2 h3 am
      generalize hr : zn_p0 (zq_h m t) a = r at q
      cases r with
      | inl x => exact q
      | inr pr =>
        obtain ⟨fl, b⟩ := pr
        obtain ⟨bm, X1, F1, l1, f1, s1, s2, s3, e1⟩ := q
        dsimp only
        rw [e1]
        have t9 := zn_T9 hN (J := J) s1 (zq_h m t b)
        by_cases c : zq_h m t b = 59
        · rw [if_pos c] at t9 ⊢
          have bl := zq_hlt (k := 59) (by omega) c
          rw [zn_go hC hl hm ht F1 bl t9]
          have r2 := ih (k + 1) (b + 1) (zz_u X1 36 1 0) (by omega) (by omega) (by omega) (zn_F_s (L := 0) F1 1 0) (zz_us _ _ _ _) (by rw [zz_un (by omega)]; exact s2) (by rw [zz_un (by omega)]; exact s3)
          generalize zn_ls (zq_h m t) n len f (k + 1) (b + 1) = r3 at r2
          cases r3 with
          | inl x => exact r2
          | inr l =>
            obtain ⟨X2, g1, g2, g3, g4, g5⟩ := r2
            refine ⟨X2, g1, fun j hj => ?_, zn_en_c (fun w hw => ?_) g3, ?_, g5⟩
            · rw [g2 j (by omega), zu_ux (by omega), l1 j hj]
            · rw [g2 _ (by omega), zu_ux (by omega), f1 w hw]
            · rw [g4]; simp only [List.length_cons]; rw [show k + 1 + l.length = k + (l.length + 1) by omega]
        · rw [if_neg c] at t9 ⊢
          by_cases bl : b < len
          · rw [if_pos bl]
            refine ⟨X1, F1, ?_⟩
            unfold zn_W
            rw [show C - b = C - (b + 1) + 1 by omega, zo_X7_faultIn_X3__3_19]
            unfold zb_X7_faultIn_X3__3_19
            by_cases q : b < m
            · have c3 : X1 3 b = zq_h m t b := by
                rw [F1.1 3 (by omega) (by omega), ht b (by omega)]
                exact (if_pos q).symm
              rw [if_neg (nI_ge q (by omega)), if_pos (nI_in (show b < 80 by omega) (by omega)), nI_clamp (by omega), c3, t9, Option.bind_some, if_neg (fun w => w rfl)]
            · rw [if_pos (nI_le (show m ≤ b by omega) (by omega)), if_neg (show ¬ nI len ≤ 76 from nI_ge (a := 76) (by omega) (by omega)), show b = 76 by omega]
              rfl
          · rw [if_neg bl]
            refine ⟨X1, F1, l1, zn_en_c f1 (fun i f hi => by simp at hi), s3, ?_⟩
            unfold zn_W
            rw [show C - b = C - (b + 1) + 1 by omega, zo_X7_faultIn_X3__3_19]
            unfold zb_X7_faultIn_X3__3_19
            rw [if_pos (nI_le (show m ≤ b by omega) (by omega)), if_pos (show nI len ≤ 76 from nI_le (b := 76) (by omega) (by omega)), if_neg (show ¬ zv_X3_mayEnd X1 = 0 by
              unfold zv_X3_mayEnd
              rw [s1]
              decide)]
def zn_lrP (N k len : Nat) (B : Nat → Nat → Int32) (J : Nat → Nat → Int64) (F : zz_F) (o : Option (Int32 × (Nat → Nat → Int32) × (Nat → Nat → Int64) × zz_F)) (r : Nat ⊕ List (Nat → Int32)) : Prop := match r with
  | .inl x => x < 900 ∧ ∃ B' a, (∀ y, y ≠ 57 → B' y = B y) ∧ o = some (-1 - nI x, zr_m B' (nI a) (nI x), J, F)
  | .inr l => ∃ B' u, 900 < u ∧ (∀ y, y ≠ 57 → B' y = B y) ∧ (∀ j, j < 7 * k → B' 57 j = B 57 j) ∧ zn_en (B' 57) k l ∧ o = zl_X12_scenes N u 94 (nI (k + l.length)) 0 0 (zr_m B' (nI len) (-1)) J F
theorem zn_78 {N u len : Nat} {K : Int32} {B : Nat → Nat → Int32} {J : Nat → Nat → Int64} {F : zz_F} (hl : len ≤ 80) (b9 : B 52 9 = nI len) {b : Nat} (hb : b ≤ len) : zl_X12_scenes N (u + 1) 78 K 0 0 (zr_m B (nI b) (-1)) J F = if b < len then some (-1 - nI b, zr_m B (nI b) (nI b), J, F) else zl_X12_scenes N u 94 K 0 0 (zr_m B (nI b) (-1)) J F := by
  rw [zo_X12_scenes_78]
  unfold zb_X12_scenes_78
  have c9 : zr_m B (nI b) (-1) 52 9 = nI len := b9
  by_cases q : b < len
  · have wr : zv_X12_wasRight (zr_m B (nI b) (-1)) = 0 := by
      unfold zv_X12_wasRight
      rw [c9, zr_11, if_neg (nI_ge q (by omega)), zr_fault, zr_bad (by omega)]
    have ww : zw_X12_wasRight (zr_m B (nI b) (-1)) = zr_m B (nI b) (nI b) := by
      unfold zw_X12_wasRight
      rw [c9, zr_11, if_neg (nI_ge q (by omega)), zr_fault]
    rw [wr, ww, if_neg (fun w => w rfl), if_pos q, zr_12]
  · have wr : zv_X12_wasRight (zr_m B (nI b) (-1)) = 1 := by
      unfold zv_X12_wasRight
      rw [c9, zr_11, if_pos (nI_le (by omega) (by omega)), zr_fine]
    have ww : zw_X12_wasRight (zr_m B (nI b) (-1)) = zr_m B (nI b) (-1) := by
      unfold zw_X12_wasRight
      rw [c9, zr_11, if_pos (nI_le (by omega) (by omega))]
    rw [wr, ww, if_pos (show ¬ (1 : Int32) = 0 by decide), if_neg q]
theorem zn_78b {N u : Nat} {K : Int32} {B : Nat → Nat → Int32} {J : Nat → Nat → Int64} {F : zz_F} {a : Int32} {x : Nat} (hx : x < 1000) : zl_X12_scenes N (u + 1) 78 K 0 0 (zr_m B a (nI x)) J F = some (-1 - nI x, zr_m B a (nI x), J, F) := by
  rw [zo_X12_scenes_78]
  unfold zb_X12_scenes_78
  have fz : zw_X12_fault (zr_m B a (nI x)) (zr_m B a (nI x) 52 11) = zr_m B a (nI x) := by
    unfold zw_X12_fault
    rw [zr_bad hx, if_pos rfl]
  have wr : zv_X12_wasRight (zr_m B a (nI x)) = 0 := by
    unfold zv_X12_wasRight
    rw [fz, ite_self, zr_bad hx]
  have ww : zw_X12_wasRight (zr_m B a (nI x)) = zr_m B a (nI x) := by
    unfold zw_X12_wasRight
    rw [fz, ite_self]
  rw [wr, ww, if_neg (fun w => w rfl), zr_12]
theorem zn_lr {N : Nat} (hN : 100000 ≤ N) {J : Nat → Nat → Int64} {F : zz_F} {len : Nat} (hl : len ≤ 80) {t : Nat → Int32} (hb : ∀ i, i < min len 76 → ∃ b, b < 256 ∧ t i = (nI b).toInt8.toInt32) {n : Nat} : ∀ f k a u (B : Nat → Nat → Int32), n + k + f = 13 → n + k ≤ 12 → a ≤ min len 76 → 5 * f + 1000 < u → zn_B B F len t → B 52 1 = nI n → zn_lrP N k len B J F (zl_X12_scenes N u 24 (nI k) 1 0 (zr_m B (nI a) (-1)) J F) (zn_ls (zq_h (min len 76) t) n len f k a) := by
  intro f
  induction f with
  | zero => intro k a u B hk hk2 am hu h h1; omega
  | succ f ih =>
    intro k a u B hk hk2 am hu h h1
    obtain ⟨w, rfl⟩ : ∃ w, u = w + 4 := ⟨u - 4, by omega⟩
    unfold zn_ls
    have c1 : zr_m B (nI a) (-1) 52 1 = nI n := h1
    rw [zo_X12_scenes_24]
    unfold zb_X12_scenes_24
    rw [if_neg (show ¬ (1 : Int32) = 0 by decide), zr_fine, if_neg (show ¬ (1 : Int32) = 0 by decide), c1, nI_add]
    have r24 : ∀ (v : Nat) (K : Int32) (Y : Nat → Nat → Int32), zl_X12_scenes N (v + 1) 24 K 0 0 Y J F = zl_X12_scenes N v 78 K 0 0 Y J F := fun v K Y => by
      rw [zo_X12_scenes_24]
      unfold zb_X12_scenes_24
      rw [if_pos rfl]
    -- behind a fault
    have bad : ∀ (B2 : Nat → Nat → Int32) (a2 : Int32) (x : Nat), x < 1000 → zl_X12_scenes N (w + 3) 65 (nI k) 0 0 (zr_m B2 a2 (nI x)) J F = some (-1 - nI x, zr_m B2 a2 (nI x), J, F) := fun B2 a2 x hx => by
      rw [zo_X12_scenes_65]
      unfold zb_X12_scenes_65
      rw [zr_passB hN hx, Option.bind_some]
      dsimp only
      rw [r24, zn_78b hx]
    by_cases k12 : n + k = 12
    · rw [if_pos k12, k12, if_neg (fun w => w rfl), zr_11, zr_fault]
      exact ⟨by omega, B, a, fun _ _ => rfl, bad B (nI a) a (by omega)⟩
    · rw [if_neg k12, if_pos (show ¬ nI (n + k) = 12 from fun q => k12 ((nI_eq (b := 12) (by omega) (by omega)).mp q)), show (7 : Int32) * nI k = nI (7 * k) from pk_mul 7 k]
      have q := zn_ok0 hN (show k < 12 by omega) (J := J) hl hb h am
      generalize hr : zn_p0 (zq_h (min len 76) t) a = r at q
      cases r with
      | inl x =>
        obtain ⟨hx, B1, a1, f1, e1⟩ := q
        refine ⟨hx, B1, a1, f1.1, ?_⟩
        rw [e1, Option.bind_some]
        exact bad B1 (nI a1) x (by omega)
      | inr pr =>
        obtain ⟨fl, b⟩ := pr
        obtain ⟨B1, f1, g1, e1⟩ := q
        obtain ⟨_, bm⟩ := zn_d0 (by omega) am hr
        have h1B : zn_B B1 F len t := ⟨h.1, by rw [f1.1 55 (by omega)]; exact h.2.1, by rw [f1.1 52 (by omega)]; exact h.2.2.1, by rw [f1.1 52 (by omega)]; exact h.2.2.2⟩
        have ps := zr_pass hN (J := J) (zr_ok_u h1B hl) (show b < 1000 by omega) 59
        rw [e1, Option.bind_some]
        dsimp only
        rw [zo_X12_scenes_65]
        unfold zb_X12_scenes_65
        by_cases c : zq_h (min len 76) t b = 59
        · rw [if_pos c] at ps ⊢
          have bl := zq_hlt (k := 59) (by omega) c
          rw [ps, Option.bind_some]
          dsimp only
          rw [nI_1]
          have r2 := ih (k + 1) (b + 1) (w + 2) B1 (by omega) (by omega) (by omega) (by omega) h1B (by rw [f1.1 52 (by omega)]; exact h1)
          generalize zn_ls (zq_h (min len 76) t) n len f (k + 1) (b + 1) = r3 at r2
          cases r3 with
          | inl x =>
            obtain ⟨hx, B2, a2, g2, e2⟩ := r2
            exact ⟨hx, B2, a2, fun y hy => (g2 y hy).trans (f1.1 y hy), e2⟩
          | inr l =>
            obtain ⟨B2, u2, hu2, g2, g3, g4, g5⟩ := r2
            refine ⟨B2, u2, hu2, fun y hy => (g2 y hy).trans (f1.1 y hy), fun j hj => ?_, zn_en_c (fun w hw => ?_) g4, ?_⟩
            · rw [g3 j (by omega), f1.2 j hj]
            · rw [g3 _ (by omega), g1 w hw]
            · rw [g5, show k + 1 + l.length = k + (fl :: l).length by simp only [List.length_cons]; omega]
        · rw [if_neg c] at ps ⊢
          rw [ps, Option.bind_some]
          dsimp only
          rw [r24, zn_78 hl h1B.2.2.1 (by omega), nI_1]
          by_cases bl : b < len
          · rw [if_pos bl, if_pos bl]
            exact ⟨by omega, B1, b, f1.1, rfl⟩
          · rw [if_neg bl, if_neg bl]
            refine ⟨B1, w, by omega, f1.1, f1.2, zn_en_c g1 (fun i f hi => by simp at hi), ?_⟩
            rw [show b = len by omega]
            rfl
