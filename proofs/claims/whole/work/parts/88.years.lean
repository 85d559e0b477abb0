/-! YEARS -/
theorem zh_kN (x : Int32) : ∃ c, c < 4 ∧ ((x.toUInt32 >>> ((16 : Int32).toUInt32 &&& Int32.toUInt32 31)).toInt32) - ((x.toUInt32 >>> ((16 : Int32).toUInt32 &&& Int32.toUInt32 31)).toInt32) / 4 * 4 = nI c := by
  obtain ⟨m, hm, e⟩ : ∃ m, m < 2 ^ 32 ∧ x = nI m := ⟨x.toBitVec.toNat, x.toBitVec.isLt, Int32.toBitVec_inj.mp (BitVec.eq_of_toNat_eq (pk_tn x.toBitVec.isLt).symm)⟩
  subst e
  rw [pk_ushrN hm 16 16 (by decide)]
  exact ⟨_, Nat.mod_lt _ (by omega), pk_rem (d := 4) (by omega) (by omega) (by omega)⟩
def zh_sd (x : Int32) : Int32 := x * 1103515245 + 12345
def zh_k (x : Int32) : Int32 := ((x.toUInt32 >>> ((16 : Int32).toUInt32 &&& Int32.toUInt32 31)).toInt32) - ((x.toUInt32 >>> ((16 : Int32).toUInt32 &&& Int32.toUInt32 31)).toInt32) / 4 * 4
def zh_yp (a f : Nat → Int32) (k : Int32) : Nat := if k = 2 then (if a 13 = -1 then 0 else 1 - (f (7 * (a 13).toNatClampNeg)).toNatClampNeg) else k.toNatClampNeg
def zh_y1 (n m : Nat) (t f a : Nat → Int32) (k : Int32) : Nat → Int32 := if k = 3 then zh_up a 12 (a 12 + 1) else (if zh_nx n a f (zh_yp a f k) = -1 then a else zh_pl a f (zh_nx n a f (zh_yp a f k)).toNatClampNeg (zh_yp a f k) (zh_ch m t a f (zh_nx n a f (zh_yp a f k)).toNatClampNeg))
def zh_y2 (n : Nat) (f a : Nat → Int32) (k q : Int32) : Int32 := if k = 3 then q else (if zh_nx n a f (zh_yp a f k) = -1 then q else q + 1)
def zh_yr (g h : Int32 → Int32) (n m : Nat) (t f : Nat → Int32) : Nat → Int32 → Int32 → (Nat → Int32) → Int32 × (Nat → Int32)
  | 0, _, q, a => (q, a)
  | j + 1, s, q, a => zh_yr g h n m t f j (g s) (zh_y2 n f a (h (g s)) q) (zh_y1 n m t f a (h (g s)))
theorem zh_yr_s (g h : Int32 → Int32) (n m : Nat) (t f : Nat → Int32) (j : Nat) (s q : Int32) (a : Nat → Int32) : zh_yr g h n m t f (j + 1) s q a = zh_yr g h n m t f j (g s) (zh_y2 n f a (h (g s)) q) (zh_y1 n m t f a (h (g s))) := rfl
theorem zh_sd_e (s : Int32) : s * 1103515245 + 12345 = zh_sd s := by rw [zh_sd]
/-- a minute's rest, on a row -/
theorem zi_row_w {n : Nat} (hn : n ≤ 12) {a b b' : Nat → Int32} (h : zi_row n a b) (h0 : b' 0 = b 0 + 1) (h1 : ∀ i, i ≠ 0 → b' i = b i) : zi_row n (zh_up a 12 (a 12 + 1)) b' := by
  have o : ∀ i, i ≠ 12 → zh_up a 12 (a 12 + 1) i = a i := fun i hi => if_neg hi
  have st : ∀ w : Int32, zu_set (fun i => decide (zh_up a 12 (a 12 + 1) i = w)) n = zu_set (fun i => decide (a i = w)) n := fun w => zu_set_cong fun i hi => by rw [o i (by omega)]
  obtain ⟨a0, a1, a2, a3, a4, a5, a6, a7, a8, a9, a10⟩ := h
  refine ⟨?_, ?_, ?_, ?_, ?_, ?_, ?_, ?_, ?_, ?_, ?_⟩
  · rw [h0, a0]; exact (if_pos rfl).symm
  · rw [h1 1 (by omega), a1, o 13 (by omega)]
  · rw [h1 2 (by omega), a2, st]
  · rw [h1 3 (by omega), a3, st]
  · rw [h1 4 (by omega), a4, st]
  · rw [h1 5 (by omega), a5, o 14 (by omega)]
  · rw [h1 6 (by omega), a6, o 15 (by omega)]
  · rw [h1 7 (by omega), a7, o 16 (by omega)]
  · rw [h1 8 (by omega), a8, o 17 (by omega)]
  · intro s hs
    rw [o s (by omega)]
    exact a9 s hs
  · rw [o 13 (by omega)]
    exact a10
theorem zs_y1 {N n : Nat} (hN : 100000 ≤ N) {I : Nat → Nat → Int32} {J : Nat → Nat → Int64} {ro : Nat → Int32} (hsc : zi_sc n I) (hr : zi_row n ro (I 8)) {m : Nat} (bt : ∀ a b, a < n → b < n → zv_X1_between I (nI a) (nI b) = zt_c m I a b) {p : Nat} (hp : p ≤ 1) (K0 K1 : (Nat → Nat → Int32) → Option (Int32 × (Nat → Nat → Int32) × (Nat → Nat → Int64))) :
    (zh_nx n ro (I 54) p = -1 ∧ ((zf_X11_performNext N (nI p) I J).bind fun r => if r.1 = 0 then K0 r.2.1 else K1 r.2.1) = K0 I) ∨ ∃ s I', s < n ∧ zh_nx n ro (I 54) p = nI s ∧ ((zf_X11_performNext N (nI p) I J).bind fun r => if r.1 = 0 then K0 r.2.1 else K1 r.2.1) = K1 I' ∧ (∀ x, x ≠ 8 → I' x = I x) ∧ zi_row n (zh_pl ro (I 54) s p (zh_ch m (I 58) ro (I 54) s)) (I' 8) := by
  have hn := hsc.1
  have nx := zs_nextG hN (J := J) hsc hr hp
  rcases zh_nx_ok n ro (I 54) p with e | ⟨s, hs, e, s0, sp⟩
  · left
    refine ⟨e, ?_⟩
    rw [e] at nx
    have a : zf_X11_performNext N (nI p) I J = some (0, I, J) := by
      obtain ⟨M, rfl⟩ := zu_one N hN
      rw [zo_X11_performNext]
      exact zu_bd nx (zu_gn (fun w => w rfl) rfl)
    exact zu_bd a (zu_gd rfl rfl)
  · right
    have ne : ¬ nI s = -1 := fun q => nI_pos (n := s) (by omega) (by rw [q]; decide)
    have chv := zs_chhG hn hr bt hs
    rw [e] at nx
    obtain ⟨pr, _, pf, _⟩ := zs_perfG hsc hr hs hp sp s0 (zh_ch m (I 58) ro (I 54) s)
    have a : zf_X11_performNext N (nI p) I J = some (1, zz_perfm I (nI s) (zh_ch m (I 58) ro (I 54) s), J) := by
      obtain ⟨M, rfl⟩ := zu_one N hN
      rw [zo_X11_performNext]
      unfold zb_X11_performNext_0
      refine zu_bd nx (zu_gd ne (zu_gd (fun g1 g2 _ _ => ?_) ?_))
      · dsimp only at g1 g2 ⊢
        rw [hr.2.1] at g1 g2 ⊢
        rcases hr.2.2.2.2.2.2.2.2.2.2 with w | ⟨l, hl, w⟩
        · rw [w] at g1; exact absurd (by decide) g1
        · rw [w, show nI l * 12 = nI (l * 12) from pk_mul l 12, nI_add]
          exact nI_in (by omega) (by omega)
      · dsimp only
        rw [chv]
    exact ⟨s, _, hs, e, zu_bd a (zu_gn (show ¬ (1 : Int32) = 0 by decide) rfl), pf, pr⟩
theorem zs_yp {n : Nat} {I : Nat → Nat → Int32} {ro : Nat → Int32} (hsc : zi_sc n I) (hr : zi_row n ro (I 8)) : zv_X11_playNotLast I = nI (zh_yp ro (I 54) 2) ∧ zh_yp ro (I 54) 2 ≤ 1 := by
  have hn := hsc.1
  unfold zh_yp zv_X11_playNotLast
  rw [if_pos rfl, hr.2.1]
  rcases hr.2.2.2.2.2.2.2.2.2.2 with w | ⟨l, hl, w⟩
  · rw [w, if_pos rfl]
    refine ⟨?_, by omega⟩
    rw [if_pos (show zv_X9_has I (-1) = 0 from by unfold zv_X9_has; rfl)]
    rfl
  · have ne : ¬ nI l = -1 := fun q => nI_pos (n := l) (by omega) (by rw [q]; decide)
    obtain ⟨⟨v, hv, e⟩, _⟩ := hsc.2.2.2.2.1 l hl
    have e' : I 54 (7 * l) = nI v := e
    have f0 : zz_f I (nI l) 0 = nI v := by rw [zu_cf0 (by omega), hsc.2.2.2.1 _ (by omega)]; exact e'
    rw [w, if_neg ne, nI_clamp (by omega), e', nI_clamp (by omega), f0]
    refine ⟨?_, by omega⟩
    rw [if_neg (show ¬ zv_X9_has I (nI l) = 0 from by
      unfold zv_X9_has
      rw [if_neg (nI_pos (by omega)), hsc.2.2.1, if_neg (nI_ge hl (by omega))]
      decide)]
    exact pk_sub (a := 1) (by omega)
/-- the class's years -/
def zs_ye (N : Nat) (q : Int32) (I : Nat → Nat → Int32) (J : Nat → Nat → Int64) : Option (Int32 × (Nat → Nat → Int32) × (Nat → Nat → Int64)) := zb_X11_years_43 N (fun _ _ _ _ _ _ _ _ => none) 0 0 0 q 0 I J
theorem zs_yl {N n : Nat} (hN : 100000 ≤ N) {X : Nat → Nat → Int32} {J : Nat → Nat → Int64} (hsc : zi_sc n X) {m : Nat} (bt : ∀ a b, a < n → b < n → zv_X1_between X (nI a) (nI b) = zt_c m X a b) {y : Nat} (hy : y ≤ 60) : ∀ k i u s q (I : Nat → Nat → Int32) (a : Nat → Int32), i + k = y → 2 * k < u → (∀ x, x ≠ 8 → I x = X x) → zi_row n a (I 8) → ∃ I', (∀ x, x ≠ 8 → I' x = X x) ∧ zi_row n (zh_yr zh_sd zh_k n m (X 58) (X 54) k s q a).2 (I' 8) ∧ zl_X11_years N u 43 0 (nI y) s q (nI i) I J = zs_ye N (zh_yr zh_sd zh_k n m (X 58) (X 54) k s q a).1 I' J := by
  intro k
  induction k with
  | zero =>
    intro i u s q I a hi hu hx hr
    obtain ⟨w, rfl⟩ : ∃ w, u = w + 1 := ⟨u - 1, by omega⟩
    obtain rfl : i = y := by omega
    refine ⟨I, hx, hr, ?_⟩
    rw [zo_X11_years_43]
    unfold zs_ye zb_X11_years_43
    rw [if_pos (nI_le (Nat.le_refl i) (by omega)), if_pos (show (0 : Int32) ≤ 0 by decide)]
    rfl
  | succ k ih =>
    intro i u s q I a hi hu hx hr
    obtain ⟨w, rfl⟩ : ∃ w, u = w + 2 := ⟨u - 2, by omega⟩
    have I58 : I 58 = X 58 := hx 58 (by omega)
    have I54 : I 54 = X 54 := hx 54 (by omega)
    have sI : zi_sc n I := zc_sc hsc (congrFun (hx 5 (by omega)) 2) (hx 6 (by omega)) (hx 7 (by omega)) (congrFun (hx 52 (by omega)) 1) I54
    have bI : ∀ a b, a < n → b < n → zv_X1_between I (nI a) (nI b) = zt_c m I a b := fun a b ha hb => by
      rw [show zv_X1_between I = zv_X1_between X by
        funext u v
        unfold zv_X1_between
        rw [hx 31 (by omega)], bt a b ha hb]
      unfold zt_c
      rw [I58, I54]
    rw [zh_yr_s, zo_X11_years_43]
    unfold zb_X11_years_43
    rw [if_neg (nI_ge (show i < y by omega) (by omega)), zh_sd_e]
    generalize zh_sd s = s'
    have nxt : ∀ (q' : Int32) (I' : Nat → Nat → Int32), zl_X11_years N (w + 1) 114 0 (nI y) s' q' (nI i) I' J = zl_X11_years N w 43 0 (nI y) s' q' (nI (i + 1)) I' J := fun q' I' => by
      rw [zo_X11_years_114]
      unfold zb_X11_years_114
      rw [nI_1]
    obtain ⟨c, hc, ek⟩ := zh_kN s'
    have ek' : zh_k s' = nI c := ek
    rw [ek, ek']
    have go : ∀ p, p ≤ 1 → ¬ c = 3 → zh_yp a (X 54) (nI c) = p → ∃ I', (∀ x, x ≠ 8 → I' x = X x) ∧ zi_row n (zh_yr zh_sd zh_k n m (X 58) (X 54) k s' (zh_y2 n (X 54) a (nI c) q) (zh_y1 n m (X 58) (X 54) a (nI c))).2 (I' 8) ∧ ((zf_X11_performNext N (nI p) I J).bind fun r4 => if r4.1 = 0 then (zl_X11_years N (w + 1) 114 0 (nI y) s' q (nI i) r4.2.1 J) else (zl_X11_years N (w + 1) 114 0 (nI y) s' (q + 1) (nI i) r4.2.1 J)) = zs_ye N (zh_yr zh_sd zh_k n m (X 58) (X 54) k s' (zh_y2 n (X 54) a (nI c) q) (zh_y1 n m (X 58) (X 54) a (nI c))).1 I' J := fun p hp h3 hyp => by
      have n3 : ¬ nI c = 3 := fun e => h3 ((nI_eq (by omega) (b := 3) (by omega)).mp e)
      unfold zh_y2 zh_y1
      rw [if_neg n3, if_neg n3, hyp]
      rcases zs_y1 hN (J := J) sI hr bI hp (fun I' => zl_X11_years N (w + 1) 114 0 (nI y) s' q (nI i) I' J) (fun I' => zl_X11_years N (w + 1) 114 0 (nI y) s' (q + 1) (nI i) I' J) with ⟨e, v⟩ | ⟨j, I', hj, e, v, fr, pr⟩
      · rw [I54] at e
        rw [if_pos e, if_pos e]
        obtain ⟨I2, b1, b2, b3⟩ := ih (i + 1) w s' q I a (by omega) (by omega) hx hr
        exact ⟨I2, b1, b2, v.trans ((nxt q I).trans b3)⟩
      · have ne : ¬ nI j = -1 := fun q => nI_pos (n := j) (by have := hsc.1; omega) (by rw [q]; decide)
        rw [I54] at e
        rw [I54, I58] at pr
        rw [e, if_neg ne, if_neg ne, nI_clamp (by have := hsc.1; omega)]
        obtain ⟨I2, b1, b2, b3⟩ := ih (i + 1) w s' (q + 1) I' _ (by omega) (by omega) (fun x hx' => (fr x hx').trans (hx x hx')) pr
        exact ⟨I2, b1, b2, v.trans ((nxt (q + 1) I').trans b3)⟩
    by_cases c3 : c = 3
    · subst c3
      rw [if_neg (show ¬ ¬ nI 3 = 3 from fun e => e rfl)]
      unfold zh_y2 zh_y1
      rw [if_pos (show nI 3 = 3 from rfl), if_pos (show nI 3 = 3 from rfl)]
      obtain ⟨I2, b1, b2, b3⟩ := ih (i + 1) w s' q (zz_u I 8 0 (I 8 0 + 1)) (zh_up a 12 (a 12 + 1)) (by omega) (by omega) (fun x hx' => by rw [zu_ux hx']; exact hx x hx') (zi_row_w hsc.1 hr (by rw [zz_us]) (fun j hj => by rw [zz_un (fun e => hj e.2)]))
      exact ⟨I2, b1, b2, (nxt q _).trans b3⟩
    · rw [if_pos (show ¬ nI c = 3 from fun e => c3 ((nI_eq (by omega) (b := 3) (by omega)).mp e))]
      by_cases c2 : c = 2
      · subst c2
        rw [if_neg (show ¬ ¬ nI 2 = 2 from fun e => e rfl)]
        obtain ⟨e1, e2⟩ := zs_yp sI hr
        rw [e1]
        exact go _ e2 c3 (by rw [I54]; rfl)
      · rw [if_pos (show ¬ nI c = 2 from fun e => c2 ((nI_eq (by omega) (b := 2) (by omega)).mp e))]
        exact go c (by omega) c3 (by
          unfold zh_yp
          rw [if_neg (show ¬ nI c = 2 from fun e => c2 ((nI_eq (by omega) (b := 2) (by omega)).mp e)), nI_clamp (by omega)])
