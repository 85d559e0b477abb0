/-! YEARS: the reference -/
theorem zm_y1 {N n : Nat} (hN : 100000 ≤ N) (hn : n ≤ 12) {I : Nat → Nat → Int32} {J : Nat → Nat → Int64} {F : zz_F} {m : Nat} {t : Nat → Int32} (h : zr_ru m t I F) (h1 : I 52 1 = nI n) (hl : I 63 13 = -1 ∨ ∃ l, l < n ∧ I 63 13 = nI l) {p : Nat} (hp : p ≤ 1) (K0 : Option (Int32 × (Nat → Nat → Int32) × (Nat → Nat → Int64) × zz_F)) (K1 : (Nat → Nat → Int32) → (Nat → Nat → Int64) → zz_F → Option (Int32 × (Nat → Nat → Int32) × (Nat → Nat → Int64) × zz_F)) :
    (zh_nx n (I 63) (I 54) p = -1 ∧ ((zf_X12_nextOf__63 N (nI p) I J).bind fun r => if ¬ r.1 = ((-1)) then ((zf_X12_goPlay__63 N r.1 I J F).bind fun r7 => K1 r7.2.1 r7.2.2.1 r7.2.2.2) else K0) = K0) ∨ ∃ s I' F', s < n ∧ zh_nx n (I 63) (I 54) p = nI s ∧ ((zf_X12_nextOf__63 N (nI p) I J).bind fun r => if ¬ r.1 = ((-1)) then ((zf_X12_goPlay__63 N r.1 I J F).bind fun r7 => K1 r7.2.1 r7.2.2.1 r7.2.2.2) else K0) = K1 (zh_r I' 63 (zh_pl (I 63) (I 54) s p (zh_ch m t (I 63) (I 54) s))) J F' ∧ zr_fr I I' ∧ zF_re F F' := by
  have nx := zm_next63 hN hn (J := J) h1 p
  rcases zh_nx_ok n (I 63) (I 54) p with e | ⟨s, hs, e, s0, sp⟩
  · rw [e] at nx
    exact .inl ⟨e, zu_bd nx (zu_gn (fun w => w rfl) rfl)⟩
  · have ne : ¬ nI s = -1 := fun q => nI_pos (n := s) (by omega) (by rw [q]; decide)
    rw [e] at nx
    obtain ⟨I', F', e1, e2, e3⟩ := zm_go63 hN hn (J := J) h hl hs hp sp
    exact .inr ⟨s, I', F', hs, e, zu_bd nx (zu_gd ne (zu_bd e1 rfl)), e2, e3⟩
def zm_ye (N : Nat) (q : Int32) (I : Nat → Nat → Int32) (J : Nat → Nat → Int64) (F : zz_F) : Option (Int32 × (Nat → Nat → Int32) × (Nat → Nat → Int64) × zz_F) := zb_X12_years_37 N (fun _ _ _ _ _ _ _ _ _ => none) 0 0 0 q 0 I J F
def zr_f3 (I I' : Nat → Nat → Int32) : Prop := (∀ x, x ≠ 60 → x ≠ 52 → x ≠ 63 → I' x = I x) ∧ ∀ i, i ≠ 9 → i ≠ 10 → i ≠ 11 → i ≠ 12 → i ≠ 17 → I' 52 i = I 52 i
theorem zm_yl {N n : Nat} (hN : 100000 ≤ N) (hn : n ≤ 12) {J : Nat → Nat → Int64} {m : Nat} {t f : Nat → Int32} (hf : ∀ l, l < n → ∃ v, v < 2 ∧ f (7 * l) = nI v) {y : Nat} (hy : y ≤ 60) : ∀ k i u s q (I : Nat → Nat → Int32) (F : zz_F), i + k = y → 2 * k < u → zr_ru m t I F → I 54 = f → I 52 1 = nI n → (I 63 13 = -1 ∨ ∃ l, l < n ∧ I 63 13 = nI l) → ∃ I' F', zr_f3 I I' ∧ I' 63 = (zh_yr zh_sd zh_k n m t f k s q (I 63)).2 ∧ zF_re F F' ∧ zl_X12_years N u 37 0 (nI y) s q (nI i) I J F = zm_ye N (zh_yr zh_sd zh_k n m t f k s q (I 63)).1 I' J F' := by
  intro k
  induction k with
  | zero =>
    intro i u s q I F hi hu hru h54 h1 hl
    obtain ⟨w, rfl⟩ : ∃ w, u = w + 1 := ⟨u - 1, by omega⟩
    obtain rfl : i = y := by omega
    refine ⟨I, F, ⟨fun _ _ _ _ => rfl, fun _ _ _ _ _ _ => rfl⟩, rfl, zF_refl F, ?_⟩
    rw [zo_X12_years_37]
    unfold zm_ye zb_X12_years_37
    rw [if_pos (nI_le (Nat.le_refl i) (by omega)), if_pos (show (0 : Int32) ≤ 0 by decide)]
    rfl
  | succ k ih =>
    intro i u s q I F hi hu hru h54 h1 hl
    obtain ⟨w, rfl⟩ : ∃ w, u = w + 2 := ⟨u - 2, by omega⟩
    rw [zh_yr_s, zo_X12_years_37]
    unfold zb_X12_years_37
    rw [if_neg (nI_ge (show i < y by omega) (by omega)), zh_sd_e]
    generalize zh_sd s = s'
    have nxt : ∀ (q' : Int32) (I' : Nat → Nat → Int32) (J' : Nat → Nat → Int64) (F' : zz_F), zl_X12_years N (w + 1) 157 0 (nI y) s' q' (nI i) I' J' F' = zl_X12_years N w 37 0 (nI y) s' q' (nI (i + 1)) I' J' F' := fun q' I' J' F' => by
      rw [zo_X12_years_157]
      unfold zb_X12_years_157
      rw [nI_1]
    obtain ⟨c, hc, ek⟩ := zh_kN s'
    have ek' : zh_k s' = nI c := ek
    rw [ek, ek']
    have go : ∀ p, p ≤ 1 → ¬ c = 3 → zh_yp (I 63) f (nI c) = p → ∃ I' F', zr_f3 I I' ∧ I' 63 = (zh_yr zh_sd zh_k n m t f k s' (zh_y2 n f (I 63) (nI c) q) (zh_y1 n m t f (I 63) (nI c))).2 ∧ zF_re F F' ∧ ((zf_X12_nextOf__63 N (nI p) I J).bind fun r => if ¬ r.1 = ((-1)) then ((zf_X12_goPlay__63 N r.1 I J F).bind fun r7 => zl_X12_years N (w + 1) 157 0 (nI y) s' (q + 1) (nI i) r7.2.1 r7.2.2.1 r7.2.2.2) else (zl_X12_years N (w + 1) 157 0 (nI y) s' q (nI i) I J F)) = zm_ye N (zh_yr zh_sd zh_k n m t f k s' (zh_y2 n f (I 63) (nI c) q) (zh_y1 n m t f (I 63) (nI c))).1 I' J F' := fun p hp h3 hyp => by
      have n3 : ¬ nI c = 3 := fun e => h3 ((nI_eq (by omega) (b := 3) (by omega)).mp e)
      unfold zh_y2 zh_y1
      rw [if_neg n3, if_neg n3, hyp]
      rcases zm_y1 hN hn (J := J) hru h1 hl hp (zl_X12_years N (w + 1) 157 0 (nI y) s' q (nI i) I J F) (fun I' J' F' => zl_X12_years N (w + 1) 157 0 (nI y) s' (q + 1) (nI i) I' J' F') with ⟨e, v⟩ | ⟨j, I', F', hj, e, v, fr, fF⟩
      · rw [h54] at e
        rw [if_pos e, if_pos e]
        obtain ⟨I2, F2, b1, b2, b3, b4⟩ := ih (i + 1) w s' q I F (by omega) (by omega) hru h54 h1 hl
        exact ⟨I2, F2, b1, b2, b3, v.trans ((nxt q I J F).trans b4)⟩
      · have ne : ¬ nI j = -1 := fun q => nI_pos (n := j) (by omega) (by rw [q]; decide)
        rw [h54] at e v
        rw [e, if_neg ne, if_neg ne, nI_clamp (by omega)]
        have r2 := zr_ru_c hru fr fF
        have e63 : zh_r I' 63 (zh_pl (I 63) f j p (zh_ch m t (I 63) f j)) 63 = zh_pl (I 63) f j p (zh_ch m t (I 63) f j) := funext fun j => zh_rr _ _ _ j
        have eo : ∀ x, x ≠ 63 → zh_r I' 63 (zh_pl (I 63) f j p (zh_ch m t (I 63) f j)) x = I' x := fun x hx => zu_rx hx
        obtain ⟨I2, F2, b1, b2, b3, b4⟩ := ih (i + 1) w s' (q + 1) (zh_r I' 63 (zh_pl (I 63) f j p (zh_ch m t (I 63) f j))) F' (by omega) (by omega) ⟨r2.1, by rw [eo 52 (by omega)]; exact r2.2.1, by rw [eo 58 (by omega)]; exact r2.2.2.1, r2.2.2.2⟩ (by rw [eo 54 (by omega), fr.1 54 (by omega) (by omega)]; exact h54) (by rw [eo 52 (by omega), fr.2 1 (by omega) (by omega) (by omega) (by omega) (by omega)]; exact h1) (by
          rw [e63]
          exact .inr ⟨j, hj, by unfold zh_pl zh_up; rw [if_pos rfl]⟩)
        rw [e63] at b2 b4
        exact ⟨I2, F2, ⟨fun x a1 a2 a3 => by rw [b1.1 x a1 a2 a3, eo x a3, fr.1 x a1 a2], fun i a1 a2 a3 a4 a5 => by rw [b1.2 i a1 a2 a3 a4 a5, eo 52 (by omega), fr.2 i a1 a2 a3 a4 a5]⟩, b2, zF_trans fF b3, v.trans ((nxt (q + 1) _ J F').trans b4)⟩
    by_cases c3 : c = 3
    · subst c3
      rw [if_neg (show ¬ ¬ nI 3 = 3 from fun e => e rfl)]
      unfold zh_y2 zh_y1
      rw [if_pos (show nI 3 = 3 from rfl), if_pos (show nI 3 = 3 from rfl)]
      have e63 : zz_u I 63 12 (I 63 12 + 1) 63 = zh_up (I 63) 12 (I 63 12 + 1) := by
        funext j
        unfold zz_u zh_up
        by_cases e : j = 12 <;> simp [e]
      have eo : ∀ x, x ≠ 63 → zz_u I 63 12 (I 63 12 + 1) x = I x := fun x hx => zu_ux hx
      obtain ⟨I2, F2, b1, b2, b3, b4⟩ := ih (i + 1) w s' q (zz_u I 63 12 (I 63 12 + 1)) F (by omega) (by omega) ⟨hru.1, by rw [eo 52 (by omega)]; exact hru.2.1, by rw [eo 58 (by omega)]; exact hru.2.2.1, hru.2.2.2⟩ (by rw [eo 54 (by omega)]; exact h54) (by rw [eo 52 (by omega)]; exact h1) (by rw [zz_un (by omega)]; exact hl)
      rw [e63] at b2 b4
      exact ⟨I2, F2, ⟨fun x a1 a2 a3 => by rw [b1.1 x a1 a2 a3, eo x a3], fun i a1 a2 a3 a4 a5 => by rw [b1.2 i a1 a2 a3 a4 a5, eo 52 (by omega)]⟩, b2, b3, (nxt q _ J F).trans b4⟩
    · rw [if_pos (show ¬ nI c = 3 from fun e => c3 ((nI_eq (by omega) (b := 3) (by omega)).mp e))]
      by_cases c2 : c = 2
      · subst c2
        rw [if_pos (show (2 : Int32) ≤ nI 2 by decide)]
        rcases hl with e | ⟨l, hll, e⟩
        · rw [if_neg (fun q => q e)]
          exact go 0 (by omega) c3 (by
            unfold zh_yp
            rw [if_pos (show nI 2 = 2 from rfl), if_pos e])
        · have ne : ¬ nI l = -1 := fun q => nI_pos (n := l) (by omega) (by rw [q]; decide)
          obtain ⟨v, hv, ev⟩ := hf l hll
          have e1 : (1 : Int32) - zv_X12_playOf I (nI l) = nI (1 - v) := by
            rw [zu_play (by omega), h54, ev]
            exact pk_sub (a := 1) (by omega)
          rw [if_pos (show ¬ I 63 13 = -1 by rw [e]; exact ne), e, if_pos (show ¬ _ by rw [zu_70]; exact nI_in (show 7 * l + 0 < 84 by omega) (by omega)), e1]
          exact go (1 - v) (by omega) c3 (by
            unfold zh_yp
            rw [if_pos (show nI 2 = 2 from rfl), e, if_neg ne, nI_clamp (by omega), ev, nI_clamp (by omega)])
      · rw [if_neg (show ¬ (2 : Int32) ≤ nI c from nI_ge (b := 2) (by omega) (by omega))]
        exact go c (by omega) c3 (by
          unfold zh_yp
          rw [if_neg (show ¬ nI c = 2 from fun e => c2 ((nI_eq (by omega) (b := 2) (by omega)).mp e)), nI_clamp (by omega)])
