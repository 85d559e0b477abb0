/-! RULE -/
theorem zg_evs {e : Nat → Int32} : ∀ (cs : List Int32) (g : Nat → Int32), zc_ar g cs → zc_s e g cs.length = zg_ev e cs
  | [], g, _ => rfl
  | k :: cs, g, h => by
    show zc_1 e (g cs.length) (zc_s e g cs.length) = zc_1 e k (zg_ev e cs)
    rw [zc_top h, zg_evs cs g (zc_pop h)]
theorem zg_n256 (x : Int32) : ¬ x &&& 255 = 256 := fun q => by
  have := congrArg (fun y => bt y 8) q
  simp only [b_and] at this
  rw [show bt 255 8 = false by decide, show bt 256 8 = true by decide, Bool.and_false] at this
  cases this
theorem zg_runM {N : Nat} (hN : 100000 ≤ N) {J : Nat → Nat → Int64} {len m : Nat} (hl : len ≤ 80) (hm : m = min len 40) {I0 : Nat → Nat → Int32} {t : Nat → Int32} (ht : ∀ k, k < 80 → I0 3 k = t k &&& 255) : ∀ k a u s s' (I : Nat → Nat → Int32), zg_go (zq_h m t) k a s = some s' → a + k ≤ m → zg_fr I0 I → zg_M I s → s.1.length + s.2.1.length ≤ a → ∃ I', zg_fr I0 I' ∧ zg_M I' s' ∧ s'.1.length + s'.2.1.length ≤ a + k ∧ zl_X7_faultIn_X8__3 N (u + k) 19 (nI len) 40 (nI m) (nI a) I J = zl_X7_faultIn_X8__3 N u 19 (nI len) 40 (nI m) (nI (a + k)) I' J := by
  intro k
  induction k with
  | zero =>
    intro a u s s' I hg ha hf hM hs
    obtain rfl : s = s' := Option.some.inj hg
    exact ⟨I, hf, hM, hs, rfl⟩
  | succ k ih =>
    intro a u s s' I hg ha hf hM hs
    have am : a < m := by omega
    have c3 : I 3 a = zq_h m t a := by
      rw [hf 3 (by omega) (by omega) (by omega), ht a (by omega)]
      exact (if_pos am).symm
    have n256 : ¬ zq_h m t a = 256 := by
      rw [show zq_h m t a = t a &&& 255 from if_pos am]
      exact zg_n256 _
    have hg : (zg_step s (zq_h m t a)).bind (zg_go (zq_h m t) k (a + 1)) = some s' := hg
    obtain ⟨v, I1, e1, f1, cs⟩ := zg_takes hN (J := J) hM (show a < 40 by omega) hs n256
    rcases cs with ⟨q, _⟩ | ⟨s1, q, rfl, M1, l1⟩
    · rw [q] at hg; cases hg
    · rw [q, Option.bind_some] at hg
      obtain ⟨I', g1, g2, g3, g4⟩ := ih (a + 1) u s1 s' I1 hg (by omega) (fun x x1 x2 x3 => (f1 x x1 x2 x3).trans (hf x x1 x2 x3)) M1 l1
      refine ⟨I', g1, g2, by omega, ?_⟩
      rw [show a + (k + 1) = a + 1 + k by omega, ← g4, show u + (k + 1) = (u + k) + 1 by omega, zo_X7_faultIn_X8__3_19]
      unfold zb_X7_faultIn_X8__3_19
      rw [if_neg (nI_ge am (by omega)), if_pos (nI_in (show a < 80 by omega) (by omega)), nI_clamp (by omega), c3, e1, Option.bind_some, if_pos (show ¬ (1 : Int32) = 0 by decide), nI_1]
/-- the class reads a rule -/
def zg_fin (m : Nat) (t : Nat → Int32) (len : Nat) (X : Nat → Nat → Int32) : Prop := len ≤ 40 ∧ (∀ e, ∃ v, zq_g m t e 999 0 0 0 0 = .inr (v, len)) ∧ ∃ cs, cs ≤ 40 ∧ X 37 2 = nI cs ∧ ∀ e v, zq_g m t e 999 0 0 0 0 = .inr (v, len) → zc_s e (X 38) cs = [v]
def zg_bad (m : Nat) (t e : Nat → Int32) (len x : Nat) : Prop := x < len + 1 ∧ (zq_g m t e 999 0 0 0 0 = .inl x ∨ ∃ u, zq_g m t e 999 0 0 0 0 = .inr (u, x) ∧ x < len)
theorem zs_rr {N : Nat} (hN : 100000 ≤ N) {I : Nat → Nat → Int32} {J : Nat → Nat → Int64} {len : Nat} (hl : len ≤ 80) {t : Nat → Int32} (ht : ∀ k, k < 80 → I 3 k = t k &&& 255) (e0 : Nat → Int32) : ∃ X, zg_fr I X ∧ ((∃ x, zf_X7_faultIn_X8__3 N (nI len) 40 I J = some (nI x, X, J) ∧ zg_bad (min len 40) t e0 len x) ∨ (zf_X7_faultIn_X8__3 N (nI len) 40 I J = some (-1, X, J) ∧ zg_fin (min len 40) t len X)) := by
  obtain ⟨m, hm⟩ : ∃ m, m = min len 40 := ⟨_, rfl⟩
  rw [← hm]
  have mn : zz_min (nI len) (zz_min 40 (nI 80)) = nI m := by
    rw [show zz_min 40 (nI 80) = nI 40 by decide]
    unfold zz_min
    by_cases q : 40 < len
    · rw [if_pos (nI_lt q (by omega)), show m = 40 by omega]
    · rw [if_neg (nI_nlt (by omega) (by omega)), show m = len by omega]
  obtain ⟨s0, hs0⟩ : ∃ s0 : zg_S, s0 = ([], [], 0, (fun _ => false), 0, true) := ⟨_, rfl⟩
  have M0 : zg_M (zw_X8_begin I) s0 := by
    rw [hs0]
    exact ⟨rfl, rfl, rfl, fun k _ => b_0 k, rfl, rfl, fun i hi => absurd hi (Nat.not_lt_zero i), fun i hi => absurd hi (Nat.not_lt_zero i), by show 0 ≤ 4; omega, by show 0 ≤ 3; omega⟩
  have F0 : zg_fr I (zw_X8_begin I) := fun x x1 x2 x3 => by
    unfold zw_X8_begin
    rw [zu_ux x1, zu_ux x1, zu_ux x1, zu_ux x1, zu_ux x1, zu_ux x1]
  have L0 : s0.1.length + s0.2.1.length ≤ 0 := by rw [hs0]; exact Nat.le_refl 0
  have sim : ∀ e, zg_R 1 (zq_h m t) e m 0 s0 [] [] 0 (fun _ => false) (zq_g m t e 999 0 0 0 0) := fun e => by
    rw [hs0]
    exact (zg_sim e 999 0 0 (by omega) (by omega)).1 0 [] [] (fun _ => false) 0 (by omega) (by omega) (fun _ => .inl rfl) (fun _ => rfl)
  have st : zf_X7_faultIn_X8__3 N (nI len) 40 I J = zl_X7_faultIn_X8__3 N (N - 1) 19 (nI len) 40 (nI m) (nI 0) (zw_X8_begin I) J := by
    obtain ⟨M, rfl⟩ := zu_one N hN
    rw [zo_X7_faultIn_X8__3]
    unfold zb_X7_faultIn_X8__3_0
    rw [mn]
    rfl
  -- from the beginning to a state
  have run : ∀ b s', zg_to (zq_h m t) 0 s0 b s' → b ≤ m → ∃ u I', 900 < u ∧ zg_fr I I' ∧ zg_M I' s' ∧ s'.1.length + s'.2.1.length ≤ b ∧ zf_X7_faultIn_X8__3 N (nI len) 40 I J = zl_X7_faultIn_X8__3 N (u + 1) 19 (nI len) 40 (nI m) (nI b) I' J := fun b s' ⟨k, hb, hg⟩ hbm => by
    rw [Nat.zero_add] at hb
    subst hb
    obtain ⟨I', g1, g2, g3, g4⟩ := zg_runM hN (J := J) hl hm ht b 0 (N - 1 - b) s0 s' _ hg (by omega) F0 M0 L0
    rw [Nat.zero_add] at g3 g4
    refine ⟨N - 2 - b, I', by omega, g1, g2, g3, ?_⟩
    rw [st, show N - 2 - b + 1 = N - 1 - b by omega, ← g4, show N - 1 - b + b = N - 1 by omega]
  -- a sign is refused
  have ref : ∀ b s', zg_to (zq_h m t) 0 s0 b s' → b < m → zg_step s' (zq_h m t b) = none → ∃ X, zg_fr I X ∧ zf_X7_faultIn_X8__3 N (nI len) 40 I J = some (nI b, X, J) := fun b s' hto hb hn => by
    obtain ⟨u, I', hu, f1, M1, l1, e1⟩ := run b s' hto (by omega)
    have c3 : I' 3 b = zq_h m t b := by
      rw [f1 3 (by omega) (by omega) (by omega), ht b (by omega)]
      exact (if_pos hb).symm
    have n256 : ¬ zq_h m t b = 256 := by
      rw [show zq_h m t b = t b &&& 255 from if_pos hb]
      exact zg_n256 _
    obtain ⟨v, I2, e2, f2, cs⟩ := zg_takes hN (J := J) M1 (show b < 40 by omega) l1 n256
    rcases cs with ⟨_, rfl⟩ | ⟨s1, q, _⟩
    · refine ⟨I2, fun x x1 x2 x3 => (f2 x x1 x2 x3).trans (f1 x x1 x2 x3), ?_⟩
      rw [e1, zo_X7_faultIn_X8__3_19]
      unfold zb_X7_faultIn_X8__3_19
      rw [if_neg (nI_ge hb (by omega)), if_pos (nI_in (show b < 80 by omega) (by omega)), nI_clamp (by omega), c3, e2, Option.bind_some, if_neg (fun q => q rfl)]
    · rw [hn] at q; cases q
  -- the end of a text that is too long
  have lng : ∀ s', zg_to (zq_h m t) 0 s0 m s' → 40 < len → ∃ X, zg_fr I X ∧ zf_X7_faultIn_X8__3 N (nI len) 40 I J = some (nI m, X, J) := fun s' hto hlen => by
    obtain ⟨u, I', hu, f1, M1, l1, e1⟩ := run m s' hto (by omega)
    refine ⟨I', f1, ?_⟩
    rw [e1, zo_X7_faultIn_X8__3_19]
    unfold zb_X7_faultIn_X8__3_19
    rw [if_pos (nI_le (Nat.le_refl m) (by omega)), if_neg (show ¬ nI len ≤ 40 from nI_ge (a := 40) hlen (by omega)), show m = 40 by omega]
    rfl
  have s1 := sim e0
  generalize hq : zq_g m t e0 999 0 0 0 0 = q at s1
  cases q with
  | inl x =>
    obtain ⟨hx, s', hto, hn, he⟩ := s1
    by_cases xm : x < m
    · obtain ⟨X, f1, e1⟩ := ref x s' hto xm (hn xm)
      exact ⟨X, f1, .inl ⟨x, e1, by omega, .inl hq⟩⟩
    obtain rfl : x = m := by omega
    by_cases hlen : 40 < len
    · obtain ⟨X, f1, e1⟩ := lng s' hto hlen
      exact ⟨X, f1, .inl ⟨x, e1, by omega, .inl hq⟩⟩
    · obtain ⟨u, I', hu, f1, M1, l1, e1⟩ := run x s' hto (by omega)
      refine ⟨I', f1, .inl ⟨x, ?_, by omega, .inl hq⟩⟩
      rw [e1, zo_X7_faultIn_X8__3_19]
      unfold zb_X7_faultIn_X8__3_19
      rw [if_pos (nI_le (Nat.le_refl x) (by omega)), if_pos (show nI len ≤ 40 from nI_le (b := 40) (by omega) (by omega))]
      have me : zf_X8_mayEnd N I' J = some (0, I', J) := by
        obtain ⟨M, rfl⟩ := zu_one N hN
        rw [zo_X8_mayEnd]
        unfold zb_X8_mayEnd_0
        have h7 := M1.2.2.2.2.2.1
        have h4 := M1.2.2.1
        rcases he rfl with w | w
        · rw [h7, w, if_pos rfl, if_pos (show ¬ (1 : Int32) = 0 by decide)]
        · by_cases z : I' 37 7 = 0
          · have d4 := M1.2.2.2.2.2.2.2.2.1
            rw [z, if_neg (fun q => q rfl), h4, if_neg (show ¬ nI s'.2.2.1 ≤ 0 from nI_ge (a := 0) w (by omega))]
          · rw [if_pos z]
      exact zu_bd me (zu_gd rfl rfl)
  | inr pr =>
    obtain ⟨u, b⟩ := pr
    have prg := zq_prog _ _ _ _ _ _ _ (Nat.zero_le m) hq
    obtain ⟨p, cs', mk', dg', r1, r2, r3, r4, r4', r5, r6⟩ := s1
    have nn : zg_step (cs', p ++ [], 0, mk', dg', false) (zq_h m t b) = none := zg_none r5 r6 (fun _ => rfl)
    by_cases bm : b < m
    · obtain ⟨X, f1, e1⟩ := ref b _ r1 bm nn
      exact ⟨X, f1, .inl ⟨b, e1, by omega, .inr ⟨u, hq, by omega⟩⟩⟩
    obtain rfl : b = m := by omega
    by_cases hlen : 40 < len
    · obtain ⟨X, f1, e1⟩ := lng _ r1 hlen
      exact ⟨X, f1, .inl ⟨b, e1, by omega, .inr ⟨u, hq, by omega⟩⟩⟩
    obtain rfl : b = len := by omega
    obtain ⟨u1, I', hu, f1, M1, l1, e1⟩ := run b _ r1 (by omega)
    obtain ⟨h2, h3, h4, h5, h6, h7, a38, a39, hd, hg⟩ := M1
    obtain ⟨I2, g1, g2, g3, g4, g5, g6, g7, g8⟩ := zg_release hN (J := J) (r := 0) (by omega) (p ++ []) cs' I' (by dsimp only at l1; omega) h2 h3 a38 a39
    rw [zg_rel_app cs' (zg_le r2 (Nat.zero_le _)) (.inl rfl)] at g2 g3 g4 g5 g8
    dsimp only at g2 g3 g4 g5 g8 l1 h4 h7
    refine ⟨I2, fun x x1 x2 x3 => (g6 x x1 x2).trans (f1 x x1 x2 x3), .inr ⟨?_, by omega, fun e => ?_, (zg_em p cs').length, by simp only [List.length_nil] at g8; omega, g2, fun e v hv => ?_⟩⟩
    · have me : zf_X8_mayEnd N I' J = some (1, I2, J) := by
        obtain ⟨M, rfl⟩ := zu_one N hN
        rw [zo_X8_mayEnd]
        unfold zb_X8_mayEnd_0
        rw [h7, if_neg Bool.false_ne_true, if_neg (fun q => q rfl), h4, if_pos (show nI 0 ≤ 0 by decide)]
        exact zu_bd g1 rfl
      rw [e1, zo_X7_faultIn_X8__3_19]
      unfold zb_X7_faultIn_X8__3_19
      rw [if_pos (nI_le (Nat.le_refl b) (by omega)), if_pos (show nI b ≤ 40 from nI_le (b := 40) (by omega) (by omega))]
      exact zu_bd me (zu_gn (show ¬ (1 : Int32) = 0 by decide) rfl)
    · -- other things are read alike
      have s2 := sim e
      generalize zq_g b t e 999 0 0 0 0 = q2 at s2 ⊢
      cases q2 with
      | inl x =>
        obtain ⟨hx, s', hto, hn, he⟩ := s2
        exfalso
        by_cases xb : x < b
        · obtain ⟨s3, w⟩ := zg_to_mid hto r1 xb
          rw [hn xb] at w; cases w
        · obtain rfl : x = b := by omega
          have := zg_to_fun hto r1
          subst this
          rcases he rfl with w | w
          · exact Bool.false_ne_true w
          · exact Nat.lt_irrefl 0 w
      | inr pr2 =>
        obtain ⟨v, b2⟩ := pr2
        obtain ⟨p2, cs2, mk2, dg2, t1, t2, t3, t4, t4', t5, t6⟩ := s2
        by_cases b2b : b2 < b
        · exfalso
          obtain ⟨s3, w⟩ := zg_to_mid t1 r1 b2b
          rw [zg_none t5 t6 (fun _ => rfl)] at w; cases w
        · by_cases bb : b < b2
          · exfalso
            obtain ⟨s3, w⟩ := zg_to_mid r1 t1 bb
            rw [nn] at w; cases w
          · exact ⟨v, by rw [show b2 = b by omega]⟩
    · have s2 := sim e
      rw [hv] at s2
      obtain ⟨p2, cs2, mk2, dg2, t1, t2, t3, t4, t4', t5, t6⟩ := s2
      have same := zg_to_fun r1 t1
      rw [List.append_nil, List.append_nil] at same
      have e1 : cs' = cs2 := congrArg (fun s : zg_S => s.1) same
      have e2 : p = p2 := congrArg (fun s : zg_S => s.2.1) same
      rw [zg_evs _ _ g4, e1, e2]
      exact t3
theorem zc_s_cong {e c c' : Nat → Int32} : ∀ k, (∀ i, i < k → c' i = c i) → zc_s e c' k = zc_s e c k
  | 0, _ => rfl
  | k + 1, h => by
    show zc_1 e (c' k) (zc_s e c' k) = zc_1 e (c k) (zc_s e c k)
    rw [h k (by omega), zc_s_cong k (fun i hi => h i (by omega))]
theorem zq_num_c {m : Nat} {t t' : Nat → Int32} (h : zq_h m t = zq_h m t') (a : Nat) : zq_num m t a = zq_num m t' a := by
  unfold zq_num
  rw [h]
theorem zq_g_c {m : Nat} {t t' e : Nat → Int32} (h : zq_h m t = zq_h m t') : ∀ f md dp v a, zq_g m t e f md dp v a = zq_g m t' e f md dp v a := by
  intro f
  induction f with
  | zero => intro md dp v a; rfl
  | succ f ih =>
    intro md dp v a
    match md with
    | 0 => simp only [zq_g, ih, h]
    | 1 => simp only [zq_g, ih]
    | 2 => simp only [zq_g, ih]
    | 3 => simp only [zq_g, ih, h, zq_num_c h]
    | 4 => simp only [zq_g, ih, h]
    | k + 5 => simp only [zq_g, ih, h]
