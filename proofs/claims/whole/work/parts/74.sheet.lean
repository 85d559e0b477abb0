/-! SIGN, SHEET -/
theorem zu_ushr (n : Nat) (hn : n < 32) (x : Int32) (i : Nat) : bt ((x.toUInt32 >>> ((nI n).toUInt32 &&& Int32.toUInt32 31)).toInt32) i = bt x (n + i) := by
  show (x.toUInt32 >>> ((nI n).toUInt32 &&& Int32.toUInt32 31)).toBitVec.getLsbD i = x.toUInt32.toBitVec.getLsbD (n + i)
  rw [UInt32.toBitVec_shiftRight]
  show (x.toUInt32.toBitVec >>> (((nI n).toUInt32 &&& Int32.toUInt32 31).toBitVec % 32).toNat).getLsbD i = _
  have s_u : ∀ n, n < 32 → (((nI n).toUInt32 &&& Int32.toUInt32 31).toBitVec % 32).toNat = n := by decide +kernel
  rw [s_u n hn, BitVec.getLsbD_ushiftRight]
theorem zu_255 (i : Nat) : bt 255 i = decide (i < 8) := by
  rcases Nat.lt_or_ge i 32 with h | h
  · exact (by decide +kernel : ∀ i, i < 32 → bt 255 i = decide (i < 8)) i h
  · rw [b_big h, decide_eq_false (by omega)]
theorem zu_b8 (x : Int32) : x.toInt8.toInt32 &&& 255 = x &&& 255 := by
  apply Int32.toBitVec_inj.mp
  apply BitVec.eq_of_getLsbD_eq
  intro i hi
  rw [Int32.toBitVec_and, Int32.toBitVec_and, BitVec.getLsbD_and, BitVec.getLsbD_and]
  have e : (255 : Int32).toBitVec.getLsbD i = decide (i < 8) := zu_255 i
  rw [e]
  by_cases q : i < 8
  · have : (x.toInt8.toInt32).toBitVec.getLsbD i = x.toBitVec.getLsbD i := by
      show (BitVec.signExtend 32 (BitVec.signExtend 8 x.toBitVec)).getLsbD i = _
      rw [BitVec.getLsbD_signExtend, BitVec.getLsbD_signExtend]
      simp [q, hi]
    rw [this]
  · simp [q]
theorem zu_isb (x : Int32) : ∃ b, b < 256 ∧ x.toInt8.toInt32 = (nI b).toInt8.toInt32 := by
  refine ⟨x.toBitVec.toNat % 2 ^ 8, Nat.mod_lt _ (by omega), ?_⟩
  rw [← pk_and x (m := 255) 8 (by decide)]
  congr 1
  apply Int8.toBitVec_inj.mp
  apply BitVec.eq_of_getLsbD_eq
  intro i hi
  show (BitVec.signExtend 8 x.toBitVec).getLsbD i = (BitVec.signExtend 8 (x &&& 255).toBitVec).getLsbD i
  have e : bt (x &&& 255) i = bt x i := by rw [b_and, zu_255, decide_eq_true hi, Bool.and_true]
  unfold bt at e
  rw [BitVec.getLsbD_signExtend, BitVec.getLsbD_signExtend, if_pos (by omega), if_pos (by omega), e]
/-- a byte of a number: as a char, as a byte -/
theorem zu_byte (v : Int32) {k : Nat} (hk : k < 4) : ((v.toUInt32 >>> ((nI (8 * k)).toUInt32 &&& Int32.toUInt32 31)).toInt32) &&& 255 = vp_nar .byte ((v >>> (nI (8 * k) &&& 31)).toInt8.toInt32) &&& 255 := by
  rw [vp_nar_byte, zu_b8, zu_b8]
  apply b_ext
  intro i hi
  rw [b_and, b_and, zu_255, zu_ushr (8 * k) (by omega), b_sshr (8 * k) (by omega) v hi]
  by_cases q : i < 8
  · rw [if_pos (by omega)]
  · simp [q]
theorem zu_chr (x : Int32) : vp_nar .char (((x &&& 255).toUInt32 % 65536).toInt32) = x &&& 255 := by
  rw [sc_c2]
  unfold vp_nar
  rw [sc_nar]
def zh_sg (v : Int32) (j : Nat) : Int32 := ((v.toUInt32 >>> ((nI (8 * (3 - j))).toUInt32 &&& Int32.toUInt32 31)).toInt32) &&& 255
def zh_sb (v : Int32) (j : Nat) : Int32 := vp_nar .byte ((v >>> (nI (8 * (3 - j)) &&& 31)).toInt8.toInt32)
theorem zs_sign_l {N : Nat} {I : Nat → Nat → Int32} {J : Nat → Nat → Int64} (v : Int32) (t : Nat) (ht : t + 4 ≤ 80) : ∀ k s f (X : Nat → Nat → Int32), s + k = 4 → k < f → X = zz_u (zh_r I 3 (zh_pt (I 3) (zh_sg v) t s)) 2 1 (nI (t + s)) → zl_X11_sign N f 16 v (nI (8 * (4 - s)) + (-8)) X J = some (nI (t + 4), zz_u (zh_r I 3 (zh_pt (I 3) (zh_sg v) t 4)) 2 1 (nI (t + 4)), J) := by
  intro k
  induction k with
  | zero =>
    intro s f X hs hf hX
    obtain ⟨m, rfl⟩ : ∃ m, f = m + 1 := ⟨f - 1, by omega⟩
    obtain rfl : s = 4 := by omega
    rw [zo_X11_sign_16]
    unfold zb_X11_sign_16
    rw [if_pos (by decide), hX]
    rfl
  | succ k ih =>
    intro s f X hs hf hX
    obtain ⟨m, rfl⟩ : ∃ m, f = m + 1 := ⟨f - 1, by omega⟩
    have e8 : nI (8 * (4 - s)) + (-8) = nI (8 * (3 - s)) := by
      rw [show 8 * (4 - s) = 8 * (3 - s) + 8 by omega, ← nI_add]
      show nI (8 * (3 - s)) + 8 + -8 = _
      rw [Int32.add_assoc]
      exact Int32.add_zero _
    rw [zo_X11_sign_16]
    unfold zb_X11_sign_16
    rw [e8, if_neg (nI_pos (by omega)), show 8 * (3 - s) = 8 * (4 - (s + 1)) by omega]
    refine ih (s + 1) m _ (by omega) (by omega) ?_
    have x1 : X 2 1 = nI (t + s) := by rw [hX]; exact zz_us _ _ _ _
    unfold zw_X11_addSign
    rw [x1, if_neg (nI_pos (by omega)), if_neg (nI_ge (show t + s < 80 by omega) (by omega)), nI_clamp (by omega), zu_chr, nI_1, hX]
    have sw : zz_u (zz_u (zh_r I 3 (zh_pt (I 3) (zh_sg v) t s)) 2 1 (nI (t + s))) 3 (t + s) (zh_sg v s) = zz_u (zh_r I 3 (zh_pt (I 3) (zh_sg v) t (s + 1))) 2 1 (nI (t + s)) := by
      rw [← zh_pt_s, ← zh_ru]
      funext b j
      unfold zz_u
      by_cases q : b = 3
      · subst q; simp
      · simp [q]
    have g : ((v.toUInt32 >>> ((nI (8 * (4 - (s + 1)))).toUInt32 &&& Int32.toUInt32 31)).toInt32) &&& 255 = zh_sg v s := by
      unfold zh_sg
      rw [show 4 - (s + 1) = 3 - s by omega]
    rw [g, sw, zz_uu]
    rfl
theorem zm_sign_l {N : Nat} {I : Nat → Nat → Int32} {J : Nat → Nat → Int64} (v : Int32) (t : Nat) (ht : t + 4 ≤ 80) : ∀ k s f (X : Nat → Nat → Int32), s + k = 4 → k < f → X = zh_r (zz_u I 52 4 (nI (t + s))) 55 (zh_pt (I 55) (zh_sb v) t s) → zl_X12_sign N f 20 v (nI (4 - s) + (-1)) X J = some (nI (t + 4), zh_r (zz_u I 52 4 (nI (t + 4))) 55 (zh_pt (I 55) (zh_sb v) t 4), J) := by
  intro k
  induction k with
  | zero =>
    intro s f X hs hf hX
    obtain ⟨m, rfl⟩ : ∃ m, f = m + 1 := ⟨f - 1, by omega⟩
    obtain rfl : s = 4 := by omega
    rw [zo_X12_sign_20]
    unfold zb_X12_sign_20
    rw [if_pos (by decide), hX]
    rfl
  | succ k ih =>
    intro s f X hs hf hX
    obtain ⟨m, rfl⟩ : ∃ m, f = m + 1 := ⟨f - 1, by omega⟩
    have e1 : nI (4 - s) + (-1) = nI (3 - s) := by rw [show 4 - s = (3 - s) + 1 by omega, pk_m1]
    have x1 : X 52 4 = nI (t + s) := by rw [hX]; rfl
    rw [zo_X12_sign_20]
    unfold zb_X12_sign_20
    rw [e1, if_neg (nI_pos (by omega)), x1, if_pos (nI_in (show t + s < 80 by omega) (by omega)), nI_clamp (by omega), nI_1, show (8 : Int32) * nI (3 - s) = nI (8 * (3 - s)) from pk_mul 8 _, show nI (3 - s) = nI (4 - (s + 1)) by rw [show 3 - s = 4 - (s + 1) by omega]]
    refine ih (s + 1) m _ (by omega) (by omega) ?_
    rw [hX]
    have sw : zz_u (zh_r (zz_u I 52 4 (nI (t + s))) 55 (zh_pt (I 55) (zh_sb v) t s)) 52 4 (nI (t + s + 1)) = zh_r (zz_u I 52 4 (nI (t + s + 1))) 55 (zh_pt (I 55) (zh_sb v) t s) := by
      funext b j
      unfold zz_u zh_r
      by_cases q : b = 52
      · subst q; simp
        by_cases w : j = 4 <;> simp [w]
      · simp [q]
    rw [show vp_nar .byte ((v >>> (nI (8 * (3 - s)) &&& 31)).toInt8.toInt32) = zh_sb v s from rfl, sw, zh_ru, zh_pt_s]
    rfl
theorem zy_sign {N n : Nat} (hN : 100000 ≤ N) {I : Nat → Nat → Int32} {J : Nat → Nat → Int64} {F : zz_F} (h : zi n I J F) (x : Int32) : ∃ v I1 J1 I2 J2, zf_X11_sign N x I J = some (v, I1, J1) ∧ zf_X12_sign N x I1 J1 = some (v, I2, J2) ∧ zi n I2 J2 F := by
  obtain ⟨⟨t, ht, t1, t2⟩, tx⟩ := h.2.2.1
  obtain ⟨M, rfl⟩ := zu_one N hN
  have le : (nI t + 4 ≤ 80) = (t + 4 ≤ 80) := by
    rw [show nI t + 4 = nI (t + 4) from nI_add t 4]
    exact propext (nI_leI (b := 80) (by omega) (by omega))
  by_cases c : t + 4 ≤ 80
  · have a : zf_X11_sign (M + 1) x I J = some (nI (t + 4), zz_u (zh_r I 3 (zh_pt (I 3) (zh_sg x) t 4)) 2 1 (nI (t + 4)), J) := by
      rw [zo_X11_sign]
      unfold zb_X11_sign_0
      rw [t1, if_pos (by rw [le]; exact c)]
      refine zs_sign_l x t c 4 0 M I (by omega) (by omega) ?_
      rw [zh_pt_0, zh_rs]
      funext b j
      unfold zz_u
      split
      · next e => rw [e.1, e.2, t1]; rfl
      · rfl
    have b : ∀ X : Nat → Nat → Int32, X 52 4 = nI t → zf_X12_sign (M + 1) x X J = some (nI (t + 4), zh_r (zz_u (zz_u X 52 7 0) 52 4 (nI (t + 4))) 55 (zh_pt (X 55) (zh_sb x) t 4), J) := by
      intro X hX
      rw [zo_X12_sign]
      unfold zb_X12_sign_0
      rw [hX, if_pos (by rw [le]; exact c)]
      refine zm_sign_l (I := zz_u X 52 7 0) x t c 4 0 M _ (by omega) (by omega) ?_
      rw [zh_pt_0]
      funext b j
      unfold zh_r zz_u
      by_cases q : b = 55
      · subst q; simp
      · by_cases w : b = 52 ∧ j = 4
        · simp [w.1, w.2, hX]
        · simp [q, w]
    refine ⟨_, _, _, _, _, a, b _ t2, h.1, h.2.1, ⟨⟨t + 4, c, rfl, rfl⟩, fun k hk => ?_⟩, h.2.2.2.1, h.2.2.2.2.1, zc_rng h.2.2.2.2.2.1 rfl rfl rfl rfl (fun k hk => by simp (disch := omega) only [zu_ux, zu_cpn, zu_rx]), zc_shl h.2.2.2.2.2.2.1 rfl rfl rfl rfl rfl (fun k hk => by simp (disch := omega) only [zu_ux, zu_cpn, zu_rx]), h.2.2.2.2.2.2.2.1, h.2.2.2.2.2.2.2.2⟩
    show zh_pt (I 3) (zh_sg x) t 4 k = zh_pt (I 55) (zh_sb x) t 4 k &&& 255 ∧ ∃ b, b < 256 ∧ zh_pt (I 55) (zh_sb x) t 4 k = (nI b).toInt8.toInt32
    unfold zh_pt
    by_cases q : t ≤ k ∧ k < t + 4
    · rw [if_pos q, if_pos q]
      refine ⟨zu_byte x (by omega), ?_⟩
      unfold zh_sb
      rw [vp_nar_byte]
      exact zu_isb _
    · rw [if_neg q, if_neg q]
      exact tx k hk
  · have a : zf_X11_sign (M + 1) x I J = some (-1, I, J) := by
      rw [zo_X11_sign]
      unfold zb_X11_sign_0
      rw [t1, if_neg (by rw [le]; exact c)]
    have b : zf_X12_sign (M + 1) x I J = some (-1, zz_u I 52 7 0, J) := by
      rw [zo_X12_sign]
      unfold zb_X12_sign_0
      rw [t2, if_neg (by rw [le]; exact c)]
    exact ⟨_, _, _, _, _, a, b, zi_q0 h⟩
