/-! CUTS: THE CLASS TRIES -/
theorem zc_su_one (g : Nat → Nat) (s v : Nat) : ∀ k, zc_su (fun i => g i + if i = s then v else 0) k = zc_su g k + if s < k then v else 0
  | 0 => by rw [if_neg (by omega)]; rfl
  | k + 1 => by
    show zc_su (fun i => g i + if i = s then v else 0) k + (g k + if k = s then v else 0) = zc_su g k + g k + if s < k + 1 then v else 0
    rw [zc_su_one g s v k]
    by_cases e : k = s
    · rw [if_neg (by omega), if_pos e, if_pos (by omega)]; omega
    · rw [if_neg e]
      by_cases w : s < k
      · rw [if_pos w, if_pos (by omega)]; omega
      · rw [if_neg w, if_neg (by omega)]; omega
/-- what is kept so far, with a change each -/
def zc_kb (c lc : Nat) (mi : Nat → Nat) (s set : Nat) : Nat := zc_su (fun i => if s ≤ i ∧ c.testBit i = true ∧ set.testBit i = false then lc + mi i else 0) 12
section
variable {c lc : Nat} {mi : Nat → Nat}
theorem zc_kb0 {s q : Nat} (hs : s < 12) : zc_kb c lc mi s (2 ^ (s + 1) * q) = zc_kb c lc mi (s + 1) (2 ^ (s + 1) * q) + if c.testBit s = true then lc + mi s else 0 := by
  unfold zc_kb
  have e := zc_su_one (fun i => if s + 1 ≤ i ∧ c.testBit i = true ∧ (2 ^ (s + 1) * q).testBit i = false then lc + mi i else 0) s (if c.testBit s = true then lc + mi s else 0) 12
  rw [if_pos hs] at e
  rw [← e]
  refine zc_su_eq 12 (fun i _ => ?_)
  by_cases w : i = s
  · subst w
    have z := zc_lowbit (s := i + 1) (q := q) (i := i) (by omega)
    rw [if_pos rfl, if_neg (show ¬ (i + 1 ≤ i ∧ _) from fun w => by omega), Nat.zero_add]
    by_cases t : c.testBit i = true
    · rw [if_pos ⟨Nat.le_refl _, t, z⟩, if_pos t]
    · rw [if_neg (fun w => t w.2.1), if_neg t]
  · rw [if_neg w]
    by_cases t : s ≤ i ∧ c.testBit i = true ∧ (2 ^ (s + 1) * q).testBit i = false
    · rw [if_pos t, if_pos ⟨by omega, t.2⟩]; rfl
    · rw [if_neg t, if_neg (fun z => t ⟨by omega, z.2⟩)]
theorem zc_kb1 {s q : Nat} : zc_kb c lc mi s (2 ^ (s + 1) * q + 2 ^ s) = zc_kb c lc mi (s + 1) (2 ^ (s + 1) * q) := by
  unfold zc_kb
  refine zc_su_eq 12 (fun i _ => ?_)
  rw [zc_add]
  by_cases w : s = i
  · subst w
    rw [decide_eq_true rfl, Bool.or_true, if_neg (fun z => by cases z.2.2), if_neg (fun z => by omega)]
  · rw [decide_eq_false w, Bool.or_false]
    by_cases t : s ≤ i ∧ c.testBit i = true ∧ (2 ^ (s + 1) * q).testBit i = false
    · rw [if_pos t, if_pos ⟨by omega, t.2⟩]
    · rw [if_neg t, if_neg (fun z => t ⟨by omega, z.2⟩)]
theorem zc_kb12 (hl : lc ≤ 99) (hm : ∀ i, c.testBit i = true → mi i ≤ 9) (s set : Nat) : zc_kb c lc mi s set ≤ 1296 := by
  have : ∀ k, zc_su (fun i => if s ≤ i ∧ c.testBit i = true ∧ set.testBit i = false then lc + mi i else 0) k ≤ 108 * k := by
    intro k
    induction k with
    | zero => exact Nat.le_refl _
    | succ k ih =>
      show zc_su _ k + (if s ≤ k ∧ c.testBit k = true ∧ set.testBit k = false then lc + mi k else 0) ≤ _
      by_cases t : s ≤ k ∧ c.testBit k = true ∧ set.testBit k = false
      · have := hm k t.2.1
        rw [if_pos t]; omega
      · rw [if_neg t]; omega
  exact this 12
end
theorem zc_ch1 {n : Nat} {f : Nat → Int32} {s q : Nat} (hs : s < n) : zc_ch n f (2 ^ (s + 1) * q + 2 ^ s) = zc_ch n f (2 ^ (s + 1) * q) + (f (7 * s + 6)).toNatClampNeg := by
  unfold zc_ch
  have e := zc_su_one (fun i => if (2 ^ (s + 1) * q).testBit i = true then (f (7 * i + 6)).toNatClampNeg else 0) s (f (7 * s + 6)).toNatClampNeg n
  rw [if_pos hs] at e
  rw [← e]
  refine zc_su_eq n (fun i _ => ?_)
  rw [zc_add]
  by_cases w : i = s
  · subst w
    rw [decide_eq_true rfl, Bool.or_true, if_pos rfl, if_pos rfl, zc_lowbit (by omega), if_neg (by decide), Nat.zero_add]
  · rw [decide_eq_false (fun z => w z.symm), Bool.or_false, if_neg w]; rfl
theorem zc_orb {s q : Nat} (hs : s < 12) (h : 2 ^ (s + 1) * q + 2 ^ s < 4096) : nI (2 ^ (s + 1) * q) ||| ((1 : Int32) <<< (nI s &&& 31)) = nI (2 ^ (s + 1) * q + 2 ^ s) := by
  apply b_ext
  intro i hi
  rw [b_or, zc_tb (Nat.lt_of_le_of_lt (Nat.le_add_right _ _) h), zc_tb h, zc_add, b_bit s (by omega) hi]
  congr 1
  by_cases w : i = s
  · rw [decide_eq_true w, decide_eq_true w.symm]
  · rw [decide_eq_false w, decide_eq_false (fun z => w z.symm)]
theorem zc_f_sb {c : Nat} {ch ct dm : Nat → Nat} {lim : Nat} : ∀ s set b, (∀ T, zc_in c s set T → zc_sb T c) → zc_sb b c → zc_sb (zc_f c ch ct dm lim s set b) c := by
  intro s
  induction s with
  | zero =>
    intro set b h hb
    show zc_sb (zc_u ch ct dm lim b set) c
    unfold zc_u
    by_cases z : zc_bt ch ct dm lim b set
    · rw [if_pos z]; exact h set rfl
    · rw [if_neg z]; exact hb
  | succ s ih =>
    intro set b h hb
    rw [zc_f_s]
    by_cases t : c.testBit s = true
    · rw [if_pos t]
      exact ih _ _ (fun T hT => h T (.inr ⟨t, hT⟩)) (ih _ _ (fun T hT => h T (.inl hT)) hb)
    · rw [if_neg t]
      exact ih _ _ (fun T hT => h T (.inl hT)) hb
theorem zs_try {N n : Nat} (hN : 100000 ≤ N) {I : Nat → Nat → Int32} {J : Nat → Nat → Int64} {f : Nat → Int32} {W : Nat → Nat → Nat} {c lim lc : Nat} {mi : Nat → Nat} (hsc : zi_sc n I) (h54 : I 54 = f) (hf : ∀ s, s < n → zi_fd (fun w => f (7 * s + w))) (hW : ∀ x y, (x = 12 ∨ x < n) → y < n → I 42 (x * 12 + y) = nI (W x y) ∧ W x y ≤ 108) (h14 : I 41 14 = nI lim) (h15 : I 41 15 = nI lc) (hlim : lim ≤ 199) (hlc : lc ≤ 99) (hc : c < 4096) (hcn : ∀ i, n ≤ i → c.testBit i = false) (hm : ∀ y, y < n → zz_f I (nI y) 1 = nI (mi y) ∧ mi y ≤ 9) (h6 : ∀ y, y < n → zz_f I (nI y) 6 = f (7 * y + 6)) (hlo : ∀ x y, x < n → y < n → c.testBit x = true → c.testBit y = true → x ≠ y → lc + mi y ≤ W x y) (hW0 : ∀ y, y < n → mi y ≤ W 12 y) : ∀ s D q set b (X : Nat → Nat → Int32), s ≤ 12 → s < D → set = 2 ^ s * q → zc_sb set c → zc_sb b c → zc_S n f W c I X b → ∃ X', zg_cuts N D 0 (nI c) (nI s - 1) (nI set) (nI (zc_ch n f set)) (nI (zc_kb c lc mi s set) - nI lc) X J = some (0, X', J) ∧ zc_S n f W c I X' (zc_f c (zc_ch n f) zc_ct (zc_dm n f W c) lim s set b) := by
  have hn := hsc.1
  obtain ⟨M, hM⟩ := zu_one N hN
  have cin : ∀ i, c.testBit i = true → i < n := fun i h => Nat.lt_of_not_le (fun w => by rw [hcn i w] at h; cases h)
  have hmc : ∀ i, c.testBit i = true → mi i ≤ 9 := fun i h => (hm i (cin i h)).2
  -- the bound holds for all that is below
  have low : ∀ s q set T, set = 2 ^ s * q → zc_sb set c → zc_in c s set T → zc_kb c lc mi s set ≤ zc_dm n f W c T + lc := fun s q set T e hs hT => by
    obtain ⟨t1, t2⟩ := zc_inM s q set T e hT
    have hTc := t2 hs
    have T12 : T < 4096 := Nat.lt_of_le_of_lt (zc_le hTc) hc
    have bS : ∀ i, i < 32 → bt (nI c &&& (nI T ^^^ -1)) i = (c.testBit i && !T.testBit i) := fun i hi => by rw [b_and, b_not hi, zc_tb hc, zc_tb T12]
    have b := zc_bound hn hf (set := nI c &&& (nI T ^^^ -1)) (W := W) (mi := mi) (lc := lc) (fun i a b => by rw [bS i b, hcn i a]; rfl) (fun x y hx hy h1 h2 ne => by
      rw [bS x (by omega)] at h1
      rw [bS y (by omega)] at h2
      simp only [Bool.and_eq_true] at h1 h2
      exact hlo x y hx hy h1.1 h2.1 ne) hW0
    refine Nat.le_trans (zc_su_le 12 (fun i hi => ?_)) b
    by_cases w : s ≤ i ∧ c.testBit i = true ∧ set.testBit i = false
    · rw [if_pos w, bS i (by omega), t1 i w.1, w.2.1, w.2.2]
      exact Nat.le_refl _
    · rw [if_neg w]; exact Nat.zero_le _
  -- one call: pruned, or on
  have node : ∀ s D q set b (X : Nat → Nat → Int32), set = 2 ^ s * q → zc_sb set c → zc_sb b c → zc_S n f W c I X b → (∃ X', zl_X4_tryCuts N (zg_cuts N D) M 33 (nI c) (nI s - 1) (nI set) (nI (zc_ch n f set)) (nI (zc_kb c lc mi s set) - nI lc) X J = some (0, X', J) ∧ zc_S n f W c I X' (zc_f c (zc_ch n f) zc_ct (zc_dm n f W c) lim s set b)) ∨ ¬ (zc_ch n f set < zc_ch n f b ∨ (zc_ch n f set = zc_ch n f b ∧ zc_ct set < zc_ct b)) → ∃ X', zg_cuts N (D + 1) 0 (nI c) (nI s - 1) (nI set) (nI (zc_ch n f set)) (nI (zc_kb c lc mi s set) - nI lc) X J = some (0, X', J) ∧ zc_S n f W c I X' (zc_f c (zc_ch n f) zc_ct (zc_dm n f W c) lim s set b) := fun s D q set b X e hs hb hS H => by
    have set12 : set < 4096 := Nat.lt_of_le_of_lt (zc_le hs) hc
    have b12 : b < 4096 := Nat.lt_of_le_of_lt (zc_le hb) hc
    have k1 := (zc_chE hf set12).2
    have k2 := (zc_chE hf b12).2
    have k3 := zc_ct12 set
    have k4 := zc_ct12 b
    have st : zg_cuts N (D + 1) 0 (nI c) (nI s - 1) (nI set) (nI (zc_ch n f set)) (nI (zc_kb c lc mi s set) - nI lc) X J = zl_X4_tryCuts N (zg_cuts N D) (M + 1) 0 (nI c) (nI s - 1) (nI set) (nI (zc_ch n f set)) (nI (zc_kb c lc mi s set) - nI lc) X J := by
      rw [zge_cuts_0]
      unfold zf_X4_tryCuts
      rw [← hM]
    rw [st, ze_X4_tryCuts_0]
    unfold zb_X4_tryCuts_0
    rw [hS.2.2.2.2.1, hS.2.2.2.2.2, zc_ctE set12]
    have prune : ¬ (zc_ch n f set < zc_ch n f b ∨ (zc_ch n f set = zc_ch n f b ∧ zc_ct set < zc_ct b)) → ∃ X', zl_X4_tryCuts N (zg_cuts N D) M 37 (nI c) (nI s - 1) (nI set) (nI (zc_ch n f set)) (nI (zc_kb c lc mi s set) - nI lc) X J = some (0, X', J) ∧ zc_S n f W c I X' (zc_f c (zc_ch n f) zc_ct (zc_dm n f W c) lim s set b) := fun no => by
      obtain ⟨M', hM'⟩ : ∃ M', M = M' + 2 := ⟨M - 2, by omega⟩
      refine ⟨X, ?_, ?_⟩
      · rw [hM', ze_X4_tryCuts_37]
        unfold zb_X4_tryCuts_37
        rw [if_pos rfl, ze_X4_tryCuts_54]
        rfl
      · rw [zc_f_no s set b (fun T hT w => ?_)]
        · exact hS
        · have g := zc_chM (n := n) (f := f) (zc_grow e hT)
          rcases w.1 with z | z
          · exact no (.inl (by omega))
          · by_cases y : zc_ch n f set < zc_ch n f b
            · exact no (.inl y)
            · exact no (.inr ⟨by omega, by omega⟩)
    by_cases w1 : zc_ch n f set < zc_ch n f b
    · rw [if_pos (nI_lt w1 (by omega))]
      exact H.resolve_right (fun z => z (.inl w1))
    · rw [if_neg (nI_nlt (by omega) (by omega))]
      by_cases w2 : zc_ch n f set = zc_ch n f b
      · rw [if_neg (fun z => z (by rw [w2]))]
        by_cases w3 : zc_ct set < zc_ct b
        · rw [if_neg (nI_ge w3 (by omega))]
          exact H.resolve_right (fun z => z (.inr ⟨w2, w3⟩))
        · rw [if_pos (nI_le (by omega) (by omega))]
          exact prune (fun z => z.elim w1 (fun z => w3 z.2))
      · rw [if_pos (fun z => w2 ((nI_eq (by omega) (by omega)).mp z))]
        exact prune (fun z => z.elim w1 (fun z => w2 z.1))
  -- too long already
  have long : ∀ s q set b (X : Nat → Nat → Int32), set = 2 ^ s * q → zc_sb set c → zc_S n f W c I X b → lim + lc < zc_kb c lc mi s set → zc_f c (zc_ch n f) zc_ct (zc_dm n f W c) lim s set b = b := fun s q set b X e hs hS w => zc_f_no s set b (fun T hT z => by
    have := low s q set T e hs hT
    have := z.2
    omega)
  have cmp : ∀ s set, (nI (zc_kb c lc mi s set) - nI lc ≤ nI lim) ↔ zc_kb c lc mi s set ≤ lim + lc := fun s set => by
    have := zc_kb12 (c := c) hlc hmc s set
    rw [zn_N (zc_kb c lc mi s set), zn_sub (by omega), zn_N lim, zn_le (by omega) (by omega)]
    omega
  intro s
  induction s with
  | zero =>
    intro D q set b X _ hD e hs hb hS
    obtain ⟨D', rfl⟩ : ∃ D', D = D' + 1 := ⟨D - 1, by omega⟩
    refine node 0 D' q set b X e hs hb hS ?_
    by_cases bet : zc_ch n f set < zc_ch n f b ∨ (zc_ch n f set = zc_ch n f b ∧ zc_ct set < zc_ct b)
    · left
      have set12 : set < 4096 := Nat.lt_of_le_of_lt (zc_le hs) hc
      obtain ⟨M', hM'⟩ : ∃ M', M = M' + 2 := ⟨M - 2, by omega⟩
      have l14 : X 41 14 = nI lim := by rw [hS.2.1 14 (by omega) (by omega) (by omega) (by omega) (by omega) (by omega)]; exact h14
      rw [hM', ze_X4_tryCuts_33]
      unfold zb_X4_tryCuts_33
      rw [if_neg (show ¬ (1 : Int32) = 0 by decide), l14]
      by_cases w : zc_kb c lc mi 0 set ≤ lim + lc
      · obtain ⟨X', a1, a2⟩ := zs_tk hN (J := J) hsc h54 hW h14 hlim hS set12
        refine ⟨X', ?_, ?_⟩
        · rw [if_pos ((cmp 0 set).mpr w), if_neg (show ¬ (0 : Int32) ≤ nI 0 - 1 by decide)]
          exact zu_bd a1 rfl
        · show zc_S n f W c I X' (zc_u (zc_ch n f) zc_ct (zc_dm n f W c) lim b set)
          unfold zc_u
          by_cases d : zc_dm n f W c set ≤ lim
          · rw [if_pos d] at a2
            rw [if_pos (show zc_bt (zc_ch n f) zc_ct (zc_dm n f W c) lim b set from ⟨bet, d⟩)]
            exact a2
          · rw [if_neg d] at a2
            rw [if_neg (show ¬ zc_bt (zc_ch n f) zc_ct (zc_dm n f W c) lim b set from fun z => d z.2)]
            exact a2
      · refine ⟨X, ?_, by rw [long 0 q set b X e hs hS (by omega)]; exact hS⟩
        rw [if_neg (fun z => w ((cmp 0 set).mp z)), ze_X4_tryCuts_54]
        rfl
    · exact .inr bet
  | succ s ih =>
    intro D q set b X h12 hD e hs hb hS
    obtain ⟨D', rfl⟩ : ∃ D', D = D' + 1 := ⟨D - 1, by omega⟩
    refine node (s + 1) D' q set b X e hs hb hS ?_
    by_cases bet : zc_ch n f set < zc_ch n f b ∨ (zc_ch n f set = zc_ch n f b ∧ zc_ct set < zc_ct b)
    · left
      have set12 : set < 4096 := Nat.lt_of_le_of_lt (zc_le hs) hc
      obtain ⟨M', hM'⟩ : ∃ M', M = M' + 2 := ⟨M - 2, by omega⟩
      have l14 : X 41 14 = nI lim := by rw [hS.2.1 14 (by omega) (by omega) (by omega) (by omega) (by omega) (by omega)]; exact h14
      have l15 : X 41 15 = nI lc := by rw [hS.2.1 15 (by omega) (by omega) (by omega) (by omega) (by omega) (by omega)]; exact h15
      have zfX : ∀ Y b', zc_S n f W c I Y b' → zz_f Y = zz_f I := fun Y b' hY => by
        funext a b
        unfold zz_f
        rw [hY.1 6 (by omega) (by omega) (by omega)]
      have eq2 : set = 2 ^ s * (2 * q) := by rw [e, Nat.pow_succ, Nat.mul_assoc]
      have eq3 : set + 2 ^ s = 2 ^ s * (2 * q + 1) := by rw [eq2, Nat.mul_add, Nat.mul_one]
      rw [hM', ze_X4_tryCuts_33]
      unfold zb_X4_tryCuts_33
      rw [if_neg (show ¬ (1 : Int32) = 0 by decide), l14, nI_pred]
      by_cases w : zc_kb c lc mi (s + 1) set ≤ lim + lc
      · rw [if_pos ((cmp (s + 1) set).mpr w), if_pos (show (0 : Int32) ≤ nI s from Int32.not_lt.mp (nI_pos (by omega))), zc_f_s]
        have k0 := zc_kb0 (c := c) (lc := lc) (mi := mi) (s := s) (q := q) (by omega)
        rw [← e] at k0
        by_cases t : c.testBit s = true
        · have sn := cin s t
          rw [if_pos t] at k0
          rw [if_pos (show ¬ nI c &&& ((1 : Int32) <<< (nI s &&& 31)) = 0 by rw [zu_bz (by omega), zc_tb hc, t]; decide), if_pos t, zfX X b hS, (hm s sn).1, l15]
          have al : nI (zc_kb c lc mi (s + 1) set) - nI lc + nI lc + nI (mi s) = nI (zc_kb c lc mi s set) - nI lc := by
            rw [Int32.sub_add_cancel, nI_add, k0, pk_sub (by omega)]
            congr 1; omega
          rw [al]
          obtain ⟨X1, a1, a2⟩ := ih D' (2 * q) set b X (by omega) (by omega) eq2 hs hb hS
          have inT : ∀ T, zc_in c s set T → zc_sb T c := fun T hT => (zc_inM s (2 * q) set T eq2 hT).2 hs
          have b1 := zc_f_sb (ch := zc_ch n f) (ct := zc_ct) (dm := zc_dm n f W c) (lim := lim) s set b inT hb
          have hs2 : zc_sb (set + 2 ^ s) c := fun i hi => by
            rw [e, zc_add] at hi
            cases hq : (2 ^ (s + 1) * q).testBit i with
            | true => exact hs i (by rw [e]; exact hq)
            | false =>
              rw [hq] at hi
              have : s = i := by simpa using hi
              rw [← this]; exact t
          have set2 : set + 2 ^ s < 4096 := Nat.lt_of_le_of_lt (zc_le hs2) hc
          obtain ⟨X2, c1, c2⟩ := ih D' (2 * q + 1) (set + 2 ^ s) _ X1 (by omega) (by omega) eq3 hs2 b1 a2
          refine ⟨X2, ?_, c2⟩
          refine zu_bd a1 ?_
          dsimp only
          rw [zfX X1 _ a2, h6 s sn]
          obtain ⟨_, _, _, _, _, _, v, hv, ev⟩ := hf s sn
          have ev : f (7 * s + 6) = nI v := ev
          have cc := zc_ch1 (n := n) (f := f) (s := s) (q := q) sn
          have ob := zc_orb (s := s) (q := q) (by omega) (by rw [← e]; exact set2)
          have kk := zc_kb1 (c := c) (lc := lc) (mi := mi) (s := s) (q := q)
          rw [← e] at cc ob kk
          rw [ob, ev, nI_add, ← kk]
          rw [ev, nI_clamp (by omega)] at cc
          rw [← cc]
          exact zu_bd c1 rfl
        · rw [if_neg t, Nat.add_zero] at k0
          rw [if_neg (show ¬ ¬ nI c &&& ((1 : Int32) <<< (nI s &&& 31)) = 0 from fun z => z (by rw [zu_bz (by omega), zc_tb hc]; simpa using t)), if_neg t, ← k0]
          obtain ⟨X1, a1, a2⟩ := ih D' (2 * q) set b X (by omega) (by omega) eq2 hs hb hS
          exact ⟨X1, zu_bd a1 rfl, a2⟩
      · refine ⟨X, ?_, by rw [long (s + 1) q set b X e hs hS (by omega)]; exact hS⟩
        rw [if_neg (fun z => w ((cmp (s + 1) set).mp z)), ze_X4_tryCuts_54]
        rfl
    · exact .inr bet
