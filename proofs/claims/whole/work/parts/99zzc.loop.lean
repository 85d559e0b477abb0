/-! THE LAW'S LOOP -/
section LWE
variable {l : Launch} {E : zz_E}
def zg_pc (k : Nat) : Nat := ([228, 253, 278, 291, 304, 372, 440, 501, 526, 551, 576, 601, 614, 627, 664, 677, 702, 739, 764, 777, 802, 827, 852, 865, 878, 891, 916, 941, 954, 967, 980, 1017, 1042, 1067, 1092, 1129, 1142, 1155, 1168, 1181, 1218, 1243, 1268, 1293] : List Nat).getD k 1348
theorem zg_tab : ∀ k, k < 44 → ∃ off, (#[189, 214, 239, 252, 265, 333, 401, 462, 487, 512, 537, 562, 575, 588, 625, 638, 663, 700, 725, 738, 763, 788, 813, 826, 839, 852, 877, 902, 915, 928, 941, 978, 1003, 1028, 1053, 1090, 1103, 1116, 1129, 1142, 1179, 1204, 1229, 1254] : Array Int)[k]? = some off ∧ zz_t 39 off = zg_pc k := by decide +kernel
set_option maxHeartbeats 8000000 in
theorem zg_all (hall : ∀ j, ∃ hs, zz_okM hs (zz_M j) = true) (hl : l.stackTraces = false) {N n : Nat} (hN : 200000 ≤ N) {i : Int32} {F : zz_F} {I : Nat → Nat → Int32} {J : Nat → Nat → Int64} (h : zi n I J F) (h0 : zi_pl I) (v1 : vp_in (i + 1) F.2.2.2.2.1) (v2 : vp_in (i + 2) F.2.2.2.2.1) (v3 : vp_in (i + 3) F.2.2.2.2.1) (v4 : vp_in (i + 4) F.2.2.2.2.1) (k : Nat) (hk : k < 44) : zg_D l E (zg_pc k) i F I J := by
  match k, hk with
  | 0, _ => exact zg_d1 (pc := 228) hall rfl rfl (Nat.le_of_ble_eq_true rfl) (Nat.le_of_ble_eq_true rfl) ⟨by decide, by decide⟩ ⟨by decide, by decide⟩ v1 (fun x => zg_c_sign hN h h0 x)
  | 1, _ => exact zg_d1 (pc := 253) hall rfl rfl (Nat.le_of_ble_eq_true rfl) (Nat.le_of_ble_eq_true rfl) ⟨by decide, by decide⟩ ⟨by decide, by decide⟩ v1 (fun x => zg_c_end hN h h0 x)
  | 2, _ => exact zg_d0 (pc := 278) hall rfl rfl (Nat.le_of_ble_eq_true rfl) (Nat.le_of_ble_eq_true rfl) ⟨by decide, by decide⟩ ⟨by decide, by decide⟩ (zg_c_scenes hN h h0)
  | 3, _ => exact zg_d0 (pc := 291) hall rfl rfl (Nat.le_of_ble_eq_true rfl) (Nat.le_of_ble_eq_true rfl) ⟨by decide, by decide⟩ ⟨by decide, by decide⟩ (zg_c_rule hN h h0)
  | 4, _ => exact zg_D_scene hall hl h v1 v2
  | 5, _ => exact zg_D_play hall hl hN h v1 v2
  | 6, _ => exact zg_D_sheet hall v1 v2 v3 v4 (fun a b c d => zg_c_sheet hN h h0 a b c d)
  | 7, _ => exact zg_d1 (pc := 501) hall rfl rfl (Nat.le_of_ble_eq_true rfl) (Nat.le_of_ble_eq_true rfl) ⟨by decide, by decide⟩ ⟨by decide, by decide⟩ v1 (fun x => zg_c_plays hN h h0 x)
  | 8, _ => exact zg_d1 (pc := 526) hall rfl rfl (Nat.le_of_ble_eq_true rfl) (Nat.le_of_ble_eq_true rfl) ⟨by decide, by decide⟩ ⟨by decide, by decide⟩ v1 (fun x => zg_c_cut hN h h0 x)
  | 9, _ => exact zg_d1 (pc := 551) hall rfl rfl (Nat.le_of_ble_eq_true rfl) (Nat.le_of_ble_eq_true rfl) ⟨by decide, by decide⟩ ⟨by decide, by decide⟩ v1 (fun x => zg_c_puts hN h h0 x)
  | 10, _ => exact zg_d1 (pc := 576) hall rfl rfl (Nat.le_of_ble_eq_true rfl) (Nat.le_of_ble_eq_true rfl) ⟨by decide, by decide⟩ ⟨by decide, by decide⟩ v1 (fun x => zg_c_pause hN h h0 x)
  | 11, _ => exact zg_d0 (pc := 601) hall rfl rfl (Nat.le_of_ble_eq_true rfl) (Nat.le_of_ble_eq_true rfl) ⟨by decide, by decide⟩ ⟨by decide, by decide⟩ (zg_c_evening hN h h0)
  | 12, _ => exact zg_d0 (pc := 614) hall rfl rfl (Nat.le_of_ble_eq_true rfl) (Nat.le_of_ble_eq_true rfl) ⟨by decide, by decide⟩ ⟨by decide, by decide⟩ (zg_c_undo hN h h0)
  | 13, _ => exact zg_d2 (pc := 627) hall rfl rfl (Nat.le_of_ble_eq_true rfl) (Nat.le_of_ble_eq_true rfl) ⟨by decide, by decide⟩ ⟨by decide, by decide⟩ v1 v2 (fun x y => zg_c_change hN h h0 x y)
  | 14, _ => exact zg_d0 (pc := 664) hall rfl rfl (Nat.le_of_ble_eq_true rfl) (Nat.le_of_ble_eq_true rfl) ⟨by decide, by decide⟩ ⟨by decide, by decide⟩ (zg_c_weave hN h h0)
  | 15, _ => exact zg_d1 (pc := 677) hall rfl rfl (Nat.le_of_ble_eq_true rfl) (Nat.le_of_ble_eq_true rfl) ⟨by decide, by decide⟩ ⟨by decide, by decide⟩ v1 (fun x => zg_c_soonest hN h h0 x)
  | 16, _ => exact zg_d2 (pc := 702) hall rfl rfl (Nat.le_of_ble_eq_true rfl) (Nat.le_of_ble_eq_true rfl) ⟨by decide, by decide⟩ ⟨by decide, by decide⟩ v1 v2 (fun x y => zg_c_both hN h h0 x y)
  | 17, _ => exact zg_d1 (pc := 739) hall rfl rfl (Nat.le_of_ble_eq_true rfl) (Nat.le_of_ble_eq_true rfl) ⟨by decide, by decide⟩ ⟨by decide, by decide⟩ v1 (fun x => zg_c_within hN h h0 x)
  | 18, _ => exact zg_d0 (pc := 764) hall rfl rfl (Nat.le_of_ble_eq_true rfl) (Nat.le_of_ble_eq_true rfl) ⟨by decide, by decide⟩ ⟨by decide, by decide⟩ (zg_c_weaves hN h h0)
  | 19, _ => exact zg_d1 (pc := 777) hall rfl rfl (Nat.le_of_ble_eq_true rfl) (Nat.le_of_ble_eq_true rfl) ⟨by decide, by decide⟩ ⟨by decide, by decide⟩ v1 (fun x => zg_c_turn hN h h0 x)
  | 20, _ => exact zg_d1 (pc := 802) hall rfl rfl (Nat.le_of_ble_eq_true rfl) (Nat.le_of_ble_eq_true rfl) ⟨by decide, by decide⟩ ⟨by decide, by decide⟩ v1 (fun x => zg_c_over hN h h0 x)
  | 21, _ => exact zg_d1 (pc := 827) hall rfl rfl (Nat.le_of_ble_eq_true rfl) (Nat.le_of_ble_eq_true rfl) ⟨by decide, by decide⟩ ⟨by decide, by decide⟩ v1 (fun x => zg_c_cuts hN h h0 x)
  | 22, _ => exact zg_d0 (pc := 852) hall rfl rfl (Nat.le_of_ble_eq_true rfl) (Nat.le_of_ble_eq_true rfl) ⟨by decide, by decide⟩ ⟨by decide, by decide⟩ (zg_c_clash hN h h0)
  | 23, _ => exact zg_d0 (pc := 865) hall rfl rfl (Nat.le_of_ble_eq_true rfl) (Nat.le_of_ble_eq_true rfl) ⟨by decide, by decide⟩ ⟨by decide, by decide⟩ (zg_c_mend hN h h0)
  | 24, _ => exact zg_d0 (pc := 878) hall rfl rfl (Nat.le_of_ble_eq_true rfl) (Nat.le_of_ble_eq_true rfl) ⟨by decide, by decide⟩ ⟨by decide, by decide⟩ (zg_c_spare hN h h0)
  | 25, _ => exact zg_d1 (pc := 891) hall rfl rfl (Nat.le_of_ble_eq_true rfl) (Nat.le_of_ble_eq_true rfl) ⟨by decide, by decide⟩ ⟨by decide, by decide⟩ v1 (fun x => zg_c_cheers hN h h0 x)
  | 26, _ => exact zg_d1 (pc := 916) hall rfl rfl (Nat.le_of_ble_eq_true rfl) (Nat.le_of_ble_eq_true rfl) ⟨by decide, by decide⟩ ⟨by decide, by decide⟩ v1 (fun x => zg_c_who hN h h0 x)
  | 27, _ => exact zg_d0 (pc := 941) hall rfl rfl (Nat.le_of_ble_eq_true rfl) (Nat.le_of_ble_eq_true rfl) ⟨by decide, by decide⟩ ⟨by decide, by decide⟩ (zg_c_kings hN h h0)
  | 28, _ => exact zg_d0 (pc := 954) hall rfl rfl (Nat.le_of_ble_eq_true rfl) (Nat.le_of_ble_eq_true rfl) ⟨by decide, by decide⟩ ⟨by decide, by decide⟩ (zg_c_stand hN h h0)
  | 29, _ => exact zg_d0 (pc := 967) hall rfl rfl (Nat.le_of_ble_eq_true rfl) (Nat.le_of_ble_eq_true rfl) ⟨by decide, by decide⟩ ⟨by decide, by decide⟩ (zg_c_guard hN h h0)
  | 30, _ => exact zg_d2 (pc := 980) hall rfl rfl (Nat.le_of_ble_eq_true rfl) (Nat.le_of_ble_eq_true rfl) ⟨by decide, by decide⟩ ⟨by decide, by decide⟩ v1 v2 (fun x y => zg_c_chance hN h h0 x y)
  | 31, _ => exact zg_d1 (pc := 1017) hall rfl rfl (Nat.le_of_ble_eq_true rfl) (Nat.le_of_ble_eq_true rfl) ⟨by decide, by decide⟩ ⟨by decide, by decide⟩ v1 (fun x => zg_c_likely hN h h0 x)
  | 32, _ => exact zg_d1 (pc := 1042) hall rfl rfl (Nat.le_of_ble_eq_true rfl) (Nat.le_of_ble_eq_true rfl) ⟨by decide, by decide⟩ ⟨by decide, by decide⟩ v1 (fun x => zg_c_rests hN h h0 x)
  | 33, _ => exact zg_d1 (pc := 1067) hall rfl rfl (Nat.le_of_ble_eq_true rfl) (Nat.le_of_ble_eq_true rfl) ⟨by decide, by decide⟩ ⟨by decide, by decide⟩ v1 (fun x => zg_c_lamps hN h h0 x)
  | 34, _ => exact zg_d2 (pc := 1092) hall rfl rfl (Nat.le_of_ble_eq_true rfl) (Nat.le_of_ble_eq_true rfl) ⟨by decide, by decide⟩ ⟨by decide, by decide⟩ v1 v2 (fun x y => zg_c_bow hN h h0 x y)
  | 35, _ => exact zg_d0 (pc := 1129) hall rfl rfl (Nat.le_of_ble_eq_true rfl) (Nat.le_of_ble_eq_true rfl) ⟨by decide, by decide⟩ ⟨by decide, by decide⟩ (zg_c_forget hN h h0)
  | 36, _ => exact zg_d0 (pc := 1142) hall rfl rfl (Nat.le_of_ble_eq_true rfl) (Nat.le_of_ble_eq_true rfl) ⟨by decide, by decide⟩ ⟨by decide, by decide⟩ (zg_c_fits hN h h0)
  | 37, _ => exact zg_d0 (pc := 1155) hall rfl rfl (Nat.le_of_ble_eq_true rfl) (Nat.le_of_ble_eq_true rfl) ⟨by decide, by decide⟩ ⟨by decide, by decide⟩ (zg_c_ask hN h h0)
  | 38, _ => exact zg_d0 (pc := 1168) hall rfl rfl (Nat.le_of_ble_eq_true rfl) (Nat.le_of_ble_eq_true rfl) ⟨by decide, by decide⟩ ⟨by decide, by decide⟩ (zg_c_law hN h h0)
  | 39, _ => exact zg_d2 (pc := 1181) hall rfl rfl (Nat.le_of_ble_eq_true rfl) (Nat.le_of_ble_eq_true rfl) ⟨by decide, by decide⟩ ⟨by decide, by decide⟩ v1 v2 (fun x y => zg_c_years hN h h0 x y)
  | 40, _ => exact zg_d1 (pc := 1218) hall rfl rfl (Nat.le_of_ble_eq_true rfl) (Nat.le_of_ble_eq_true rfl) ⟨by decide, by decide⟩ ⟨by decide, by decide⟩ v1 (fun x => zg_c_keep hN h h0 x)
  | 41, _ => exact zg_d1 (pc := 1243) hall rfl rfl (Nat.le_of_ble_eq_true rfl) (Nat.le_of_ble_eq_true rfl) ⟨by decide, by decide⟩ ⟨by decide, by decide⟩ v1 (fun x => zg_c_again hN h h0 x)
  | 42, _ => exact zg_d1 (pc := 1268) hall rfl rfl (Nat.le_of_ble_eq_true rfl) (Nat.le_of_ble_eq_true rfl) ⟨by decide, by decide⟩ ⟨by decide, by decide⟩ v1 (fun x => zg_c_count hN h h0 x)
  | 43, _ => exact zg_D_row hall hl h v1
  | k + 44, hk => exact absurd hk (by omega)
theorem zg_63 (v : Int32) : ∃ k, k < 64 ∧ v &&& 63 = nI k := by
  have h := zu_nat (x := v &&& 63) (fun i a b => by
    rw [b_and]
    have : ∀ i, i < 32 → 12 ≤ i → bt 63 i = false := by decide +kernel
    rw [this i b a, Bool.and_false])
  refine ⟨_, ?_, h.2⟩
  rw [Int32.toBitVec_and, BitVec.toNat_and]
  exact Nat.lt_of_le_of_lt Nat.and_le_right (by decide)
theorem zg_next (hall : ∀ j, ∃ hs, zz_okM hs (zz_M j) = true) {i : Nat} {S : zz_P} {o : Option Value} {S' : zz_P} (h : zz_sim l E 301 314 23 (zg_lv (nI (i + 5))) [] S o S') : zz_sim l E 301 314 1348 (zg_lv (nI i)) [] S o S' := by
  refine zg_stp hall (show zz_blk 314 1348 = some _ from rfl) ?_
  rw [← nI_add i 5] at h
  exact zz_Qo zg_4 h
set_option maxHeartbeats 4000000 in
theorem zg_loop (hall : ∀ j, ∃ hs, zz_okM hs (zz_M j) = true) (hl : l.stackTraces = false) {N len : Nat} (hN : 200000 ≤ N) (hlen : len ≤ 2560) : ∀ r i n (F : zz_F) (I : Nat → Nat → Int32) (J : Nat → Nat → Int64), len ≤ i + 5 * r + 4 → i ≤ 2600 → zi n I J F → zi_pl I → F.2.2.2.2.1 = len → ∃ S', zz_sim l E 301 314 23 (zg_lv (nI i)) [] (zz_S F I J) (some (.int 1)) S' ∧ zz_n S' ≤ F.1 + r ∧ zz_s S' ≤ F.2.1 + 8192 * r := by
  intro r
  induction r with
  | zero =>
    intro i n F I J hr hi h h0 hF
    refine ⟨zz_S F I J, ?_, Nat.le_refl _, Nat.le_refl _⟩
    refine zg_stp hall (show zz_blk 314 23 = some _ from rfl) ?_
    refine And.intro (show (12 : Nat) ≤ 18 by decide) (And.intro (show (18 : Nat) < 19 by decide) ?_)
    refine And.intro (fun _ => zz_Qo zg_4 ?_) (fun c => absurd ?_ c)
    · refine zg_stp hall (show zz_blk 314 1354 = some _ from rfl) ?_
      exact And.intro rfl (And.intro rfl rfl)
    · show nI F.2.2.2.2.1 - nI 5 < nI i
      rw [hF, Int32.lt_iff_toInt_lt, pk_sub_toInt (by omega) (by omega), nI_toInt (by omega)]
      omega
  | succ r ih =>
    intro i n F I J hr hi h h0 hF
    by_cases q : len < i + 5
    · obtain ⟨S', a, b, c⟩ : ∃ S', zz_sim l E 301 314 23 (zg_lv (nI i)) [] (zz_S F I J) (some (.int 1)) S' ∧ zz_n S' ≤ F.1 + 0 ∧ zz_s S' ≤ F.2.1 + 8192 * 0 := by
        refine ⟨zz_S F I J, ?_, Nat.le_refl _, Nat.le_refl _⟩
        refine zg_stp hall (show zz_blk 314 23 = some _ from rfl) ?_
        refine And.intro (show (12 : Nat) ≤ 18 by decide) (And.intro (show (18 : Nat) < 19 by decide) ?_)
        refine And.intro (fun _ => zz_Qo zg_4 ?_) (fun c => absurd ?_ c)
        · refine zg_stp hall (show zz_blk 314 1354 = some _ from rfl) ?_
          exact And.intro rfl (And.intro rfl rfl)
        · show nI F.2.2.2.2.1 - nI 5 < nI i
          rw [hF, Int32.lt_iff_toInt_lt, pk_sub_toInt (by omega) (by omega), nI_toInt (by omega)]
          omega
      exact ⟨S', a, by omega, by omega⟩
    · have vi : ∀ k : Nat, k < 5 → vp_in (nI i + nI k) F.2.2.2.2.1 := fun k hk => by
        rw [hF, nI_add]
        exact vp_in_nI (by omega) (by omega)
      have head : ∀ S', (∀ k : Nat, k < 64 → I 1 (nI i).toNatClampNeg &&& 63 = nI k → zz_sim l E 301 314 (zg_pc k) (zg_lv (nI i)) [] (zz_S F I J) (some (.int 1)) S') → zz_sim l E 301 314 23 (zg_lv (nI i)) [] (zz_S F I J) (some (.int 1)) S' := fun S' hd => by
        obtain ⟨k, hk, ek⟩ := zg_63 (I 1 (nI i).toNatClampNeg)
        have hd := hd k hk ek
        refine zg_stp hall (show zz_blk 314 23 = some _ from rfl) ?_
        refine And.intro (show (12 : Nat) ≤ 18 by decide) (And.intro (show (18 : Nat) < 19 by decide) ?_)
        refine And.intro (fun c => absurd c ?_) (fun _ => ?_)
        · show ¬ nI F.2.2.2.2.1 - nI 5 < nI i
          rw [hF, Int32.lt_iff_toInt_lt, pk_sub_toInt (by omega) (by omega), nI_toInt (by omega)]
          omega
        · refine And.intro (Or.inr rfl) (And.intro (show vp_in (nI i) F.2.2.2.2.1 by rw [hF]; exact vp_in_nI (by omega) (by omega)) ?_)
          have key : ∀ x : Int32, x = nI k → ((x.toInt < 0 ∨ 43 < x.toInt → zz_Q l E 301 314 (zz_t 39 1309) (zg_lv (nI i)) [] (zz_S F I J) (some (.int 1)) S') ∧ (¬ (x.toInt < 0 ∨ 43 < x.toInt) → ∃ off, (#[189, 214, 239, 252, 265, 333, 401, 462, 487, 512, 537, 562, 575, 588, 625, 638, 663, 700, 725, 738, 763, 788, 813, 826, 839, 852, 877, 902, 915, 928, 941, 978, 1003, 1028, 1053, 1090, 1103, 1116, 1129, 1142, 1179, 1204, 1229, 1254] : Array Int)[(x.toInt - 0).toNat]? = some off ∧ zz_Q l E 301 314 (zz_t 39 off) (zg_lv (nI i)) [] (zz_S F I J) (some (.int 1)) S')) := fun x hx => by
            subst hx
            rw [nI_toInt (by omega)]
            refine ⟨fun c => ?_, fun c => ?_⟩
            · have k44 : 44 ≤ k := by omega
              have e : zg_pc k = 1348 := by
                unfold zg_pc
                rw [List.getD_eq_getElem?_getD, List.getElem?_eq_none (by simpa using k44)]
                rfl
              rw [e] at hd
              exact zz_Qo zg_4 hd
            · obtain ⟨off, o1, o2⟩ := zg_tab k (by omega)
              refine ⟨off, ?_, by rw [o2]; exact zz_Qo zg_4 hd⟩
              rw [show ((k : Int) - 0).toNat = k by omega]
              exact o1
          exact key _ ek
      -- the next round, from wherever a case leads
      have go : ∀ (F2 : zz_F) (I2 : Nat → Nat → Int32) (J2 : Nat → Nat → Int64) (n2 : Nat), zi n2 I2 J2 F2 → I2 0 = I 0 → F2.2.2.2.2.1 = F.2.2.2.2.1 → F2.1 ≤ F.1 + 1 → F2.2.1 ≤ F.2.1 + 8192 → ∃ S', zz_sim l E 301 314 1348 (zg_lv (nI i)) [] (zz_S F2 I2 J2) (some (.int 1)) S' ∧ zz_n S' ≤ F.1 + (r + 1) ∧ zz_s S' ≤ F.2.1 + 8192 * (r + 1) := fun F2 I2 J2 n2 z e0 eF b1 b2 => by
        have hp : zi_pl I2 := by
          unfold zi_pl at h0 ⊢
          rw [e0]; exact h0
        obtain ⟨S', a, b, c⟩ := ih (i + 5) n2 F2 I2 J2 (by omega) (by omega) z hp (by rw [eF]; exact hF)
        exact ⟨S', zg_next hall a, by omega, by omega⟩
      obtain ⟨k, hk, ek⟩ := zg_63 (I 1 (nI i).toNatClampNeg)
      by_cases k44 : k < 44
      · obtain ⟨F2, I2, J2, n2, z, e0, e1, eF, b1, b2, hD⟩ := zg_all (E := E) hall hl hN h h0 (vi 1 (by omega)) (vi 2 (by omega)) (vi 3 (by omega)) (vi 4 (by omega)) k k44
        obtain ⟨S', a, b, c⟩ := go F2 I2 J2 n2 z e0 eF b1 b2
        refine ⟨S', head S' (fun k' hk' ek' => ?_), b, c⟩
        have : k' = k := (nI_eq (by omega) (by omega)).mp (ek'.symm.trans ek)
        subst this
        exact hD _ _ a
      · obtain ⟨S', a, b, c⟩ := go F I J n h rfl rfl (by omega) (by omega)
        refine ⟨S', head S' (fun k' hk' ek' => ?_), b, c⟩
        have : k' = k := (nI_eq (by omega) (by omega)).mp (ek'.symm.trans ek)
        subst this
        have e : zg_pc k' = 1348 := by
          unfold zg_pc
          rw [List.getD_eq_getElem?_getD, List.getElem?_eq_none (by simpa using (show 44 ≤ k' by omega))]
          rfl
        rw [e]
        exact a
/-! the whole run -/
set_option maxRecDepth 100000 in
set_option maxHeartbeats 8000000 in
theorem zg_run (hall : ∀ j, ∃ hs, zz_okM hs (zz_M j) = true) (hl : l.stackTraces = false) {N n1 : Nat} (hN : 200000 ≤ N) (hlen : n1 ≤ 2560) {I : Nat → Nat → Int32} (h0 : zi_pl I) : ∃ S', zz_sim l E 301 314 0 (zz_ent 8 [.ref 1]) [] (zS I n1) (some (.int 1)) S' ∧ zz_n S' ≤ 600 ∧ zz_s S' ≤ 4300000 := by
  obtain ⟨S', a, b, c⟩ := zg_loop (l := l) (E := E) hall hl hN hlen 512 0 0 (zF_0 I n1) (zI_0 I n1) (zJ_0 I n1) (by omega) (by omega) (zT_zi h0) (by
    unfold zi_pl at h0 ⊢
    rw [(zT_01 I n1).1]; exact h0) rfl
  have a2 : zz_sim l E 301 314 23 (zg_lv (nI 0)) [] (zT_201 I n1) (some (.int 1)) S' := zg_like (S2 := zz_S (zF_0 I n1) (zI_0 I n1) (zJ_0 I n1)) (zT_ns I n1).1.symm (zT_ns I n1).2.symm (fun U H hr => zT_rel hr) a
  refine ⟨S', ?_, ?_, ?_⟩
  · refine zg_stp hall (show zz_blk 314 0 = some _ from rfl) ?_
    refine And.intro (by decide) (And.intro rfl ?_)
    refine And.intro (by decide) (And.intro trivial (And.intro (Nat.le_of_ble_eq_true rfl) (And.intro (Nat.le_of_ble_eq_true rfl) (And.intro (Nat.le_of_ble_eq_true rfl) (Exists.intro _ (Exists.intro _ (And.intro (zz_Qo (And.intro (by decide) (by decide)) (zz_sound hall (zC_37 I n1))) ?_)))))))
    refine And.intro (by decide) (And.intro rfl ?_)
    refine And.intro (by decide) (And.intro trivial (And.intro (Nat.le_of_ble_eq_true rfl) (And.intro (Nat.le_of_ble_eq_true rfl) (And.intro (Nat.le_of_ble_eq_true rfl) (Exists.intro _ (Exists.intro _ (And.intro (zz_Qo (And.intro (by decide) (by decide)) (zz_sound hall (zC_38 I n1))) ?_)))))))
    refine And.intro (by decide) (And.intro (by decide) ?_)
    exact zz_Qo zg_4 a2
  · have : zz_n S' ≤ 82 + 512 := b
    omega
  · have : zz_s S' ≤ 7170 + 8192 * 512 := c
    omega
end LWE
