/-! THE LAW'S BODY: scene, play, row; sheet -/
section LWD
variable {l : Launch} {E : zz_E}
theorem zg_forget (hall : ∀ j, ∃ hs, zz_okM hs (zz_M j) = true) {d pc : Nat} {i : Int32} {a b c : Option Value} {st : List Value} {S : zz_P} {o : Option Value} {S' : zz_P} (h : zz_sim l E d 314 pc (zg_lv i) st S o S') : zz_sim l E d 314 pc [some (.ref 1), some (.ref 2), some (.ref 52), some (.ref 83), some (.int i), a, b, c] st S o S' := by
  refine zz_Qs zg_4 ((zz_Q_cls hall).2 d 314 pc _ (zg_lv i) st S o S' (fun n v hv => ?_) (zz_Qo zg_4 h))
  match n with
  | 0 => exact hv
  | 1 => exact hv
  | 2 => exact hv
  | 3 => exact hv
  | 4 => exact hv
  | 5 => cases hv
  | 6 => cases hv
  | 7 => cases hv
  | n + 8 => cases hv
theorem zg_cmp0 (x : Int64) : lg_cmp x x = 0 := by
  unfold lg_cmp
  simp
set_option maxHeartbeats 4000000 in
theorem zg_a_scene (hall : ∀ j, ∃ hs, zz_okM hs (zz_M j) = true) {i k b x y : Int32} {F : zz_F} {I I2 : Nat → Nat → Int32} {J : Nat → Nat → Int64} {o : Option Value} {S' : zz_P} (v1 : vp_in (i + 1) F.2.2.2.2.1) (v2 : vp_in (i + 2) F.2.2.2.2.1) (x1 : I 1 (i + 1).toNatClampNeg = x) (x2 : I 1 (i + 2).toNatClampNeg = y) (hm : zz_run 300 237 0 (zz_ent (zz_ml 237) [.ref 52, .int x, .int y]) [] (zz_S F I J) (some (.int b)) (zz_S F I2 J)) (hk : I2 52 7 = k) (hv : k = 0 → J 83 0 = b.toInt64) (hc : zz_sim l E 301 314 1348 (zg_lv i) [] (zz_S F I2 J) o S') : zz_sim l E 301 314 321 (zg_lv i) [.int k] (zz_S F I J) o S' := by
  subst x1 x2
  refine zg_stp hall (show zz_blk 314 321 = some _ from rfl) ?_
  refine And.intro (Or.inr rfl) (And.intro v1 (And.intro (Or.inr rfl) (And.intro v2 ?_)))
  refine And.intro rfl (And.intro (Nat.le_of_ble_eq_true rfl) (And.intro (Nat.le_of_ble_eq_true rfl) (And.intro (Nat.le_of_ble_eq_true rfl) (Exists.intro _ (Exists.intro _ (And.intro (zz_Qo (And.intro (by decide) (by decide)) (zz_sound hall hm)) ?_))))))
  refine And.intro rfl (And.intro (Nat.le_of_ble_eq_true rfl) (And.intro (Nat.le_of_ble_eq_true rfl) (And.intro (Nat.le_of_ble_eq_true rfl) (Exists.intro _ (Exists.intro _ (And.intro (zz_Qo (And.intro (by decide) (by decide)) (zz_sound hall (zr_X12_thrown F I2 J 300))) ?_))))))
  refine And.intro (fun _ => zz_Qo zg_4 ?_) (fun c => absurd hk c)
  have on : zz_sim l E 301 314 369 [some (.ref 1), some (.ref 2), some (.ref 52), some (.ref 83), some (.int i), some (.int k), some (.int b), none] [] (zz_S F I2 J) o S' := zg_stp hall (show zz_blk 314 369 = some _ from rfl) (zz_Qo zg_4 (zg_forget hall hc))
  refine zg_stp hall (show zz_blk 314 352 = some _ from rfl) ?_
  refine And.intro (fun _ => zz_Qo zg_4 on) (fun c => ?_)
  have k0 : k = 0 := Classical.not_not.mp c
  refine And.intro rfl (And.intro (zz_vk (k := 0) (n := 1) rfl rfl) ?_)
  refine And.intro (fun _ => zz_Qo zg_4 on) (fun c => absurd ?_ c)
  show lg_cmp (J 83 0) b.toInt64 = 0
  rw [hv k0]
  exact zg_cmp0 _
set_option maxHeartbeats 4000000 in
theorem zg_a_play (hall : ∀ j, ∃ hs, zz_okM hs (zz_M j) = true) {i k b x y : Int32} {F : zz_F} {I I2 : Nat → Nat → Int32} {J : Nat → Nat → Int64} {o : Option Value} {S' : zz_P} (v1 : vp_in (i + 1) F.2.2.2.2.1) (v2 : vp_in (i + 2) F.2.2.2.2.1) (x1 : I 1 (i + 1).toNatClampNeg = x) (x2 : I 1 (i + 2).toNatClampNeg = y) (hm : zz_run 300 238 0 (zz_ent (zz_ml 238) [.ref 52, .int x, .int y]) [] (zz_S F I J) (some (.int b)) (zz_S F I2 J)) (hk : I2 52 7 = k) (hv : k = 0 → J 83 0 = b.toInt64) (hc : zz_sim l E 301 314 1348 (zg_lv i) [] (zz_S F I2 J) o S') : zz_sim l E 301 314 389 (zg_lv i) [.int k] (zz_S F I J) o S' := by
  subst x1 x2
  refine zg_stp hall (show zz_blk 314 389 = some _ from rfl) ?_
  refine And.intro (Or.inr rfl) (And.intro v1 (And.intro (Or.inr rfl) (And.intro v2 ?_)))
  refine And.intro rfl (And.intro (Nat.le_of_ble_eq_true rfl) (And.intro (Nat.le_of_ble_eq_true rfl) (And.intro (Nat.le_of_ble_eq_true rfl) (Exists.intro _ (Exists.intro _ (And.intro (zz_Qo (And.intro (by decide) (by decide)) (zz_sound hall hm)) ?_))))))
  refine And.intro rfl (And.intro (Nat.le_of_ble_eq_true rfl) (And.intro (Nat.le_of_ble_eq_true rfl) (And.intro (Nat.le_of_ble_eq_true rfl) (Exists.intro _ (Exists.intro _ (And.intro (zz_Qo (And.intro (by decide) (by decide)) (zz_sound hall (zr_X12_thrown F I2 J 300))) ?_))))))
  refine And.intro (fun _ => zz_Qo zg_4 ?_) (fun c => absurd hk c)
  have on : zz_sim l E 301 314 437 [some (.ref 1), some (.ref 2), some (.ref 52), some (.ref 83), some (.int i), some (.int k), some (.int b), none] [] (zz_S F I2 J) o S' := zg_stp hall (show zz_blk 314 437 = some _ from rfl) (zz_Qo zg_4 (zg_forget hall hc))
  refine zg_stp hall (show zz_blk 314 420 = some _ from rfl) ?_
  refine And.intro (fun _ => zz_Qo zg_4 on) (fun c => ?_)
  have k0 : k = 0 := Classical.not_not.mp c
  refine And.intro rfl (And.intro (zz_vk (k := 0) (n := 1) rfl rfl) ?_)
  refine And.intro (fun _ => zz_Qo zg_4 on) (fun c => absurd ?_ c)
  show lg_cmp (J 83 0) b.toInt64 = 0
  rw [hv k0]
  exact zg_cmp0 _
set_option maxHeartbeats 4000000 in
theorem zg_a_row (hall : ∀ j, ∃ hs, zz_okM hs (zz_M j) = true) {i k x : Int32} {b : Int64} {F : zz_F} {I I2 : Nat → Nat → Int32} {J : Nat → Nat → Int64} {o : Option Value} {S' : zz_P} (v1 : vp_in (i + 1) F.2.2.2.2.1) (x1 : I 1 (i + 1).toNatClampNeg = x) (hm : zz_run 300 305 0 (zz_ent (zz_ml 305) [.ref 52, .int x]) [] (zz_S F I J) (some (.long b)) (zz_S F I2 J)) (hk : I2 52 7 = k) (hv : k = 0 → J 83 0 = b) (hc : zz_sim l E 301 314 1348 (zg_lv i) [] (zz_S F I2 J) o S') : zz_sim l E 301 314 1304 (zg_lv i) [.int k] (zz_S F I J) o S' := by
  subst x1
  refine zg_stp hall (show zz_blk 314 1304 = some _ from rfl) ?_
  refine And.intro (Or.inr rfl) (And.intro v1 ?_)
  refine And.intro rfl (And.intro (Nat.le_of_ble_eq_true rfl) (And.intro (Nat.le_of_ble_eq_true rfl) (And.intro (Nat.le_of_ble_eq_true rfl) (Exists.intro _ (Exists.intro _ (And.intro (zz_Qo (And.intro (by decide) (by decide)) (zz_sound hall hm)) ?_))))))
  refine And.intro rfl (And.intro (Nat.le_of_ble_eq_true rfl) (And.intro (Nat.le_of_ble_eq_true rfl) (And.intro (Nat.le_of_ble_eq_true rfl) (Exists.intro _ (Exists.intro _ (And.intro (zz_Qo (And.intro (by decide) (by decide)) (zz_sound hall (zr_X12_thrown F I2 J 300))) ?_))))))
  refine And.intro (fun _ => zz_Qo zg_4 ?_) (fun c => absurd hk c)
  have on : zz_sim l E 301 314 1345 [some (.ref 1), some (.ref 2), some (.ref 52), some (.ref 83), some (.int i), some (.int k), some (.long b), none] [] (zz_S F I2 J) o S' := zg_stp hall (show zz_blk 314 1345 = some _ from rfl) (zz_Qo zg_4 (zg_forget hall hc))
  refine zg_stp hall (show zz_blk 314 1329 = some _ from rfl) ?_
  refine And.intro (fun _ => zz_Qo zg_4 on) (fun c => ?_)
  have k0 : k = 0 := Classical.not_not.mp c
  refine And.intro rfl (And.intro (zz_vk (k := 0) (n := 1) rfl rfl) ?_)
  refine And.intro (fun _ => zz_Qo zg_4 on) (fun c => absurd ?_ c)
  show lg_cmp (J 83 0) b = 0
  rw [hv k0]
  exact zg_cmp0 _
theorem zr_L_scene (F : zz_F) (I : Nat → Nat → Int32) (J : Nat → Nat → Int64) (d : Nat) (x y v : Int32) (h : zz_run d 138 0 (zz_ent (zz_ml 138) [.ref 2, .int x, .int y]) [] (zz_S F I J) (some (.int v)) (zz_S F I J)) : zz_run (d+1) 315 0 (zz_ent (zz_ml 315) [.ref 2, .int x, .int y, .ref 83]) [] (zz_S F I J) (some (.int 0)) (zz_S F I (zz_u J 83 0 v.toInt64)) := by
  refine zz_step (show zz_blk 315 0 = some _ from rfl) ?_
  refine zz_step (show zz_blk 315 5 = some _ from rfl) ?_
  refine And.intro rfl (And.intro (Nat.le_of_ble_eq_true rfl) (And.intro (Nat.le_of_ble_eq_true rfl) (And.intro (Nat.le_of_ble_eq_true rfl) (Exists.intro _ (Exists.intro _ (And.intro h ?_))))))
  refine And.intro rfl (And.intro (zz_vk (k := 0) (n := 1) rfl rfl) ?_)
  refine zz_step (show zz_blk 315 17 = some _ from rfl) ?_
  exact And.intro rfl (And.intro rfl rfl)
theorem zr_L_play (F : zz_F) (I : Nat → Nat → Int32) (J : Nat → Nat → Int64) (d : Nat) (x y v : Int32) (h : zz_run d 139 0 (zz_ent (zz_ml 139) [.ref 2, .int x, .int y]) [] (zz_S F I J) (some (.int v)) (zz_S F I J)) : zz_run (d+1) 316 0 (zz_ent (zz_ml 316) [.ref 2, .int x, .int y, .ref 83]) [] (zz_S F I J) (some (.int 0)) (zz_S F I (zz_u J 83 0 v.toInt64)) := by
  refine zz_step (show zz_blk 316 0 = some _ from rfl) ?_
  refine zz_step (show zz_blk 316 5 = some _ from rfl) ?_
  refine And.intro rfl (And.intro (Nat.le_of_ble_eq_true rfl) (And.intro (Nat.le_of_ble_eq_true rfl) (And.intro (Nat.le_of_ble_eq_true rfl) (Exists.intro _ (Exists.intro _ (And.intro h ?_))))))
  refine And.intro rfl (And.intro (zz_vk (k := 0) (n := 1) rfl rfl) ?_)
  refine zz_step (show zz_blk 316 17 = some _ from rfl) ?_
  exact And.intro rfl (And.intro rfl rfl)
theorem zr_L_row (F : zz_F) (I : Nat → Nat → Int32) (J : Nat → Nat → Int64) (d : Nat) (x : Int32) (v : Int64) (h : zz_run d 177 0 (zz_ent (zz_ml 177) [.ref 2, .int x]) [] (zz_S F I J) (some (.long v)) (zz_S F I J)) : zz_run (d+1) 317 0 (zz_ent (zz_ml 317) [.ref 2, .int x, .ref 83]) [] (zz_S F I J) (some (.int 0)) (zz_S F I (zz_u J 83 0 v)) := by
  refine zz_step (show zz_blk 317 0 = some _ from rfl) ?_
  refine zz_step (show zz_blk 317 4 = some _ from rfl) ?_
  refine And.intro rfl (And.intro (Nat.le_of_ble_eq_true rfl) (And.intro (Nat.le_of_ble_eq_true rfl) (And.intro (Nat.le_of_ble_eq_true rfl) (Exists.intro _ (Exists.intro _ (And.intro h ?_))))))
  refine And.intro rfl (And.intro (zz_vk (k := 0) (n := 1) rfl rfl) ?_)
  refine zz_step (show zz_blk 317 14 = some _ from rfl) ?_
  exact And.intro rfl (And.intro rfl rfl)
theorem zi_83 {n : Nat} {I : Nat → Nat → Int32} {J : Nat → Nat → Int64} {F : zz_F} (h : zi n I J F) (v : Int64) : zi n I (zz_u J 83 0 v) F := zi_told h (zk_refl I) (zc_tol h.2.2.2.1 rfl rfl (zu_ux (by omega)) (zu_ux (by omega))) h.2.2.2.2.2.2.2.2
theorem zi_b {n : Nat} {I : Nat → Nat → Int32} {J : Nat → Nat → Int64} {F : zz_F} (h : zi n I J F) : zi n I J (F.1 + 1, F.2.1 + 6, F.2.2) := zi_told h (zk_refl I) h.2.2.2.1 (by
  obtain ⟨a, b, c, d, e⟩ := h.2.2.2.2.2.2.2.2
  refine ⟨by show 82 ≤ F.1 + 1; omega, b, c, ?_, e⟩
  show zz_mo F = 48 ∨ 84 ≤ zz_mo F ∧ zz_mo F < F.1 + 1 + 2
  omega)
theorem zx_h_scene : Cond.codeWith (zz_M 315).1 (zz_M 315).2.1 (zz_M 315).2.2.1 (zz_M 315).2.2.2.1 [(0, 10, 13, 13)] ∈ zz_G := by decide +kernel
theorem zx_s_scene : Cond.static (zz_M 315).1 ∈ zz_G := by decide +kernel
theorem zx_h_play : Cond.codeWith (zz_M 316).1 (zz_M 316).2.1 (zz_M 316).2.2.1 (zz_M 316).2.2.2.1 [(0, 10, 13, 13)] ∈ zz_G := by decide +kernel
theorem zx_s_play : Cond.static (zz_M 316).1 ∈ zz_G := by decide +kernel
theorem zx_h_row : Cond.codeWith (zz_M 317).1 (zz_M 317).2.1 (zz_M 317).2.2.1 (zz_M 317).2.2.2.1 [(0, 8, 11, 13)] ∈ zz_G := by decide +kernel
theorem zx_s_row : Cond.static (zz_M 317).1 ∈ zz_G := by decide +kernel
theorem zx_i_law : Cond.initialized "OneStageTwoPlaysLaw" ∈ zz_G := by decide +kernel
theorem zx_l_scene : Cond.methodLink (zz_M 314).1.cls 45 (zz_M 315).1 ∈ zz_G := by decide +kernel
theorem zd_314_scene : decode (zz_M 314).2.1 318 = .ok (.invokestatic 45, 3) := by decide +kernel
theorem zx_l_play : Cond.methodLink (zz_M 314).1.cls 54 (zz_M 316).1 ∈ zz_G := by decide +kernel
theorem zd_314_play : decode (zz_M 314).2.1 386 = .ok (.invokestatic 54, 3) := by decide +kernel
theorem zx_l_row : Cond.methodLink (zz_M 314).1.cls 206 (zz_M 317).1 ∈ zz_G := by decide +kernel
theorem zd_314_row : decode (zz_M 314).2.1 1301 = .ok (.invokestatic 206, 3) := by decide +kernel
theorem zx_mnb (S : zz_P) : zz_mn S (zx_b S) := ⟨Nat.le_succ _, Nat.le_add_right _ _⟩
set_option maxHeartbeats 4000000 in
theorem zg_D_scene (hall : ∀ j, ∃ hs, zz_okM hs (zz_M j) = true) (hl : l.stackTraces = false) {n : Nat} {i : Int32} {F : zz_F} {I : Nat → Nat → Int32} {J : Nat → Nat → Int64} (h : zi n I J F) (v1 : vp_in (i + 1) F.2.2.2.2.1) (v2 : vp_in (i + 2) F.2.2.2.2.1) : zg_D l E 304 i F I J := by
  obtain ⟨x, hx⟩ : ∃ x, I 1 (i + 1).toNatClampNeg = x := ⟨_, rfl⟩
  obtain ⟨y, hy⟩ : ∃ y, I 1 (i + 2).toNatClampNeg = y := ⟨_, rfl⟩
  obtain ⟨cs, k1, k2, z⟩ := zy_scene h x y
  have hm : ∀ (F : zz_F) (J : Nat → Nat → Int64), zz_run 300 237 0 (zz_ent (zz_ml 237) [.ref 52, .int x, .int y]) [] (zz_S F I J) (some (.int (zv_X12_scene I x y))) (zz_S F (zw_X12_scene I x y) J) := fun F J => zr_X12_scene F I J 298 x y k1 k2
  obtain ⟨p0, p1, -⟩ := zg_kp (hm F J)
  rcases cs with ⟨hT, e1⟩ | ⟨hT, e0, ev⟩
  · refine ⟨(F.1 + 1, F.2.1 + 6, F.2.2), zw_X12_scene I x y, J, n, zi_b z, p0, p1, rfl, Nat.le_refl _, Nat.add_le_add_left (by decide) _, fun o S' hc => ?_⟩
    refine zg_stp hall (show zz_blk 314 304 = some _ from rfl) ?_
    refine And.intro (Or.inr rfl) (And.intro v1 (And.intro (Or.inr rfl) (And.intro v2 ?_)))
    refine zz_Qo zg_4 ?_
    show zz_sim l E 301 314 318 (zg_lv i) [.ref 83, .int (I 1 (i + 2).toNatClampNeg), .int (I 1 (i + 1).toNatClampNeg), .ref 2] (zz_S F I J) o S'
    rw [hx, hy]
    exact zx_lawS (d := 300) (j := 315) (b := 4) (hh9 := [(0, 10, 13, 13)]) (by decide) zx_h_scene zx_l_scene zx_s_scene zx_i_law ⟨by decide, by decide, by decide⟩ zd_314_scene (st := [.ref 83, .int y, .int x, .ref 2]) (S := zz_S F I J) (S1 := zx_b (zz_S F I J)) (v := some (.int 1)) (Nat.le_of_ble_eq_true rfl) (Nat.le_of_ble_eq_true rfl) (zx_mnb _) (zx_L315 (d := 299) hall (Qc := fun _ _ _ _ => False) (fun _ _ _ _ w => w) (zx_scene (d := 298) hall hl hT (by decide) _)) (zg_a_scene (F := (F.1 + 1, F.2.1 + 6, F.2.2)) (I := I) (J := J) hall (k := 1) v1 v2 hx hy (hm (F.1 + 1, F.2.1 + 6, F.2.2) J) e1 (fun c => absurd c (by decide)) hc)
  · have a1 : ¬ zv_X9_has I x = 0 := fun w => hT (.inl w)
    have a2 : ¬ y < 0 := fun w => hT (.inr (.inl w))
    have a3 : y ≤ 7 := Classical.not_not.mp (fun w => hT (.inr (.inr w)))
    have run := zr_X11_scene F I J 298 x y a1 a2 a3
    refine ⟨F, zw_X12_scene I x y, zz_u J 83 0 (zc_scene I x y).toInt64, n, zi_83 z _, p0, p1, rfl, by omega, by omega, fun o S' hc => ?_⟩
    refine zg_stp hall (show zz_blk 314 304 = some _ from rfl) ?_
    refine And.intro (Or.inr rfl) (And.intro v1 (And.intro (Or.inr rfl) (And.intro v2 ?_)))
    refine zz_Qo zg_4 ?_
    show zz_sim l E 301 314 318 (zg_lv i) [.ref 83, .int (I 1 (i + 2).toNatClampNeg), .int (I 1 (i + 1).toNatClampNeg), .ref 2] (zz_S F I J) o S'
    rw [hx, hy]
    exact zx_lawS (d := 300) (j := 315) (b := 4) (hh9 := [(0, 10, 13, 13)]) (by decide) zx_h_scene zx_l_scene zx_s_scene zx_i_law ⟨by decide, by decide, by decide⟩ zd_314_scene (st := [.ref 83, .int y, .int x, .ref 2]) (S := zz_S F I J) (S1 := zz_S F I (zz_u J 83 0 (zc_scene I x y).toInt64)) (v := some (.int 0)) (Nat.le_of_ble_eq_true rfl) (Nat.le_of_ble_eq_true rfl) ⟨Nat.le_refl _, Nat.le_refl _⟩ (zx_metN (by decide) _ (Nat.le_of_ble_eq_true rfl) (zz_sound hall (zr_L_scene F I J 299 x y (zc_scene I x y) run))) (zg_a_scene (F := F) (I := I) (J := zz_u J 83 0 (zc_scene I x y).toInt64) hall (k := 0) v1 v2 hx hy (hm F _) e0 (fun _ => by rw [ev]; exact zz_us _ _ _ _) hc)
set_option maxHeartbeats 4000000 in
theorem zg_D_play (hall : ∀ j, ∃ hs, zz_okM hs (zz_M j) = true) (hl : l.stackTraces = false) {N n : Nat} (hN : 200000 ≤ N) {i : Int32} {F : zz_F} {I : Nat → Nat → Int32} {J : Nat → Nat → Int64} (h : zi n I J F) (v1 : vp_in (i + 1) F.2.2.2.2.1) (v2 : vp_in (i + 2) F.2.2.2.2.1) : zg_D l E 372 i F I J := by
  obtain ⟨x, hx⟩ : ∃ x, I 1 (i + 1).toNatClampNeg = x := ⟨_, rfl⟩
  obtain ⟨y, hy⟩ : ∃ y, I 1 (i + 2).toNatClampNeg = y := ⟨_, rfl⟩
  have zl : zi n (zw_X12_lost (zz_u I 52 7 0)) J F := zi_told h (zk_u rfl (zk_u rfl (zk_refl I))) (zc_tol h.2.2.2.1 rfl rfl rfl rfl) h.2.2.2.2.2.2.2.2
  have l0 : ∀ a, a ≠ 52 → zw_X12_lost (zz_u I 52 7 0) a = I a := fun a ha => by
    show zz_u (zz_u I 52 7 0) 52 7 1 a = _
    rw [zu_ux ha, zu_ux ha]
  rcases zy_play (N := N) (by omega) h x y with ⟨hT, rf⟩ | ⟨p, w, hp, hw, rfl, rfl, ip, e1, e2, rf⟩
  · have hm : ∀ (F : zz_F) (J : Nat → Nat → Int64), zz_run 300 238 0 (zz_ent (zz_ml 238) [.ref 52, .int x, .int y]) [] (zz_S F I J) (some (.int (zv_X12_lost (zz_u I 52 7 0)))) (zz_S F (zw_X12_lost (zz_u I 52 7 0)) J) := fun F J => zr_X12_play (F := F) (I := I) (J := J) (d := 297) (N := N) (r := (zv_X12_lost (zz_u I 52 7 0), zw_X12_lost (zz_u I 52 7 0), J)) (h := rf J)
    refine ⟨(F.1 + 1, F.2.1 + 6, F.2.2), zw_X12_lost (zz_u I 52 7 0), J, n, zi_b zl, l0 0 (by omega), l0 1 (by omega), rfl, Nat.le_refl _, Nat.add_le_add_left (by decide) _, fun o S' hc => ?_⟩
    refine zg_stp hall (show zz_blk 314 372 = some _ from rfl) ?_
    refine And.intro (Or.inr rfl) (And.intro v1 (And.intro (Or.inr rfl) (And.intro v2 ?_)))
    refine zz_Qo zg_4 ?_
    show zz_sim l E 301 314 386 (zg_lv i) [.ref 83, .int (I 1 (i + 2).toNatClampNeg), .int (I 1 (i + 1).toNatClampNeg), .ref 2] (zz_S F I J) o S'
    rw [hx, hy]
    exact zx_lawS (d := 300) (j := 316) (b := 4) (hh9 := [(0, 10, 13, 13)]) (by decide) zx_h_play zx_l_play zx_s_play zx_i_law ⟨by decide, by decide, by decide⟩ zd_314_play (st := [.ref 83, .int y, .int x, .ref 2]) (S := zz_S F I J) (S1 := zx_b (zz_S F I J)) (v := some (.int 1)) (Nat.le_of_ble_eq_true rfl) (Nat.le_of_ble_eq_true rfl) (zx_mnb _) (zx_L316 (d := 299) hall (Qc := fun _ _ _ _ => False) (fun _ _ _ _ w => w) (zx_play (d := 298) hall hl hT (by decide) _)) (zg_a_play (F := (F.1 + 1, F.2.1 + 6, F.2.2)) (I := I) (J := J) hall (k := 1) v1 v2 hx hy (hm (F.1 + 1, F.2.1 + 6, F.2.2) J) (zz_us _ _ _ _) (fun c => absurd c (by decide)) hc)
  · have hm : ∀ (F : zz_F) (J : Nat → Nat → Int64), zz_run 300 238 0 (zz_ent (zz_ml 238) [.ref 52, .int (nI p), .int (nI w)]) [] (zz_S F I J) (some (.int (zc_play n I p w))) (zz_S F (zz_u I 52 7 0) J) := fun F J => zr_X12_play (F := F) (I := I) (J := J) (d := 297) (N := N) (r := (zc_play n I p w, zz_u I 52 7 0, J)) (h := rf J)
    have run : zz_run 299 139 0 (zz_ent (zz_ml 139) [.ref 2, .int (nI p), .int (nI w)]) [] (zz_S F I J) (some (.int (zc_play n I p w))) (zz_S F I J) := zr_X11_play F I J 297 N n p w hw ip e1 e2
    refine ⟨F, zz_u I 52 7 0, zz_u J 83 0 (zc_play n I p w).toInt64, n, zi_83 (zi_q0 h) _, zu_ux (by omega), zu_ux (by omega), rfl, by omega, by omega, fun o S' hc => ?_⟩
    refine zg_stp hall (show zz_blk 314 372 = some _ from rfl) ?_
    refine And.intro (Or.inr rfl) (And.intro v1 (And.intro (Or.inr rfl) (And.intro v2 ?_)))
    refine zz_Qo zg_4 ?_
    show zz_sim l E 301 314 386 (zg_lv i) [.ref 83, .int (I 1 (i + 2).toNatClampNeg), .int (I 1 (i + 1).toNatClampNeg), .ref 2] (zz_S F I J) o S'
    rw [hx, hy]
    exact zx_lawS (d := 300) (j := 316) (b := 4) (hh9 := [(0, 10, 13, 13)]) (by decide) zx_h_play zx_l_play zx_s_play zx_i_law ⟨by decide, by decide, by decide⟩ zd_314_play (st := [.ref 83, .int (nI w), .int (nI p), .ref 2]) (S := zz_S F I J) (S1 := zz_S F I (zz_u J 83 0 (zc_play n I p w).toInt64)) (v := some (.int 0)) (Nat.le_of_ble_eq_true rfl) (Nat.le_of_ble_eq_true rfl) ⟨Nat.le_refl _, Nat.le_refl _⟩ (zx_metN (by decide) _ (Nat.le_of_ble_eq_true rfl) (zz_sound hall (zr_L_play F I J 299 (nI p) (nI w) (zc_play n I p w) run))) (zg_a_play (F := F) (I := I) (J := zz_u J 83 0 (zc_play n I p w).toInt64) hall (k := 0) v1 v2 hx hy (hm F _) (zz_us _ _ _ _) (fun _ => zz_us _ _ _ _) hc)
set_option maxHeartbeats 4000000 in
theorem zg_D_row (hall : ∀ j, ∃ hs, zz_okM hs (zz_M j) = true) (hl : l.stackTraces = false) {n : Nat} {i : Int32} {F : zz_F} {I : Nat → Nat → Int32} {J : Nat → Nat → Int64} (h : zi n I J F) (v1 : vp_in (i + 1) F.2.2.2.2.1) : zg_D l E 1293 i F I J := by
  obtain ⟨x, hx⟩ : ∃ x, I 1 (i + 1).toNatClampNeg = x := ⟨_, rfl⟩
  obtain ⟨cs, k1, z⟩ := zy_row h x
  have hm : ∀ (F : zz_F) (J' : Nat → Nat → Int64), zz_run 300 305 0 (zz_ent (zz_ml 305) [.ref 52, .int x]) [] (zz_S F I J') (some (.long (zv_X12_row I J' x))) (zz_S F (zw_X12_row I J' x) J') := fun F J' => zr_X12_row F I J' 299 x k1
  obtain ⟨p0, p1, -⟩ := zg_kp (hm F J)
  rcases cs with ⟨hT, e1⟩ | ⟨hT, h12, e0, ev⟩
  · refine ⟨(F.1 + 1, F.2.1 + 6, F.2.2), zw_X12_row I J x, J, n, zi_b z, p0, p1, rfl, Nat.le_refl _, Nat.add_le_add_left (by decide) _, fun o S' hc => ?_⟩
    refine zg_stp hall (show zz_blk 314 1293 = some _ from rfl) ?_
    refine And.intro (Or.inr rfl) (And.intro v1 ?_)
    refine zz_Qo zg_4 ?_
    show zz_sim l E 301 314 1301 (zg_lv i) [.ref 83, .int (I 1 (i + 1).toNatClampNeg), .ref 2] (zz_S F I J) o S'
    rw [hx]
    exact zx_lawS (d := 300) (j := 317) (b := 3) (hh9 := [(0, 8, 11, 13)]) (by decide) zx_h_row zx_l_row zx_s_row zx_i_law ⟨by decide, by decide, by decide⟩ zd_314_row (st := [.ref 83, .int x, .ref 2]) (S := zz_S F I J) (S1 := zx_b (zz_S F I J)) (v := some (.int 1)) (Nat.le_of_ble_eq_true rfl) (Nat.le_of_ble_eq_true rfl) (zx_mnb _) (zx_L317 (d := 299) hall (Qc := fun _ _ _ _ => False) (fun _ _ _ _ w => w) (zx_row (d := 299) hl hT (by decide) _)) (zg_a_row (F := (F.1 + 1, F.2.1 + 6, F.2.2)) (I := I) (J := J) hall (k := 1) v1 hx (hm (F.1 + 1, F.2.1 + 6, F.2.2) J) e1 (fun c => absurd c (by decide)) hc)
  · have a1 : ¬ x < 0 := fun w => hT (.inl w)
    have a2 : ¬ I 2 3 ≤ x := fun w => hT (.inr w)
    have run := zr_X11_row F I J 299 x a1 a2 h12
    have e56 : zz_u J 83 0 (zc_row J x) 56 = J 56 := zu_ux (by omega)
    have ew : zw_X12_row I (zz_u J 83 0 (zc_row J x)) x = zw_X12_row I J x := rfl
    have ev2 : zv_X12_row I (zz_u J 83 0 (zc_row J x)) x = zc_row J x := by
      refine Eq.trans ?_ ev
      unfold zv_X12_row
      rw [e56]
    refine ⟨F, zw_X12_row I J x, zz_u J 83 0 (zc_row J x), n, zi_83 z _, p0, p1, rfl, by omega, by omega, fun o S' hc => ?_⟩
    refine zg_stp hall (show zz_blk 314 1293 = some _ from rfl) ?_
    refine And.intro (Or.inr rfl) (And.intro v1 ?_)
    refine zz_Qo zg_4 ?_
    show zz_sim l E 301 314 1301 (zg_lv i) [.ref 83, .int (I 1 (i + 1).toNatClampNeg), .ref 2] (zz_S F I J) o S'
    rw [hx]
    exact zx_lawS (d := 300) (j := 317) (b := 3) (hh9 := [(0, 8, 11, 13)]) (by decide) zx_h_row zx_l_row zx_s_row zx_i_law ⟨by decide, by decide, by decide⟩ zd_314_row (st := [.ref 83, .int x, .ref 2]) (S := zz_S F I J) (S1 := zz_S F I (zz_u J 83 0 (zc_row J x))) (v := some (.int 0)) (Nat.le_of_ble_eq_true rfl) (Nat.le_of_ble_eq_true rfl) ⟨Nat.le_refl _, Nat.le_refl _⟩ (zx_metN (by decide) _ (Nat.le_of_ble_eq_true rfl) (zz_sound hall (zr_L_row F I J 299 x (zc_row J x) run))) (zg_a_row (F := F) (I := I) (J := zz_u J 83 0 (zc_row J x)) hall (k := 0) v1 hx (hm F (zz_u J 83 0 (zc_row J x))) e0 (fun _ => by rw [ev2]; exact zz_us _ _ _ _) hc)
set_option maxHeartbeats 4000000 in
theorem zg_D_sheet (hall : ∀ j, ∃ hs, zz_okM hs (zz_M j) = true) {i : Int32} {F : zz_F} {I : Nat → Nat → Int32} {J : Nat → Nat → Int64} (v1 : vp_in (i + 1) F.2.2.2.2.1) (v2 : vp_in (i + 2) F.2.2.2.2.1) (v3 : vp_in (i + 3) F.2.2.2.2.1) (v4 : vp_in (i + 4) F.2.2.2.2.1) (h : ∀ a b c d, zg_C 140 239 [.int a, .int b, .int c, .int d] F I J) : zg_D l E 440 i F I J := by
  obtain ⟨v, F1, I1, J1, F2, I2, J2, n2, q1, q2, z, b1, b2⟩ := h (I 1 (i + 1).toNatClampNeg) (I 1 (i + 2).toNatClampNeg) (I 1 (i + 3).toNatClampNeg) (I 1 (i + 4).toNatClampNeg)
  obtain ⟨a0, a1, a2⟩ := zg_kp q1
  obtain ⟨c0, c1, c2⟩ := zg_kp q2
  refine ⟨F2, I2, J2, n2, z, c0.trans a0, c1.trans a1, c2.trans a2, b1, b2, fun o S' hc => ?_⟩
  refine zg_stp hall (show zz_blk 314 440 = some _ from rfl) ?_
  refine And.intro (Or.inr rfl) (And.intro v1 (And.intro (Or.inr rfl) (And.intro v2 (And.intro (Or.inr rfl) (And.intro v3 (And.intro (Or.inr rfl) (And.intro v4 ?_)))))))
  refine And.intro rfl (And.intro (Nat.le_of_ble_eq_true rfl) (And.intro (Nat.le_of_ble_eq_true rfl) (And.intro (Nat.le_of_ble_eq_true rfl) (Exists.intro _ (Exists.intro _ (And.intro (zz_Qo (And.intro (by decide) (by decide)) (zz_sound hall q1)) ?_))))))
  refine And.intro (Or.inr rfl) (And.intro (show vp_in (i + 1) F1.2.2.2.2.1 by rw [a2]; exact v1) (And.intro (Or.inr rfl) (And.intro (show vp_in (i + 2) F1.2.2.2.2.1 by rw [a2]; exact v2) (And.intro (Or.inr rfl) (And.intro (show vp_in (i + 3) F1.2.2.2.2.1 by rw [a2]; exact v3) (And.intro (Or.inr rfl) (And.intro (show vp_in (i + 4) F1.2.2.2.2.1 by rw [a2]; exact v4) ?_)))))))
  rw [← a1] at q2
  refine And.intro rfl (And.intro (Nat.le_of_ble_eq_true rfl) (And.intro (Nat.le_of_ble_eq_true rfl) (And.intro (Nat.le_of_ble_eq_true rfl) (Exists.intro _ (Exists.intro _ (And.intro (zz_Qo (And.intro (by decide) (by decide)) (zz_sound hall q2)) ?_))))))
  exact And.intro (fun _ => zz_Qo zg_4 hc) (fun c => absurd rfl c)
end LWD
