/-! THE LAW'S BODY: over what is sound, two calls and a comparison -/
section LWB
variable {l : Launch} {E : zz_E}
theorem zg_stp (hall : ∀ j, ∃ hs, zz_okM hs (zz_M j) = true) {d j pc : Nat} {lv : zz_Lv} {st : List Value} {S : zz_P} {o : Option Value} {S' : zz_P} {e : Nat} {is : List zz_i} (hb : zz_blk j pc = some (e, is)) (h : zz_go (zz_Q l E) d j o S' e is lv st S) (hj : zz_nm j := by refine And.intro ?_ ?_ <;> decide) : zz_sim l E d j pc lv st S o S' := zz_Qs hj ((zz_Q_cls hall).1 d j pc lv st S o S' e is hb h)
theorem zg_4 : zz_nm 314 := ⟨by decide, by decide⟩
def zg_lv (i : Int32) : zz_Lv := [some (.ref 1), some (.ref 2), some (.ref 52), some (.ref 83), some (.int i), none, none, none]
/-- what a call wants: its locals' room -/
theorem zg_two0 (hall : ∀ j, ∃ hs, zz_okM hs (zz_M j) = true) {pc e p0 p1 p2 p3 p4 p5 p6 ix im jx jm tg : Nat} {off : Int} (hb : zz_blk 314 pc = some (e, [(p0, .aload_n 1, 0, 0, 0), (p1, .invokevirtual ix, jx, 1, 10), (p2, .aload_n 2, 0, 0, 0), (p3, .invokevirtual im, jm, 1, 11), (p4, .if_icmp .eq off, 0, 0, 0), (p5, .iconst 0, 0, 0, 0), (p6, .ireturn, 0, 0, 0)])) (ht : zz_t p4 off = tg)
    {i : Int32} {S S1 S2 : zz_P} {o : Option Value} {S' : zz_P} {v : Int32} (k2 : zz_K S 2 = 10) (k52 : zz_K S1 52 = 11) (mx : 1 ≤ zz_ml jx) (mm : 1 ≤ zz_ml jm) (nx : zz_nm jx) (nm : zz_nm jm)
    (hx : zz_sim l E 300 jx 0 (zz_ent (zz_ml jx) [.ref 2]) [] S (some (.int v)) S1) (hm : zz_sim l E 300 jm 0 (zz_ent (zz_ml jm) [.ref 52]) [] S1 (some (.int v)) S2)
    (hc : zz_sim l E 301 314 tg (zg_lv i) [] S2 o S') : zz_sim l E 301 314 pc (zg_lv i) [] S o S' := by
  subst ht
  refine zg_stp hall hb ?_
  refine And.intro k2 (And.intro (Nat.le_of_ble_eq_true rfl) (And.intro mx (And.intro (Nat.le_of_ble_eq_true rfl) (Exists.intro _ (Exists.intro _ (And.intro (zz_Qo nx hx) ?_))))))
  refine And.intro k52 (And.intro (Nat.le_of_ble_eq_true rfl) (And.intro mm (And.intro (Nat.le_of_ble_eq_true rfl) (Exists.intro _ (Exists.intro _ (And.intro (zz_Qo nm hm) ?_))))))
  exact And.intro (fun _ => zz_Qo zg_4 hc) (fun c => absurd rfl c)
theorem zg_two1 (hall : ∀ j, ∃ hs, zz_okM hs (zz_M j) = true) {pc e p0 p1 p2 p3 p4 p5 p6 p7 p8 p9 q1 q2 q3 q4 q5 q6 q7 ix im jx jm tg : Nat} {off : Int} (hb : zz_blk 314 pc = some (e, [(p0, .aload_n 1, 0, 0, 0), (p1, .aload_n 0, 0, 0, 0), (p2, .iload 4, 0, 0, 0), (p3, .iconst 1, 0, 0, 0), (p4, .iadd, 0, 0, 0), (p5, .iaload, 0, 0, 0), (p6, .invokevirtual ix, jx, 2, 10), (p7, .aload_n 2, 0, 0, 0), (p8, .aload_n 0, 0, 0, 0), (p9, .iload 4, 0, 0, 0), (q1, .iconst 1, 0, 0, 0), (q2, .iadd, 0, 0, 0), (q3, .iaload, 0, 0, 0), (q4, .invokevirtual im, jm, 2, 11), (q5, .if_icmp .eq off, 0, 0, 0), (q6, .iconst 0, 0, 0, 0), (q7, .ireturn, 0, 0, 0)])) (ht : zz_t q5 off = tg)
    {i x : Int32} {S S1 S2 : zz_P} {o : Option Value} {S' : zz_P} {v : Int32} (k2 : zz_K S 2 = 10) (k52 : zz_K S1 52 = 11) (k1 : zz_K S 1 = 18) (k1' : zz_K S1 1 = 18) (v1 : vp_in (i + 1) (zz_L S 1)) (v1' : vp_in (i + 1) (zz_L S1 1)) (x1 : zz_I S 1 (i + 1).toNatClampNeg = x) (x1' : zz_I S1 1 (i + 1).toNatClampNeg = x) (mx : 2 ≤ zz_ml jx) (mm : 2 ≤ zz_ml jm) (nx : zz_nm jx) (nm : zz_nm jm)
    (hx : zz_sim l E 300 jx 0 (zz_ent (zz_ml jx) [.ref 2, .int x]) [] S (some (.int v)) S1) (hm : zz_sim l E 300 jm 0 (zz_ent (zz_ml jm) [.ref 52, .int x]) [] S1 (some (.int v)) S2)
    (hc : zz_sim l E 301 314 tg (zg_lv i) [] S2 o S') : zz_sim l E 301 314 pc (zg_lv i) [] S o S' := by
  subst ht
  subst x1
  rw [← x1'] at hm
  refine zg_stp hall hb ?_
  refine And.intro (Or.inr k1) (And.intro v1 ?_)
  refine And.intro k2 (And.intro (Nat.le_of_ble_eq_true rfl) (And.intro mx (And.intro (Nat.le_of_ble_eq_true rfl) (Exists.intro _ (Exists.intro _ (And.intro (zz_Qo nx hx) ?_))))))
  refine And.intro (Or.inr k1') (And.intro v1' ?_)
  refine And.intro k52 (And.intro (Nat.le_of_ble_eq_true rfl) (And.intro mm (And.intro (Nat.le_of_ble_eq_true rfl) (Exists.intro _ (Exists.intro _ (And.intro (zz_Qo nm hm) ?_))))))
  exact And.intro (fun _ => zz_Qo zg_4 hc) (fun c => absurd rfl c)
theorem zg_two2 (hall : ∀ j, ∃ hs, zz_okM hs (zz_M j) = true) {pc e p0 p1 p2 p3 p4 p5 p6 p7 p8 p9 q0 q1 q2 q3 q4 q5 q6 q7 q8 q9 r0 r1 r2 r3 r4 r5 r6 ix im jx jm tg : Nat} {off : Int} (hb : zz_blk 314 pc = some (e, [(p0, .aload_n 1, 0, 0, 0), (p1, .aload_n 0, 0, 0, 0), (p2, .iload 4, 0, 0, 0), (p3, .iconst 1, 0, 0, 0), (p4, .iadd, 0, 0, 0), (p5, .iaload, 0, 0, 0), (p6, .aload_n 0, 0, 0, 0), (p7, .iload 4, 0, 0, 0), (p8, .iconst 2, 0, 0, 0), (p9, .iadd, 0, 0, 0), (q0, .iaload, 0, 0, 0), (q1, .invokevirtual ix, jx, 3, 10), (q2, .aload_n 2, 0, 0, 0), (q3, .aload_n 0, 0, 0, 0), (q4, .iload 4, 0, 0, 0), (q5, .iconst 1, 0, 0, 0), (q6, .iadd, 0, 0, 0), (q7, .iaload, 0, 0, 0), (q8, .aload_n 0, 0, 0, 0), (q9, .iload 4, 0, 0, 0), (r0, .iconst 2, 0, 0, 0), (r1, .iadd, 0, 0, 0), (r2, .iaload, 0, 0, 0), (r3, .invokevirtual im, jm, 3, 11), (r4, .if_icmp .eq off, 0, 0, 0), (r5, .iconst 0, 0, 0, 0), (r6, .ireturn, 0, 0, 0)])) (ht : zz_t r4 off = tg)
    {i x y : Int32} {S S1 S2 : zz_P} {o : Option Value} {S' : zz_P} {v : Int32} (k2 : zz_K S 2 = 10) (k52 : zz_K S1 52 = 11) (k1 : zz_K S 1 = 18) (k1' : zz_K S1 1 = 18) (v1 : vp_in (i + 1) (zz_L S 1)) (v1' : vp_in (i + 1) (zz_L S1 1)) (v2 : vp_in (i + 2) (zz_L S 1)) (v2' : vp_in (i + 2) (zz_L S1 1)) (x1 : zz_I S 1 (i + 1).toNatClampNeg = x) (x1' : zz_I S1 1 (i + 1).toNatClampNeg = x) (x2 : zz_I S 1 (i + 2).toNatClampNeg = y) (x2' : zz_I S1 1 (i + 2).toNatClampNeg = y) (mx : 3 ≤ zz_ml jx) (mm : 3 ≤ zz_ml jm) (nx : zz_nm jx) (nm : zz_nm jm)
    (hx : zz_sim l E 300 jx 0 (zz_ent (zz_ml jx) [.ref 2, .int x, .int y]) [] S (some (.int v)) S1) (hm : zz_sim l E 300 jm 0 (zz_ent (zz_ml jm) [.ref 52, .int x, .int y]) [] S1 (some (.int v)) S2)
    (hc : zz_sim l E 301 314 tg (zg_lv i) [] S2 o S') : zz_sim l E 301 314 pc (zg_lv i) [] S o S' := by
  subst ht
  subst x1 x2
  rw [← x1', ← x2'] at hm
  refine zg_stp hall hb ?_
  refine And.intro (Or.inr k1) (And.intro v1 (And.intro (Or.inr k1) (And.intro v2 ?_)))
  refine And.intro k2 (And.intro (Nat.le_of_ble_eq_true rfl) (And.intro mx (And.intro (Nat.le_of_ble_eq_true rfl) (Exists.intro _ (Exists.intro _ (And.intro (zz_Qo nx hx) ?_))))))
  refine And.intro (Or.inr k1') (And.intro v1' (And.intro (Or.inr k1') (And.intro v2' ?_)))
  refine And.intro k52 (And.intro (Nat.le_of_ble_eq_true rfl) (And.intro mm (And.intro (Nat.le_of_ble_eq_true rfl) (Exists.intro _ (Exists.intro _ (And.intro (zz_Qo nm hm) ?_))))))
  exact And.intro (fun _ => zz_Qo zg_4 hc) (fun c => absurd rfl c)
end LWB
