/-! THE LAW'S BODY: each of its cases -/
section LWC
variable {l : Launch} {E : zz_E}
/-- what a case gives: on behind the switch, with what holds between both -/
def zg_D (l : Launch) (E : zz_E) (pc : Nat) (i : Int32) (F : zz_F) (I : Nat → Nat → Int32) (J : Nat → Nat → Int64) : Prop := ∃ (F2 : zz_F) (I2 : Nat → Nat → Int32) (J2 : Nat → Nat → Int64) (n2 : Nat), zi n2 I2 J2 F2 ∧ I2 0 = I 0 ∧ I2 1 = I 1 ∧ F2.2.2.2.2.1 = F.2.2.2.2.1 ∧ F2.1 ≤ F.1 + 1 ∧ F2.2.1 ≤ F.2.1 + 8192 ∧ ∀ o S', zz_sim l E 301 314 1348 (zg_lv i) [] (zz_S F2 I2 J2) o S' → zz_sim l E 301 314 pc (zg_lv i) [] (zz_S F I J) o S'
theorem zg_kp {d j pc : Nat} {lv : zz_Lv} {st : List Value} {F F2 : zz_F} {I I2 : Nat → Nat → Int32} {J J2 : Nat → Nat → Int64} {o : Option Value} (h : zz_run d j pc lv st (zz_S F I J) o (zz_S F2 I2 J2)) : I2 0 = I 0 ∧ I2 1 = I 1 ∧ F2.2.2.2.2.1 = F.2.2.2.2.1 := by
  obtain ⟨-, -, a, b, c⟩ := (zz_run_kq h).1 rfl rfl
  exact ⟨a, b, c⟩
theorem zg_d0 (hall : ∀ j, ∃ hs, zz_okM hs (zz_M j) = true) {pc e p0 p1 p2 p3 p4 p5 p6 ix im jx jm : Nat} {off : Int} (hb : zz_blk 314 pc = some (e, [(p0, .aload_n 1, 0, 0, 0), (p1, .invokevirtual ix, jx, 1, 10), (p2, .aload_n 2, 0, 0, 0), (p3, .invokevirtual im, jm, 1, 11), (p4, .if_icmp .eq off, 0, 0, 0), (p5, .iconst 0, 0, 0, 0), (p6, .ireturn, 0, 0, 0)])) (ht : zz_t p4 off = 1348) (mx : 1 ≤ zz_ml jx) (mm : 1 ≤ zz_ml jm) (nx : zz_nm jx) (nm : zz_nm jm)
    {i : Int32} {F : zz_F} {I : Nat → Nat → Int32} {J : Nat → Nat → Int64} (h : zg_C jx jm [] F I J) : zg_D l E pc i F I J := by
  obtain ⟨v, F1, I1, J1, F2, I2, J2, n2, q1, q2, z, b1, b2⟩ := h
  obtain ⟨a0, a1, a2⟩ := zg_kp q1
  obtain ⟨c0, c1, c2⟩ := zg_kp q2
  exact ⟨F2, I2, J2, n2, z, c0.trans a0, c1.trans a1, c2.trans a2, b1, b2, fun o S' hc => zg_two0 (S := zz_S F I J) (S1 := zz_S F1 I1 J1) (S2 := zz_S F2 I2 J2) hall hb ht rfl rfl mx mm nx nm (zz_sound hall q1 nx) (zz_sound hall q2 nm) hc⟩
theorem zg_d1 (hall : ∀ j, ∃ hs, zz_okM hs (zz_M j) = true) {pc e p0 p1 p2 p3 p4 p5 p6 p7 p8 p9 q1 q2 q3 q4 q5 q6 q7 ix im jx jm : Nat} {off : Int} (hb : zz_blk 314 pc = some (e, [(p0, .aload_n 1, 0, 0, 0), (p1, .aload_n 0, 0, 0, 0), (p2, .iload 4, 0, 0, 0), (p3, .iconst 1, 0, 0, 0), (p4, .iadd, 0, 0, 0), (p5, .iaload, 0, 0, 0), (p6, .invokevirtual ix, jx, 2, 10), (p7, .aload_n 2, 0, 0, 0), (p8, .aload_n 0, 0, 0, 0), (p9, .iload 4, 0, 0, 0), (q1, .iconst 1, 0, 0, 0), (q2, .iadd, 0, 0, 0), (q3, .iaload, 0, 0, 0), (q4, .invokevirtual im, jm, 2, 11), (q5, .if_icmp .eq off, 0, 0, 0), (q6, .iconst 0, 0, 0, 0), (q7, .ireturn, 0, 0, 0)])) (ht : zz_t q5 off = 1348) (mx : 2 ≤ zz_ml jx) (mm : 2 ≤ zz_ml jm) (nx : zz_nm jx) (nm : zz_nm jm)
    {i : Int32} {F : zz_F} {I : Nat → Nat → Int32} {J : Nat → Nat → Int64} (v1 : vp_in (i + 1) F.2.2.2.2.1) (h : ∀ x, zg_C jx jm [.int x] F I J) : zg_D l E pc i F I J := by
  obtain ⟨v, F1, I1, J1, F2, I2, J2, n2, q1, q2, z, b1, b2⟩ := h (I 1 (i + 1).toNatClampNeg)
  obtain ⟨a0, a1, a2⟩ := zg_kp q1
  obtain ⟨c0, c1, c2⟩ := zg_kp q2
  exact ⟨F2, I2, J2, n2, z, c0.trans a0, c1.trans a1, c2.trans a2, b1, b2, fun o S' hc => zg_two1 (S := zz_S F I J) (S1 := zz_S F1 I1 J1) (S2 := zz_S F2 I2 J2) hall hb ht (x := I 1 (i + 1).toNatClampNeg) rfl rfl rfl rfl v1 (show vp_in (i + 1) F1.2.2.2.2.1 by rw [a2]; exact v1) rfl (congrFun a1 _) mx mm nx nm (zz_sound hall q1 nx) (zz_sound hall q2 nm) hc⟩
theorem zg_d2 (hall : ∀ j, ∃ hs, zz_okM hs (zz_M j) = true) {pc e p0 p1 p2 p3 p4 p5 p6 p7 p8 p9 q0 q1 q2 q3 q4 q5 q6 q7 q8 q9 r0 r1 r2 r3 r4 r5 r6 ix im jx jm : Nat} {off : Int} (hb : zz_blk 314 pc = some (e, [(p0, .aload_n 1, 0, 0, 0), (p1, .aload_n 0, 0, 0, 0), (p2, .iload 4, 0, 0, 0), (p3, .iconst 1, 0, 0, 0), (p4, .iadd, 0, 0, 0), (p5, .iaload, 0, 0, 0), (p6, .aload_n 0, 0, 0, 0), (p7, .iload 4, 0, 0, 0), (p8, .iconst 2, 0, 0, 0), (p9, .iadd, 0, 0, 0), (q0, .iaload, 0, 0, 0), (q1, .invokevirtual ix, jx, 3, 10), (q2, .aload_n 2, 0, 0, 0), (q3, .aload_n 0, 0, 0, 0), (q4, .iload 4, 0, 0, 0), (q5, .iconst 1, 0, 0, 0), (q6, .iadd, 0, 0, 0), (q7, .iaload, 0, 0, 0), (q8, .aload_n 0, 0, 0, 0), (q9, .iload 4, 0, 0, 0), (r0, .iconst 2, 0, 0, 0), (r1, .iadd, 0, 0, 0), (r2, .iaload, 0, 0, 0), (r3, .invokevirtual im, jm, 3, 11), (r4, .if_icmp .eq off, 0, 0, 0), (r5, .iconst 0, 0, 0, 0), (r6, .ireturn, 0, 0, 0)])) (ht : zz_t r4 off = 1348) (mx : 3 ≤ zz_ml jx) (mm : 3 ≤ zz_ml jm) (nx : zz_nm jx) (nm : zz_nm jm)
    {i : Int32} {F : zz_F} {I : Nat → Nat → Int32} {J : Nat → Nat → Int64} (v1 : vp_in (i + 1) F.2.2.2.2.1) (v2 : vp_in (i + 2) F.2.2.2.2.1) (h : ∀ x y, zg_C jx jm [.int x, .int y] F I J) : zg_D l E pc i F I J := by
  obtain ⟨v, F1, I1, J1, F2, I2, J2, n2, q1, q2, z, b1, b2⟩ := h (I 1 (i + 1).toNatClampNeg) (I 1 (i + 2).toNatClampNeg)
  obtain ⟨a0, a1, a2⟩ := zg_kp q1
  obtain ⟨c0, c1, c2⟩ := zg_kp q2
  exact ⟨F2, I2, J2, n2, z, c0.trans a0, c1.trans a1, c2.trans a2, b1, b2, fun o S' hc => zg_two2 (S := zz_S F I J) (S1 := zz_S F1 I1 J1) (S2 := zz_S F2 I2 J2) hall hb ht (x := I 1 (i + 1).toNatClampNeg) (y := I 1 (i + 2).toNatClampNeg) rfl rfl rfl rfl v1 (show vp_in (i + 1) F1.2.2.2.2.1 by rw [a2]; exact v1) v2 (show vp_in (i + 2) F1.2.2.2.2.1 by rw [a2]; exact v2) rfl (congrFun a1 _) rfl (congrFun a1 _) mx mm nx nm (zz_sound hall q1 nx) (zz_sound hall q2 nm) hc⟩
end LWC
