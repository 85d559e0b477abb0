/-! EACH CALL OF THE LAW: both runs -/
def zg_C (jx jm : Nat) (as : List Value) (F : zz_F) (I : Nat → Nat → Int32) (J : Nat → Nat → Int64) : Prop := ∃ (v : Int32) (F1 : zz_F) (I1 : Nat → Nat → Int32) (J1 : Nat → Nat → Int64) (F2 : zz_F) (I2 : Nat → Nat → Int32) (J2 : Nat → Nat → Int64) (n2 : Nat), zz_run 300 jx 0 (zz_ent (zz_ml jx) (.ref 2 :: as)) [] (zz_S F I J) (some (.int v)) (zz_S F1 I1 J1) ∧ zz_run 300 jm 0 (zz_ent (zz_ml jm) (.ref 52 :: as)) [] (zz_S F1 I1 J1) (some (.int v)) (zz_S F2 I2 J2) ∧ zi n2 I2 J2 F2 ∧ F2.1 ≤ F.1 + 1 ∧ F2.2.1 ≤ F.2.1 + 8192
theorem zg_na {d j pc : Nat} {lv : zz_Lv} {st : List Value} {F F2 : zz_F} {I I2 : Nat → Nat → Int32} {J J2 : Nat → Nat → Int64} {o : Option Value} (h : zz_run d j pc lv st (zz_S F I J) o (zz_S F2 I2 J2)) (hn : zz_na j = true) : F2.1 ≤ F.1 + 1 ∧ F2.2.1 ≤ F.2.1 + 8192 := by
  obtain ⟨a, b⟩ := (zz_run_kq h).2 hn
  have a : F2.1 = F.1 := a
  have b : F2.2.1 = F.2.1 := b
  omega
theorem zg_c_sign {N n : Nat} (hN : 200000 ≤ N) {I : Nat → Nat → Int32} {J : Nat → Nat → Int64} {F : zz_F} (h : zi n I J F) (h0 : zi_pl I) (x0 : Int32) : zg_C 134 209 [.int x0] F I J := by
  obtain ⟨v, I1, I2, e1, e2, z⟩ := zj_sign (N := N) (by omega) h x0
  have q1 : zz_run 300 134 0 (zz_ent (zz_ml 134) [.ref 2, .int x0]) [] (zz_S F I J) (some (.int v)) (zz_S F I1 J) := zr_X11_sign (F := F) (I := I) (J := J) (d := 299) (N := N) (r := (v, I1, J)) (h := e1)
  have q2 : zz_run 300 209 0 (zz_ent (zz_ml 209) [.ref 52, .int x0]) [] (zz_S F I1 J) (some (.int v)) (zz_S F I2 J) := zr_X12_sign (F := F) (I := I1) (J := J) (d := 300) (N := N) (r := (v, I2, J)) (h := e2)
  exact ⟨v, F, I1, J, F, I2, J, n, q1, q2, z, by omega, by omega⟩
theorem zg_c_end {N n : Nat} (hN : 200000 ≤ N) {I : Nat → Nat → Int32} {J : Nat → Nat → Int64} {F : zz_F} (h : zi n I J F) (h0 : zi_pl I) (x0 : Int32) : zg_C 135 210 [.int x0] F I J := by
  obtain ⟨e, z⟩ := zy_end (N := N) (by omega) h x0
  refine ⟨zv_X11_end I x0, F, zw_X11_end I x0, J, F, _, J, n, zr_X11_end F I J 300 x0, ?_, z, by omega, by omega⟩
  rw [e]
  exact zr_X12_end F _ J 299 x0
theorem zg_c_scenes {N n : Nat} (hN : 200000 ≤ N) {I : Nat → Nat → Int32} {J : Nat → Nat → Int64} {F : zz_F} (h : zi n I J F) (h0 : zi_pl I) : zg_C 136 223 [] F I J := by
  obtain ⟨v, I1, I2, J2, F2, n2, e1, e2, z⟩ := zj_scenes (N := N) (by omega) h 
  have q1 : zz_run 300 136 0 (zz_ent (zz_ml 136) [.ref 2]) [] (zz_S F I J) (some (.int v)) (zz_S F I1 J) := zr_X11_scenes (F := F) (I := I) (J := J) (d := 295) (N := N) (r := (v, I1, J)) (h := e1)
  have q2 : zz_run 300 223 0 (zz_ent (zz_ml 223) [.ref 52]) [] (zz_S F I1 J) (some (.int v)) (zz_S F2 I2 J2) := zr_X12_scenes (F := F) (I := I1) (J := J) (d := 296) (N := N) (r := (v, I2, J2, F2)) (h := e2)
  exact ⟨v, F, I1, J, F2, I2, J2, n2, q1, q2, z, (zg_na q2 rfl).1, (zg_na q2 rfl).2⟩
theorem zg_c_rule {N n : Nat} (hN : 200000 ≤ N) {I : Nat → Nat → Int32} {J : Nat → Nat → Int64} {F : zz_F} (h : zi n I J F) (h0 : zi_pl I) : zg_C 137 230 [] F I J := by
  obtain ⟨v, I1, I2, J2, F2, e1, e2, z⟩ := zj_rule (N := N) (by omega) h h0 
  have q1 : zz_run 300 137 0 (zz_ent (zz_ml 137) [.ref 2]) [] (zz_S F I J) (some (.int v)) (zz_S F I1 J) := zr_X11_rule (F := F) (I := I) (J := J) (d := 294) (N := N) (r := (v, I1, J)) (h := e1)
  have q2 : zz_run 300 230 0 (zz_ent (zz_ml 230) [.ref 52]) [] (zz_S F I1 J) (some (.int v)) (zz_S F2 I2 J2) := zr_X12_rule (F := F) (I := I1) (J := J) (d := 231) (N := N) (r := (v, I2, J2, F2)) (h := e2)
  exact ⟨v, F, I1, J, F2, I2, J2, n, q1, q2, z, (zg_na q2 rfl).1, (zg_na q2 rfl).2⟩
theorem zg_c_sheet {N n : Nat} (hN : 200000 ≤ N) {I : Nat → Nat → Int32} {J : Nat → Nat → Int64} {F : zz_F} (h : zi n I J F) (h0 : zi_pl I) (x0 : Int32) (x1 : Int32) (x2 : Int32) (x3 : Int32) : zg_C 140 239 [.int x0, .int x1, .int x2, .int x3] F I J := by
  obtain ⟨v, I1, I2, e1, e2, z⟩ := zj_sheet (N := N) (by omega) h x0 x1 x2 x3
  have q1 : zz_run 300 140 0 (zz_ent (zz_ml 140) [.ref 2, .int x0, .int x1, .int x2, .int x3]) [] (zz_S F I J) (some (.int v)) (zz_S F I1 J) := zr_X11_sheet (F := F) (I := I) (J := J) (d := 298) (N := N) (r := (v, I1, J)) (h := e1)
  have q2 : zz_run 300 239 0 (zz_ent (zz_ml 239) [.ref 52, .int x0, .int x1, .int x2, .int x3]) [] (zz_S F I1 J) (some (.int v)) (zz_S F I2 J) := zr_X12_sheet (F := F) (I := I1) (J := J) (d := 299) (N := N) (r := (v, I2, J)) (h := e2)
  exact ⟨v, F, I1, J, F, I2, J, n, q1, q2, z, by omega, by omega⟩
theorem zg_c_plays {N n : Nat} (hN : 200000 ≤ N) {I : Nat → Nat → Int32} {J : Nat → Nat → Int64} {F : zz_F} (h : zi n I J F) (h0 : zi_pl I) (x0 : Int32) : zg_C 141 247 [.int x0] F I J := by
  obtain ⟨v, I1, J1, I2, J2, F2, e1, e2, z⟩ := zy_plays (N := N) (by omega) h x0
  have q1 : zz_run 300 141 0 (zz_ent (zz_ml 141) [.ref 2, .int x0]) [] (zz_S F I J) (some (.int v)) (zz_S F I1 J1) := zr_X11_plays (F := F) (I := I) (J := J) (d := 296) (N := N) (r := (v, I1, J1)) (h := e1)
  have q2 : zz_run 300 247 0 (zz_ent (zz_ml 247) [.ref 52, .int x0]) [] (zz_S F I1 J1) (some (.int v)) (zz_S F2 I2 J2) := zr_X12_plays (F := F) (I := I1) (J := J1) (d := 229) (N := N) (r := (v, I2, J2, F2)) (h := e2)
  exact ⟨v, F, I1, J1, F2, I2, J2, n, q1, q2, z, (zg_na q2 rfl).1, (zg_na q2 rfl).2⟩
theorem zg_c_cut {N n : Nat} (hN : 200000 ≤ N) {I : Nat → Nat → Int32} {J : Nat → Nat → Int64} {F : zz_F} (h : zi n I J F) (h0 : zi_pl I) (x0 : Int32) : zg_C 142 249 [.int x0] F I J := by
  obtain ⟨v, I1, I2, e1, e2, z⟩ := zj_cut (N := N) (by omega) h x0
  have q1 : zz_run 300 142 0 (zz_ent (zz_ml 142) [.ref 2, .int x0]) [] (zz_S F I J) (some (.int v)) (zz_S F I1 J) := zr_X11_cut (F := F) (I := I) (J := J) (d := 298) (N := N) (r := (v, I1, J)) (h := e1)
  have q2 : zz_run 300 249 0 (zz_ent (zz_ml 249) [.ref 52, .int x0]) [] (zz_S F I1 J) (some (.int v)) (zz_S F I2 J) := zr_X12_cut (F := F) (I := I1) (J := J) (d := 296) (N := N) (r := (v, I2, J)) (h := e2)
  exact ⟨v, F, I1, J, F, I2, J, n, q1, q2, z, by omega, by omega⟩
theorem zg_c_puts {N n : Nat} (hN : 200000 ≤ N) {I : Nat → Nat → Int32} {J : Nat → Nat → Int64} {F : zz_F} (h : zi n I J F) (h0 : zi_pl I) (x0 : Int32) : zg_C 143 250 [.int x0] F I J := by
  obtain ⟨v, I1, I2, e1, e2, z⟩ := zj_puts (N := N) (by omega) h x0
  have q1 : zz_run 300 143 0 (zz_ent (zz_ml 143) [.ref 2, .int x0]) [] (zz_S F I J) (some (.int v)) (zz_S F I1 J) := zr_X11_puts (F := F) (I := I) (J := J) (d := 298) (N := N) (r := (v, I1, J)) (h := e1)
  have q2 : zz_run 300 250 0 (zz_ent (zz_ml 250) [.ref 52, .int x0]) [] (zz_S F I1 J) (some (.int v)) (zz_S F I2 J) := zr_X12_puts (F := F) (I := I1) (J := J) (d := 296) (N := N) (r := (v, I2, J)) (h := e2)
  exact ⟨v, F, I1, J, F, I2, J, n, q1, q2, z, by omega, by omega⟩
theorem zg_c_pause {N n : Nat} (hN : 200000 ≤ N) {I : Nat → Nat → Int32} {J : Nat → Nat → Int64} {F : zz_F} (h : zi n I J F) (h0 : zi_pl I) (x0 : Int32) : zg_C 144 251 [.int x0] F I J := by
  obtain ⟨v, I1, I2, e1, e2, z⟩ := zj_pause (N := N) (by omega) h x0
  have q1 : zz_run 300 144 0 (zz_ent (zz_ml 144) [.ref 2, .int x0]) [] (zz_S F I J) (some (.int v)) (zz_S F I1 J) := zr_X11_pause (F := F) (I := I) (J := J) (d := 298) (N := N) (r := (v, I1, J)) (h := e1)
  have q2 : zz_run 300 251 0 (zz_ent (zz_ml 251) [.ref 52, .int x0]) [] (zz_S F I1 J) (some (.int v)) (zz_S F I2 J) := zr_X12_pause (F := F) (I := I1) (J := J) (d := 298) (N := N) (r := (v, I2, J)) (h := e2)
  exact ⟨v, F, I1, J, F, I2, J, n, q1, q2, z, by omega, by omega⟩
theorem zg_c_evening {N n : Nat} (hN : 200000 ≤ N) {I : Nat → Nat → Int32} {J : Nat → Nat → Int64} {F : zz_F} (h : zi n I J F) (h0 : zi_pl I) : zg_C 145 252 [] F I J := by
  obtain ⟨v, I1, J1, I2, J2, F2, e1, e2, z⟩ := zy_evening (N := N) (by omega) h 
  have q1 : zz_run 300 145 0 (zz_ent (zz_ml 145) [.ref 2]) [] (zz_S F I J) (some (.int v)) (zz_S F I1 J1) := zr_X11_evening (F := F) (I := I) (J := J) (d := 294) (N := N) (r := (v, I1, J1)) (h := e1)
  have q2 : zz_run 300 252 0 (zz_ent (zz_ml 252) [.ref 52]) [] (zz_S F I1 J1) (some (.int v)) (zz_S F2 I2 J2) := zr_X12_evening (F := F) (I := I1) (J := J1) (d := 228) (N := N) (r := (v, I2, J2, F2)) (h := e2)
  exact ⟨v, F, I1, J1, F2, I2, J2, n, q1, q2, z, (zg_na q2 rfl).1, (zg_na q2 rfl).2⟩
theorem zg_c_undo {N n : Nat} (hN : 200000 ≤ N) {I : Nat → Nat → Int32} {J : Nat → Nat → Int64} {F : zz_F} (h : zi n I J F) (h0 : zi_pl I) : zg_C 146 255 [] F I J := by
  obtain ⟨v, I1, I2, e1, e2, z⟩ := zj_undo (N := N) (by omega) h 
  have q1 : zz_run 300 146 0 (zz_ent (zz_ml 146) [.ref 2]) [] (zz_S F I J) (some (.int v)) (zz_S F I1 J) := zr_X11_undo (F := F) (I := I) (J := J) (d := 298) (N := N) (r := (v, I1, J)) (h := e1)
  have q2 : zz_run 300 255 0 (zz_ent (zz_ml 255) [.ref 52]) [] (zz_S F I1 J) (some (.int v)) (zz_S F I2 J) := zr_X12_undo (F := F) (I := I1) (J := J) (d := 300) (N := N) (r := (v, I2, J)) (h := e2)
  exact ⟨v, F, I1, J, F, I2, J, n, q1, q2, z, by omega, by omega⟩
theorem zg_c_change {N n : Nat} (hN : 200000 ≤ N) {I : Nat → Nat → Int32} {J : Nat → Nat → Int64} {F : zz_F} (h : zi n I J F) (h0 : zi_pl I) (x0 : Int32) (x1 : Int32) : zg_C 147 256 [.int x0, .int x1] F I J := by
  obtain ⟨v, I1, J1, I2, J2, F2, e1, e2, z⟩ := zy_change (N := N) (by omega) h x0 x1
  have q1 : zz_run 300 147 0 (zz_ent (zz_ml 147) [.ref 2, .int x0, .int x1]) [] (zz_S F I J) (some (.int v)) (zz_S F I1 J1) := zr_X11_change (F := F) (I := I) (J := J) (d := 296) (N := N) (r := (v, I1, J1)) (h := e1)
  have q2 : zz_run 300 256 0 (zz_ent (zz_ml 256) [.ref 52, .int x0, .int x1]) [] (zz_S F I1 J1) (some (.int v)) (zz_S F2 I2 J2) := zr_X12_change (F := F) (I := I1) (J := J1) (d := 231) (N := N) (r := (v, I2, J2, F2)) (h := e2)
  exact ⟨v, F, I1, J1, F2, I2, J2, n, q1, q2, z, (zg_na q2 rfl).1, (zg_na q2 rfl).2⟩
theorem zg_c_weave {N n : Nat} (hN : 200000 ≤ N) {I : Nat → Nat → Int32} {J : Nat → Nat → Int64} {F : zz_F} (h : zi n I J F) (h0 : zi_pl I) : zg_C 148 260 [] F I J := by
  obtain ⟨v, I1, J1, I2, J2, F2, e1, e2, z⟩ := zy_weave (N := N) (by omega) h 
  have q1 : zz_run 300 148 0 (zz_ent (zz_ml 148) [.ref 2]) [] (zz_S F I J) (some (.int v)) (zz_S F I1 J1) := zr_X11_weave (F := F) (I := I) (J := J) (d := 295) (N := N) (r := (v, I1, J1)) (h := e1)
  have q2 : zz_run 300 260 0 (zz_ent (zz_ml 260) [.ref 52]) [] (zz_S F I1 J1) (some (.int v)) (zz_S F2 I2 J2) := zr_X12_weave (F := F) (I := I1) (J := J1) (d := 214) (N := N) (r := (v, I2, J2, F2)) (h := e2)
  exact ⟨v, F, I1, J1, F2, I2, J2, n, q1, q2, z, (zg_na q2 rfl).1, (zg_na q2 rfl).2⟩
theorem zg_c_soonest {N n : Nat} (hN : 200000 ≤ N) {I : Nat → Nat → Int32} {J : Nat → Nat → Int64} {F : zz_F} (h : zi n I J F) (h0 : zi_pl I) (x0 : Int32) : zg_C 149 261 [.int x0] F I J := by
  obtain ⟨v, I1, J1, I2, J2, F2, e1, e2, z⟩ := zy_soonest (N := N) (by omega) h x0
  have q1 : zz_run 300 149 0 (zz_ent (zz_ml 149) [.ref 2, .int x0]) [] (zz_S F I J) (some (.int v)) (zz_S F I1 J1) := zr_X11_soonest (F := F) (I := I) (J := J) (d := 295) (N := N) (r := (v, I1, J1)) (h := e1)
  have q2 : zz_run 300 261 0 (zz_ent (zz_ml 261) [.ref 52, .int x0]) [] (zz_S F I1 J1) (some (.int v)) (zz_S F2 I2 J2) := zr_X12_soonest (F := F) (I := I1) (J := J1) (d := 214) (N := N) (r := (v, I2, J2, F2)) (h := e2)
  exact ⟨v, F, I1, J1, F2, I2, J2, n, q1, q2, z, (zg_na q2 rfl).1, (zg_na q2 rfl).2⟩
theorem zg_c_both {N n : Nat} (hN : 200000 ≤ N) {I : Nat → Nat → Int32} {J : Nat → Nat → Int64} {F : zz_F} (h : zi n I J F) (h0 : zi_pl I) (x0 : Int32) (x1 : Int32) : zg_C 150 262 [.int x0, .int x1] F I J := by
  obtain ⟨v, I1, J1, I2, J2, F2, e1, e2, z⟩ := zy_both (N := N) (by omega) h x0 x1
  have q1 : zz_run 300 150 0 (zz_ent (zz_ml 150) [.ref 2, .int x0, .int x1]) [] (zz_S F I J) (some (.int v)) (zz_S F I1 J1) := zr_X11_both (F := F) (I := I) (J := J) (d := 295) (N := N) (r := (v, I1, J1)) (h := e1)
  have q2 : zz_run 300 262 0 (zz_ent (zz_ml 262) [.ref 52, .int x0, .int x1]) [] (zz_S F I1 J1) (some (.int v)) (zz_S F2 I2 J2) := zr_X12_both (F := F) (I := I1) (J := J1) (d := 214) (N := N) (r := (v, I2, J2, F2)) (h := e2)
  exact ⟨v, F, I1, J1, F2, I2, J2, n, q1, q2, z, (zg_na q2 rfl).1, (zg_na q2 rfl).2⟩
theorem zg_c_within {N n : Nat} (hN : 200000 ≤ N) {I : Nat → Nat → Int32} {J : Nat → Nat → Int64} {F : zz_F} (h : zi n I J F) (h0 : zi_pl I) (x0 : Int32) : zg_C 151 263 [.int x0] F I J := by
  obtain ⟨v, I1, J1, I2, J2, F2, e1, e2, z⟩ := zy_within (N := N) (by omega) h x0
  have q1 : zz_run 300 151 0 (zz_ent (zz_ml 151) [.ref 2, .int x0]) [] (zz_S F I J) (some (.int v)) (zz_S F I1 J1) := zr_X11_within (F := F) (I := I) (J := J) (d := 295) (N := N) (r := (v, I1, J1)) (h := e1)
  have q2 : zz_run 300 263 0 (zz_ent (zz_ml 263) [.ref 52, .int x0]) [] (zz_S F I1 J1) (some (.int v)) (zz_S F2 I2 J2) := zr_X12_within (F := F) (I := I1) (J := J1) (d := 214) (N := N) (r := (v, I2, J2, F2)) (h := e2)
  exact ⟨v, F, I1, J1, F2, I2, J2, n, q1, q2, z, (zg_na q2 rfl).1, (zg_na q2 rfl).2⟩
theorem zg_c_weaves {N n : Nat} (hN : 200000 ≤ N) {I : Nat → Nat → Int32} {J : Nat → Nat → Int64} {F : zz_F} (h : zi n I J F) (h0 : zi_pl I) : zg_C 152 264 [] F I J := by
  obtain ⟨v, I1, J1, I2, J2, F2, e1, e2, z⟩ := zy_weaves (N := N) (by omega) h 
  have q1 : zz_run 300 152 0 (zz_ent (zz_ml 152) [.ref 2]) [] (zz_S F I J) (some (.int v)) (zz_S F I1 J1) := zr_X11_weaves (F := F) (I := I) (J := J) (d := 295) (N := N) (r := (v, I1, J1)) (h := e1)
  have q2 : zz_run 300 264 0 (zz_ent (zz_ml 264) [.ref 52]) [] (zz_S F I1 J1) (some (.int v)) (zz_S F2 I2 J2) := zr_X12_weaves (F := F) (I := I1) (J := J1) (d := 214) (N := N) (r := (v, I2, J2, F2)) (h := e2)
  exact ⟨v, F, I1, J1, F2, I2, J2, n, q1, q2, z, (zg_na q2 rfl).1, (zg_na q2 rfl).2⟩
theorem zg_c_turn {N n : Nat} (hN : 200000 ≤ N) {I : Nat → Nat → Int32} {J : Nat → Nat → Int64} {F : zz_F} (h : zi n I J F) (h0 : zi_pl I) (x0 : Int32) : zg_C 153 265 [.int x0] F I J := by
  obtain ⟨v, I1, J1, I2, J2, F2, e1, e2, z⟩ := zy_turn (N := N) (by omega) h x0
  have q1 : zz_run 300 153 0 (zz_ent (zz_ml 153) [.ref 2, .int x0]) [] (zz_S F I J) (some (.int v)) (zz_S F I1 J1) := zr_X11_turn (F := F) (I := I) (J := J) (d := 295) (N := N) (r := (v, I1, J1)) (h := e1)
  have q2 : zz_run 300 265 0 (zz_ent (zz_ml 265) [.ref 52, .int x0]) [] (zz_S F I1 J1) (some (.int v)) (zz_S F2 I2 J2) := zr_X12_turn (F := F) (I := I1) (J := J1) (d := 214) (N := N) (r := (v, I2, J2, F2)) (h := e2)
  exact ⟨v, F, I1, J1, F2, I2, J2, n, q1, q2, z, (zg_na q2 rfl).1, (zg_na q2 rfl).2⟩
theorem zg_c_over {N n : Nat} (hN : 200000 ≤ N) {I : Nat → Nat → Int32} {J : Nat → Nat → Int64} {F : zz_F} (h : zi n I J F) (h0 : zi_pl I) (x0 : Int32) : zg_C 154 266 [.int x0] F I J := by
  obtain ⟨v, I1, J1, I2, J2, F2, e1, e2, z⟩ := zy_over (N := N) (by omega) h x0
  have q1 : zz_run 300 154 0 (zz_ent (zz_ml 154) [.ref 2, .int x0]) [] (zz_S F I J) (some (.int v)) (zz_S F I1 J1) := zr_X11_over (F := F) (I := I) (J := J) (d := 295) (N := N) (r := (v, I1, J1)) (h := e1)
  have q2 : zz_run 300 266 0 (zz_ent (zz_ml 266) [.ref 52, .int x0]) [] (zz_S F I1 J1) (some (.int v)) (zz_S F2 I2 J2) := zr_X12_over (F := F) (I := I1) (J := J1) (d := 214) (N := N) (r := (v, I2, J2, F2)) (h := e2)
  exact ⟨v, F, I1, J1, F2, I2, J2, n, q1, q2, z, (zg_na q2 rfl).1, (zg_na q2 rfl).2⟩
theorem zg_c_cuts {N n : Nat} (hN : 200000 ≤ N) {I : Nat → Nat → Int32} {J : Nat → Nat → Int64} {F : zz_F} (h : zi n I J F) (h0 : zi_pl I) (x0 : Int32) : zg_C 155 271 [.int x0] F I J := by
  obtain ⟨v, I1, J1, I2, J2, F2, e1, e2, z⟩ := zy_cuts (N := N) (by omega) h x0
  have q1 : zz_run 300 155 0 (zz_ent (zz_ml 155) [.ref 2, .int x0]) [] (zz_S F I J) (some (.int v)) (zz_S F I1 J1) := zr_X11_cuts (F := F) (I := I) (J := J) (d := 278) (N := N) (r := (v, I1, J1)) (h := e1)
  have q2 : zz_run 300 271 0 (zz_ent (zz_ml 271) [.ref 52, .int x0]) [] (zz_S F I1 J1) (some (.int v)) (zz_S F2 I2 J2) := zr_X12_cuts (F := F) (I := I1) (J := J1) (d := 229) (N := N) (r := (v, I2, J2, F2)) (h := e2)
  exact ⟨v, F, I1, J1, F2, I2, J2, n, q1, q2, z, (zg_na q2 rfl).1, (zg_na q2 rfl).2⟩
theorem zg_c_clash {N n : Nat} (hN : 200000 ≤ N) {I : Nat → Nat → Int32} {J : Nat → Nat → Int64} {F : zz_F} (h : zi n I J F) (h0 : zi_pl I) : zg_C 156 274 [] F I J := by
  obtain ⟨v, I1, J1, I2, J2, e1, e2, z⟩ := zy_clash (N := N) (by omega) h 
  have q1 : zz_run 300 156 0 (zz_ent (zz_ml 156) [.ref 2]) [] (zz_S F I J) (some (.int v)) (zz_S F I1 J1) := zr_X11_clash (F := F) (I := I) (J := J) (d := 297) (N := N) (r := (v, I1, J1)) (h := e1)
  have q2 : zz_run 300 274 0 (zz_ent (zz_ml 274) [.ref 52]) [] (zz_S F I1 J1) (some (.int v)) (zz_S F I2 J2) := zr_X12_clash (F := F) (I := I1) (J := J1) (d := 296) (N := N) (r := (v, I2, J2)) (h := e2)
  exact ⟨v, F, I1, J1, F, I2, J2, n, q1, q2, z, by omega, by omega⟩
theorem zg_c_mend {N n : Nat} (hN : 200000 ≤ N) {I : Nat → Nat → Int32} {J : Nat → Nat → Int64} {F : zz_F} (h : zi n I J F) (h0 : zi_pl I) : zg_C 157 275 [] F I J := by
  obtain ⟨v, I1, J1, I2, J2, e1, e2, z⟩ := zy_mend (N := N) (by omega) h 
  have q1 : zz_run 300 157 0 (zz_ent (zz_ml 157) [.ref 2]) [] (zz_S F I J) (some (.int v)) (zz_S F I1 J1) := zr_X11_mend (F := F) (I := I) (J := J) (d := 297) (N := N) (r := (v, I1, J1)) (h := e1)
  have q2 : zz_run 300 275 0 (zz_ent (zz_ml 275) [.ref 52]) [] (zz_S F I1 J1) (some (.int v)) (zz_S F I2 J2) := zr_X12_mend (F := F) (I := I1) (J := J1) (d := 296) (N := N) (r := (v, I2, J2)) (h := e2)
  exact ⟨v, F, I1, J1, F, I2, J2, n, q1, q2, z, by omega, by omega⟩
theorem zg_c_spare {N n : Nat} (hN : 200000 ≤ N) {I : Nat → Nat → Int32} {J : Nat → Nat → Int64} {F : zz_F} (h : zi n I J F) (h0 : zi_pl I) : zg_C 158 276 [] F I J := by
  obtain ⟨v, I1, J1, I2, J2, e1, e2, z⟩ := zy_spare (N := N) (by omega) h 
  have q1 : zz_run 300 158 0 (zz_ent (zz_ml 158) [.ref 2]) [] (zz_S F I J) (some (.int v)) (zz_S F I1 J1) := zr_X11_spare (F := F) (I := I) (J := J) (d := 296) (N := N) (r := (v, I1, J1)) (h := e1)
  have q2 : zz_run 300 276 0 (zz_ent (zz_ml 276) [.ref 52]) [] (zz_S F I1 J1) (some (.int v)) (zz_S F I2 J2) := zr_X12_spare (F := F) (I := I1) (J := J1) (d := 296) (N := N) (r := (v, I2, J2)) (h := e2)
  exact ⟨v, F, I1, J1, F, I2, J2, n, q1, q2, z, by omega, by omega⟩
theorem zg_c_cheers {N n : Nat} (hN : 200000 ≤ N) {I : Nat → Nat → Int32} {J : Nat → Nat → Int64} {F : zz_F} (h : zi n I J F) (h0 : zi_pl I) (x0 : Int32) : zg_C 159 278 [.int x0] F I J := by
  obtain ⟨v, I1, J1, F1, I2, J2, e1, e2, z, r1, r2⟩ := zy_cheers (N := N) hN h x0
  have q1 : zz_run 300 159 0 (zz_ent (zz_ml 159) [.ref 2, .int x0]) [] (zz_S F I J) (some (.int v)) (zz_S F1 I1 J1) := zr_X11_cheers (F := F) (I := I) (J := J) (d := 295) (N := N) (r := (v, I1, J1, F1)) (h := e1)
  have q2 : zz_run 300 278 0 (zz_ent (zz_ml 278) [.ref 52, .int x0]) [] (zz_S F1 I1 J1) (some (.int v)) (zz_S F1 I2 J2) := zr_X12_cheers (F := F1) (I := I1) (J := J1) (d := 297) (N := N) (r := (v, I2, J2)) (h := e2)
  exact ⟨v, F1, I1, J1, F1, I2, J2, n, q1, q2, z, r1, r2⟩
theorem zg_c_who {N n : Nat} (hN : 200000 ≤ N) {I : Nat → Nat → Int32} {J : Nat → Nat → Int64} {F : zz_F} (h : zi n I J F) (h0 : zi_pl I) (x0 : Int32) : zg_C 160 280 [.int x0] F I J := by
  obtain ⟨v, I1, J1, I2, J2, e1, e2, z⟩ := zy_who (N := N) (by omega) h x0
  have q1 : zz_run 300 160 0 (zz_ent (zz_ml 160) [.ref 2, .int x0]) [] (zz_S F I J) (some (.int v)) (zz_S F I1 J1) := zr_X11_who (F := F) (I := I) (J := J) (d := 297) (N := N) (r := (v, I1, J1)) (h := e1)
  have q2 : zz_run 300 280 0 (zz_ent (zz_ml 280) [.ref 52, .int x0]) [] (zz_S F I1 J1) (some (.int v)) (zz_S F I2 J2) := zr_X12_who (F := F) (I := I1) (J := J1) (d := 297) (N := N) (r := (v, I2, J2)) (h := e2)
  exact ⟨v, F, I1, J1, F, I2, J2, n, q1, q2, z, by omega, by omega⟩
theorem zg_c_kings {N n : Nat} (hN : 200000 ≤ N) {I : Nat → Nat → Int32} {J : Nat → Nat → Int64} {F : zz_F} (h : zi n I J F) (h0 : zi_pl I) : zg_C 161 282 [] F I J := by
  obtain ⟨v, I1, J1, I2, J2, e1, e2, z⟩ := zy_kings (N := N) (by omega) h 
  have q1 : zz_run 300 161 0 (zz_ent (zz_ml 161) [.ref 2]) [] (zz_S F I J) (some (.int v)) (zz_S F I1 J1) := zr_X11_kings (F := F) (I := I) (J := J) (d := 297) (N := N) (r := (v, I1, J1)) (h := e1)
  have q2 : zz_run 300 282 0 (zz_ent (zz_ml 282) [.ref 52]) [] (zz_S F I1 J1) (some (.int v)) (zz_S F I2 J2) := zr_X12_kings (F := F) (I := I1) (J := J1) (d := 297) (N := N) (r := (v, I2, J2)) (h := e2)
  exact ⟨v, F, I1, J1, F, I2, J2, n, q1, q2, z, by omega, by omega⟩
theorem zg_c_stand {N n : Nat} (hN : 200000 ≤ N) {I : Nat → Nat → Int32} {J : Nat → Nat → Int64} {F : zz_F} (h : zi n I J F) (h0 : zi_pl I) : zg_C 162 283 [] F I J := by
  obtain ⟨v, I1, J1, I2, J2, e1, e2, z⟩ := zy_stand (N := N) (by omega) h 
  have q1 : zz_run 300 162 0 (zz_ent (zz_ml 162) [.ref 2]) [] (zz_S F I J) (some (.int v)) (zz_S F I1 J1) := zr_X11_stand (F := F) (I := I) (J := J) (d := 298) (N := N) (r := (v, I1, J1)) (h := e1)
  have q2 : zz_run 300 283 0 (zz_ent (zz_ml 283) [.ref 52]) [] (zz_S F I1 J1) (some (.int v)) (zz_S F I2 J2) := zr_X12_stand (F := F) (I := I1) (J := J1) (d := 299) (N := N) (r := (v, I2, J2)) (h := e2)
  exact ⟨v, F, I1, J1, F, I2, J2, n, q1, q2, z, by omega, by omega⟩
theorem zg_c_guard {N n : Nat} (hN : 200000 ≤ N) {I : Nat → Nat → Int32} {J : Nat → Nat → Int64} {F : zz_F} (h : zi n I J F) (h0 : zi_pl I) : zg_C 163 284 [] F I J := by
  obtain ⟨v, I1, J1, I2, J2, e1, e2, z⟩ := zy_guard (N := N) (by omega) h 
  have q1 : zz_run 300 163 0 (zz_ent (zz_ml 163) [.ref 2]) [] (zz_S F I J) (some (.int v)) (zz_S F I1 J1) := zr_X11_guard (F := F) (I := I) (J := J) (d := 297) (N := N) (r := (v, I1, J1)) (h := e1)
  have q2 : zz_run 300 284 0 (zz_ent (zz_ml 284) [.ref 52]) [] (zz_S F I1 J1) (some (.int v)) (zz_S F I2 J2) := zr_X12_guard (F := F) (I := I1) (J := J1) (d := 298) (N := N) (r := (v, I2, J2)) (h := e2)
  exact ⟨v, F, I1, J1, F, I2, J2, n, q1, q2, z, by omega, by omega⟩
theorem zg_c_chance {N n : Nat} (hN : 200000 ≤ N) {I : Nat → Nat → Int32} {J : Nat → Nat → Int64} {F : zz_F} (h : zi n I J F) (h0 : zi_pl I) (x0 : Int32) (x1 : Int32) : zg_C 164 288 [.int x0, .int x1] F I J := by
  obtain ⟨v, I1, J1, I2, J2, e1, e2, z⟩ := zy_chance (N := N) (by omega) h x0 x1
  have q1 : zz_run 300 164 0 (zz_ent (zz_ml 164) [.ref 2, .int x0, .int x1]) [] (zz_S F I J) (some (.int v)) (zz_S F I1 J1) := zr_X11_chance (F := F) (I := I) (J := J) (d := 296) (N := N) (r := (v, I1, J1)) (h := e1)
  have q2 : zz_run 300 288 0 (zz_ent (zz_ml 288) [.ref 52, .int x0, .int x1]) [] (zz_S F I1 J1) (some (.int v)) (zz_S F I2 J2) := zr_X12_chance (F := F) (I := I1) (J := J1) (d := 234) (N := N) (r := (v, I2, J2)) (h := e2)
  exact ⟨v, F, I1, J1, F, I2, J2, n, q1, q2, z, by omega, by omega⟩
theorem zg_c_likely {N n : Nat} (hN : 200000 ≤ N) {I : Nat → Nat → Int32} {J : Nat → Nat → Int64} {F : zz_F} (h : zi n I J F) (h0 : zi_pl I) (x0 : Int32) : zg_C 165 289 [.int x0] F I J := by
  obtain ⟨v, I1, J1, I2, J2, e1, e2, z⟩ := zy_likely (N := N) (by omega) h x0
  have q1 : zz_run 300 165 0 (zz_ent (zz_ml 165) [.ref 2, .int x0]) [] (zz_S F I J) (some (.int v)) (zz_S F I1 J1) := zr_X11_likely (F := F) (I := I) (J := J) (d := 296) (N := N) (r := (v, I1, J1)) (h := e1)
  have q2 : zz_run 300 289 0 (zz_ent (zz_ml 289) [.ref 52, .int x0]) [] (zz_S F I1 J1) (some (.int v)) (zz_S F I2 J2) := zr_X12_likely (F := F) (I := I1) (J := J1) (d := 234) (N := N) (r := (v, I2, J2)) (h := e2)
  exact ⟨v, F, I1, J1, F, I2, J2, n, q1, q2, z, by omega, by omega⟩
theorem zg_c_rests {N n : Nat} (hN : 200000 ≤ N) {I : Nat → Nat → Int32} {J : Nat → Nat → Int64} {F : zz_F} (h : zi n I J F) (h0 : zi_pl I) (x0 : Int32) : zg_C 166 292 [.int x0] F I J := by
  obtain ⟨v, I1, J1, I2, J2, e1, e2, z⟩ := zy_rests (N := N) (by omega) h x0
  have q1 : zz_run 300 166 0 (zz_ent (zz_ml 166) [.ref 2, .int x0]) [] (zz_S F I J) (some (.int v)) (zz_S F I1 J1) := zr_X11_rests (F := F) (I := I) (J := J) (d := 297) (N := N) (r := (v, I1, J1)) (h := e1)
  have q2 : zz_run 300 292 0 (zz_ent (zz_ml 292) [.ref 52, .int x0]) [] (zz_S F I1 J1) (some (.int v)) (zz_S F I2 J2) := zr_X12_rests (F := F) (I := I1) (J := J1) (d := 297) (N := N) (r := (v, I2, J2)) (h := e2)
  exact ⟨v, F, I1, J1, F, I2, J2, n, q1, q2, z, by omega, by omega⟩
theorem zg_c_lamps {N n : Nat} (hN : 200000 ≤ N) {I : Nat → Nat → Int32} {J : Nat → Nat → Int64} {F : zz_F} (h : zi n I J F) (h0 : zi_pl I) (x0 : Int32) : zg_C 167 294 [.int x0] F I J := by
  obtain ⟨v, I1, J1, I2, J2, e1, e2, z⟩ := zy_lamps (N := N) (by omega) h x0
  have q1 : zz_run 300 167 0 (zz_ent (zz_ml 167) [.ref 2, .int x0]) [] (zz_S F I J) (some (.int v)) (zz_S F I1 J1) := zr_X11_lamps (F := F) (I := I) (J := J) (d := 296) (N := N) (r := (v, I1, J1)) (h := e1)
  have q2 : zz_run 300 294 0 (zz_ent (zz_ml 294) [.ref 52, .int x0]) [] (zz_S F I1 J1) (some (.int v)) (zz_S F I2 J2) := zr_X12_lamps (F := F) (I := I1) (J := J1) (d := 299) (N := N) (r := (v, I2, J2)) (h := e2)
  exact ⟨v, F, I1, J1, F, I2, J2, n, q1, q2, z, by omega, by omega⟩
theorem zg_c_bow {N n : Nat} (hN : 200000 ≤ N) {I : Nat → Nat → Int32} {J : Nat → Nat → Int64} {F : zz_F} (h : zi n I J F) (h0 : zi_pl I) (x0 : Int32) (x1 : Int32) : zg_C 168 295 [.int x0, .int x1] F I J := by
  obtain ⟨e, z⟩ := zy_bow (N := N) (by omega) h x0 x1
  refine ⟨zv_X11_bow I x0 x1, F, zw_X11_bow I x0 x1, J, F, _, J, n, zr_X11_bow F I J 299 x0 x1, ?_, z, by omega, by omega⟩
  rw [e]
  exact zr_X12_bow F _ J 299 x0 x1
theorem zg_c_forget {N n : Nat} (hN : 200000 ≤ N) {I : Nat → Nat → Int32} {J : Nat → Nat → Int64} {F : zz_F} (h : zi n I J F) (h0 : zi_pl I) : zg_C 169 296 [] F I J := by
  obtain ⟨e, z⟩ := zy_forget (N := N) (by omega) h 
  refine ⟨zv_X11_forget I , F, zw_X11_forget I , J, F, _, J, n, zr_X11_forget F I J 299 , ?_, z, by omega, by omega⟩
  rw [e]
  exact zr_X12_forget F _ J 299 
theorem zg_c_fits {N n : Nat} (hN : 200000 ≤ N) {I : Nat → Nat → Int32} {J : Nat → Nat → Int64} {F : zz_F} (h : zi n I J F) (h0 : zi_pl I) : zg_C 170 298 [] F I J := by
  obtain ⟨v, I1, J1, I2, J2, e1, e2, z⟩ := zy_fits (N := N) (by omega) h 
  have q1 : zz_run 300 170 0 (zz_ent (zz_ml 170) [.ref 2]) [] (zz_S F I J) (some (.int v)) (zz_S F I1 J1) := zr_X11_fits (F := F) (I := I) (J := J) (d := 297) (N := N) (r := (v, I1, J1)) (h := e1)
  have q2 : zz_run 300 298 0 (zz_ent (zz_ml 298) [.ref 52]) [] (zz_S F I1 J1) (some (.int v)) (zz_S F I2 J2) := zr_X12_fits (F := F) (I := I1) (J := J1) (d := 297) (N := N) (r := (v, I2, J2)) (h := e2)
  exact ⟨v, F, I1, J1, F, I2, J2, n, q1, q2, z, by omega, by omega⟩
theorem zg_c_ask {N n : Nat} (hN : 200000 ≤ N) {I : Nat → Nat → Int32} {J : Nat → Nat → Int64} {F : zz_F} (h : zi n I J F) (h0 : zi_pl I) : zg_C 171 299 [] F I J := by
  obtain ⟨v, I1, J1, I2, J2, e1, e2, z⟩ := zy_ask (N := N) (by omega) h 
  have q1 : zz_run 300 171 0 (zz_ent (zz_ml 171) [.ref 2]) [] (zz_S F I J) (some (.int v)) (zz_S F I1 J1) := zr_X11_ask (F := F) (I := I) (J := J) (d := 297) (N := N) (r := (v, I1, J1)) (h := e1)
  have q2 : zz_run 300 299 0 (zz_ent (zz_ml 299) [.ref 52]) [] (zz_S F I1 J1) (some (.int v)) (zz_S F I2 J2) := zr_X12_ask (F := F) (I := I1) (J := J1) (d := 298) (N := N) (r := (v, I2, J2)) (h := e2)
  exact ⟨v, F, I1, J1, F, I2, J2, n, q1, q2, z, by omega, by omega⟩
theorem zg_c_law {N n : Nat} (hN : 200000 ≤ N) {I : Nat → Nat → Int32} {J : Nat → Nat → Int64} {F : zz_F} (h : zi n I J F) (h0 : zi_pl I) : zg_C 172 300 [] F I J := by
  obtain ⟨v, I1, J1, I2, J2, F2, e1, e2, z⟩ := zy_law (N := N) (by omega) h h0 
  have q1 : zz_run 300 172 0 (zz_ent (zz_ml 172) [.ref 2]) [] (zz_S F I J) (some (.int v)) (zz_S F I1 J1) := zr_X11_law (F := F) (I := I) (J := J) (d := 294) (N := N) (r := (v, I1, J1)) (h := e1)
  have q2 : zz_run 300 300 0 (zz_ent (zz_ml 300) [.ref 52]) [] (zz_S F I1 J1) (some (.int v)) (zz_S F2 I2 J2) := zr_X12_law (F := F) (I := I1) (J := J1) (d := 229) (N := N) (r := (v, I2, J2, F2)) (h := e2)
  exact ⟨v, F, I1, J1, F2, I2, J2, n, q1, q2, z, (zg_na q2 rfl).1, (zg_na q2 rfl).2⟩
theorem zg_c_years {N n : Nat} (hN : 200000 ≤ N) {I : Nat → Nat → Int32} {J : Nat → Nat → Int64} {F : zz_F} (h : zi n I J F) (h0 : zi_pl I) (x0 : Int32) (x1 : Int32) : zg_C 173 301 [.int x0, .int x1] F I J := by
  obtain ⟨v, I1, J1, I2, J2, F2, e1, e2, z⟩ := zy_years (N := N) (by omega) h x0 x1
  have q1 : zz_run 300 173 0 (zz_ent (zz_ml 173) [.ref 2, .int x0, .int x1]) [] (zz_S F I J) (some (.int v)) (zz_S F I1 J1) := zr_X11_years (F := F) (I := I) (J := J) (d := 295) (N := N) (r := (v, I1, J1)) (h := e1)
  have q2 : zz_run 300 301 0 (zz_ent (zz_ml 301) [.ref 52, .int x0, .int x1]) [] (zz_S F I1 J1) (some (.int v)) (zz_S F2 I2 J2) := zr_X12_years (F := F) (I := I1) (J := J1) (d := 229) (N := N) (r := (v, I2, J2, F2)) (h := e2)
  exact ⟨v, F, I1, J1, F2, I2, J2, n, q1, q2, z, (zg_na q2 rfl).1, (zg_na q2 rfl).2⟩
theorem zg_c_keep {N n : Nat} (hN : 200000 ≤ N) {I : Nat → Nat → Int32} {J : Nat → Nat → Int64} {F : zz_F} (h : zi n I J F) (h0 : zi_pl I) (x0 : Int32) : zg_C 174 302 [.int x0] F I J := by
  obtain ⟨v, I1, I2, e1, e2, z⟩ := zj_keep (N := N) (by omega) h x0
  have q1 : zz_run 300 174 0 (zz_ent (zz_ml 174) [.ref 2, .int x0]) [] (zz_S F I J) (some (.int v)) (zz_S F I1 J) := zr_X11_keep (F := F) (I := I) (J := J) (d := 298) (N := N) (r := (v, I1, J)) (h := e1)
  have q2 : zz_run 300 302 0 (zz_ent (zz_ml 302) [.ref 52, .int x0]) [] (zz_S F I1 J) (some (.int v)) (zz_S F I2 J) := zr_X12_keep (F := F) (I := I1) (J := J) (d := 299) (N := N) (r := (v, I2, J)) (h := e2)
  exact ⟨v, F, I1, J, F, I2, J, n, q1, q2, z, by omega, by omega⟩
theorem zg_c_again {N n : Nat} (hN : 200000 ≤ N) {I : Nat → Nat → Int32} {J : Nat → Nat → Int64} {F : zz_F} (h : zi n I J F) (h0 : zi_pl I) (x0 : Int32) : zg_C 175 303 [.int x0] F I J := by
  obtain ⟨v, I1, I2, e1, e2, z⟩ := zj_again (N := N) (by omega) h x0
  have q1 : zz_run 300 175 0 (zz_ent (zz_ml 175) [.ref 2, .int x0]) [] (zz_S F I J) (some (.int v)) (zz_S F I1 J) := zr_X11_again (F := F) (I := I) (J := J) (d := 298) (N := N) (r := (v, I1, J)) (h := e1)
  have q2 : zz_run 300 303 0 (zz_ent (zz_ml 303) [.ref 52, .int x0]) [] (zz_S F I1 J) (some (.int v)) (zz_S F I2 J) := zr_X12_again (F := F) (I := I1) (J := J) (d := 299) (N := N) (r := (v, I2, J)) (h := e2)
  exact ⟨v, F, I1, J, F, I2, J, n, q1, q2, z, by omega, by omega⟩
theorem zg_c_count {N n : Nat} (hN : 200000 ≤ N) {I : Nat → Nat → Int32} {J : Nat → Nat → Int64} {F : zz_F} (h : zi n I J F) (h0 : zi_pl I) (x0 : Int32) : zg_C 176 304 [.int x0] F I J := by
  obtain ⟨v, I2, e1, e2, z⟩ := zj_count (N := N) (by omega) h x0
  have q1 : zz_run 300 176 0 (zz_ent (zz_ml 176) [.ref 2, .int x0]) [] (zz_S F I J) (some (.int v)) (zz_S F I J) := zr_X11_count (F := F) (I := I) (J := J) (d := 299) (N := N) (r := (v, I, J)) (h := e1)
  have q2 : zz_run 300 304 0 (zz_ent (zz_ml 304) [.ref 52, .int x0]) [] (zz_S F I J) (some (.int v)) (zz_S F I2 J) := zr_X12_count (F := F) (I := I) (J := J) (d := 299) (N := N) (r := (v, I2, J)) (h := e2)
  exact ⟨v, F, I, J, F, I2, J, n, q1, q2, z, by omega, by omega⟩
