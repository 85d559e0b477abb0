/-! WORDS FOR BOTH SIDES -/
def zh_W (n : Nat) (a : Nat → Int32) (w : Int32) : Int32 := zu_set (fun s => decide (a s = w)) n
def zh_P (n : Nat) (f : Nat → Int32) (x p : Int32) : Int32 := zu_set (fun s => bt x s && decide (f (7 * s) = p)) n
def zh_M (n : Nat) (f : Nat → Int32) (x : Int32) (w : Nat) : Int32 := zz_sum (fun s => if bt x s = true then f (7 * s + w) else 0) n
def zh_U (n : Nat) (f : Nat → Int32) (x : Int32) (w : Nat) : Int32 := zz_or (fun s => if bt x s = true then f (7 * s + w) else 0) n
def zh_T (n : Nat) (f : Nat → Int32) (x p : Int32) : Int32 := zu_set (fun s => bt x s && decide (¬ f (7 * s + 2) &&& p = 0)) n
theorem zu_bd {α β : Type} {o : Option α} {r : α} {k : α → Option β} {R : Option β} (h : o = some r) (hk : k r = R) : o.bind k = R := by rw [h]; exact hk
theorem zu_gd {α : Type} {P : Prop} [Decidable P] {A B R : Option α} (h : P) (H : A = R) : (if P then A else B) = R := by rw [if_pos h]; exact H
theorem zu_gn {α : Type} {P : Prop} [Decidable P] {A B R : Option α} (h : ¬ P) (H : B = R) : (if P then A else B) = R := by rw [if_neg h]; exact H
theorem zu_20_0 : ¬ ((0 : Int32) < 0 ∨ 20 ≤ (0 : Int32).toNatClampNeg) := by decide
theorem zu_20_1 : ¬ ((0 : Int32) + 1 < 0 ∨ 20 ≤ ((0 : Int32) + 1).toNatClampNeg) := by decide
theorem zu_20_2 : ¬ ((0 : Int32) + 1 + 1 < 0 ∨ 20 ≤ ((0 : Int32) + 1 + 1).toNatClampNeg) := by decide
theorem zz_uu {α : Type} (f : Nat → Nat → α) (a i : Nat) (v w : α) : zz_u (zz_u f a i v) a i w = zz_u f a i w := by
  funext b j
  unfold zz_u
  split
  · rfl
  · next h => rfl
theorem zz_us {α : Type} (f : Nat → Nat → α) (a i : Nat) (v : α) : zz_u f a i v a i = v := by
  unfold zz_u
  rw [if_pos ⟨rfl, rfl⟩]
theorem zz_un {α : Type} {f : Nat → Nat → α} {a i b j : Nat} {v : α} (h : ¬ (b = a ∧ j = i)) : zz_u f a i v b j = f b j := by
  unfold zz_u
  rw [if_neg h]
theorem zu_t1 (I : Nat → Nat → Int32) (J : Nat → Nat → Int64) (x : Int64) : zw_X11_tell I J x = zz_u I 2 3 1 := by
  show (if (0 : Int32) < 0 then zz_u I 2 3 0 else (if (nI 12) ≤ (0 : Int32) then zz_u I 2 3 0 else (zz_u (zz_u I 2 3 0) 2 3 ((0 : Int32) + 1)))) = _
  rw [if_neg (by decide), if_neg (by decide), zz_uu]
  rfl
theorem zu_x1 (I : Nat → Nat → Int32) (J : Nat → Nat → Int64) (x : Int64) : zx_X11_tell I J x = zz_u J 4 0 x := by
  show (if (0 : Int32) < 0 then J else (if (nI 12) ≤ (0 : Int32) then J else (zz_u J 4 ((0 : Int32).toNatClampNeg) x))) = _
  rw [if_neg (by decide), if_neg (by decide)]
  rfl
theorem zu_t2 (I : Nat → Nat → Int32) (J : Nat → Nat → Int64) (x y : Int64) : zw_X11_tell_ I J x y = zz_u I 2 3 2 := by
  unfold zw_X11_tell_
  rw [zu_t1]
  show (if (1 : Int32) < 0 then zz_u I 2 3 1 else (if (nI 12) ≤ (1 : Int32) then zz_u I 2 3 1 else (zz_u (zz_u I 2 3 1) 2 3 ((1 : Int32) + 1)))) = _
  rw [if_neg (by decide), if_neg (by decide), zz_uu]
  rfl
theorem zu_x2 (I : Nat → Nat → Int32) (J : Nat → Nat → Int64) (x y : Int64) : zx_X11_tell_ I J x y = zz_u (zz_u J 4 0 x) 4 1 y := by
  unfold zx_X11_tell_
  rw [zu_t1, zu_x1]
  show (if (1 : Int32) < 0 then zz_u J 4 0 x else (if (nI 12) ≤ (1 : Int32) then zz_u J 4 0 x else (zz_u (zz_u J 4 0 x) 4 ((1 : Int32).toNatClampNeg) y))) = _
  rw [if_neg (by decide), if_neg (by decide)]
  rfl
theorem zu_t3 (I : Nat → Nat → Int32) (J : Nat → Nat → Int64) (x y z : Int64) : zw_X11_tell__ I J x y z = zz_u I 2 3 3 := by
  unfold zw_X11_tell__
  rw [zu_t2]
  show (if (2 : Int32) < 0 then zz_u I 2 3 2 else (if (nI 12) ≤ (2 : Int32) then zz_u I 2 3 2 else (zz_u (zz_u I 2 3 2) 2 3 ((2 : Int32) + 1)))) = _
  rw [if_neg (by decide), if_neg (by decide), zz_uu]
  rfl
theorem zu_x3 (I : Nat → Nat → Int32) (J : Nat → Nat → Int64) (x y z : Int64) : zx_X11_tell__ I J x y z = zz_u (zz_u (zz_u J 4 0 x) 4 1 y) 4 2 z := by
  unfold zx_X11_tell__
  rw [zu_t2, zu_x2]
  show (if (2 : Int32) < 0 then zz_u (zz_u J 4 0 x) 4 1 y else (if (nI 12) ≤ (2 : Int32) then zz_u (zz_u J 4 0 x) 4 1 y else (zz_u (zz_u (zz_u J 4 0 x) 4 1 y) 4 ((2 : Int32).toNatClampNeg) z))) = _
  rw [if_neg (by decide), if_neg (by decide)]
  rfl
theorem zk_t {I X : Nat → Nat → Int32} {J : Nat → Nat → Int64} {x : Int64} (h : zk I X) : zk I (zw_X12_tell X J x) := zk_u rfl h
theorem zi_tol1 {I : Nat → Nat → Int32} {J : Nat → Nat → Int64} (h1 : I 2 3 = nI 1) (h2 : I 52 6 = nI 1) (e0 : J 4 0 = J 56 0) : zi_tol I J := ⟨1, by omega, h1, h2, fun t ht => by
  obtain rfl : t = 0 := by omega
  exact e0⟩
theorem zi_tol2 {I : Nat → Nat → Int32} {J : Nat → Nat → Int64} (h1 : I 2 3 = nI 2) (h2 : I 52 6 = nI 2) (e0 : J 4 0 = J 56 0) (e1 : J 4 1 = J 56 1) : zi_tol I J := ⟨2, by omega, h1, h2, fun t ht => by
  rcases (by omega : t = 0 ∨ t = 1) with rfl | rfl
  · exact e0
  · exact e1⟩
theorem zi_tol3 {I : Nat → Nat → Int32} {J : Nat → Nat → Int64} (h1 : I 2 3 = nI 3) (h2 : I 52 6 = nI 3) (e0 : J 4 0 = J 56 0) (e1 : J 4 1 = J 56 1) (e2 : J 4 2 = J 56 2) : zi_tol I J := ⟨3, by omega, h1, h2, fun t ht => by
  rcases (by omega : t = 0 ∨ t = 1 ∨ t = 2) with rfl | rfl | rfl
  · exact e0
  · exact e1
  · exact e2⟩
/-! the reference's loops in these words -/
theorem zm_where {N n : Nat} (hN : 100000 ≤ N) (hn : n ≤ 12) {I : Nat → Nat → Int32} {J : Nat → Nat → Int64} (h1 : I 52 1 = nI n) (w : Int32) : zf_X12_whereBits N w I J = some (zh_W n (I 53) w, I, J) := zp_X12_whereBits hN hn h1 w
theorem zm_ofPlay {N n : Nat} (hN : 100000 ≤ N) (hn : n ≤ 12) {I : Nat → Nat → Int32} {J : Nat → Nat → Int64} (h1 : I 52 1 = nI n) (x p : Int32) : zf_X12_ofPlay N x p I J = some (zh_P n (I 54) x p, I, J) := zp_X12_ofPlay hN hn h1 x p
theorem zm_minutes {N n : Nat} (hN : 100000 ≤ N) (hn : n ≤ 12) {I : Nat → Nat → Int32} {J : Nat → Nat → Int64} (h1 : I 52 1 = nI n) (x : Int32) : zf_X12_minutesOf N x I J = some (zh_M n (I 54) x 1, I, J) := zp_X12_minutesOf hN hn h1 x
theorem zm_cheer {N n : Nat} (hN : 100000 ≤ N) (hn : n ≤ 12) {I : Nat → Nat → Int32} {J : Nat → Nat → Int64} (h1 : I 52 1 = nI n) (x : Int32) : zf_X12_cheerOf N x I J = some (zh_M n (I 54) x 6, I, J) := zp_X12_cheerOf hN hn h1 x
theorem zm_persons {N n : Nat} (hN : 100000 ≤ N) (hn : n ≤ 12) {I : Nat → Nat → Int32} {J : Nat → Nat → Int64} (h1 : I 52 1 = nI n) (x : Int32) : zf_X12_personsOf N x I J = some (zh_U n (I 54) x 2, I, J) := zp_X12_personsOf hN hn h1 x
theorem zm_with {N n : Nat} (hN : 100000 ≤ N) (hn : n ≤ 12) {I : Nat → Nat → Int32} {J : Nat → Nat → Int64} (h1 : I 52 1 = nI n) (x p : Int32) : zf_X12_withPerson N x p I J = some (zh_T n (I 54) x p, I, J) := zp_X12_withPerson hN hn h1 x p
theorem zz_sum_cong {f g : Nat → Int32} : ∀ {n : Nat}, (∀ i, i < n → f i = g i) → zz_sum f n = zz_sum g n
  | 0, _ => rfl
  | n + 1, h => by unfold zz_sum; rw [zz_sum_cong (fun i hi => h i (by omega)), h n (by omega)]
theorem zz_or_cong {f g : Nat → Int32} : ∀ {n : Nat}, (∀ i, i < n → f i = g i) → zz_or f n = zz_or g n
  | 0, _ => rfl
  | n + 1, h => by unfold zz_or; rw [zz_or_cong (fun i hi => h i (by omega)), h n (by omega)]
theorem zz_and_cong {f g : Nat → Int32} {a : Int32} : ∀ {n : Nat}, (∀ i, i < n → f i = g i) → zz_and a f n = zz_and a g n
  | 0, _ => rfl
  | n + 1, h => by unfold zz_and; rw [zz_and_cong (fun i hi => h i (by omega)), h n (by omega)]
/-! the class's loops in these words -/
theorem zs_sum1 {N n : Nat} (hN : 100000 ≤ N) {I : Nat → Nat → Int32} {J : Nat → Nat → Int64} (h : zi_sc n I) (x : Int32) : zf_X9_sumOf N x 1 I J = some (zh_M n (I 54) x 1, I, J) := by
  refine (zp_X9_sumOf hN h.1 h.2.2.1 x 1 (by omega)).trans (congrArg (fun v => some (v, I, J)) (zz_sum_cong fun i hi => ?_))
  rw [h.2.2.2.1 _ (by omega)]
theorem zs_sum6 {N n : Nat} (hN : 100000 ≤ N) {I : Nat → Nat → Int32} {J : Nat → Nat → Int64} (h : zi_sc n I) (x : Int32) : zf_X9_sumOf N x 6 I J = some (zh_M n (I 54) x 6, I, J) := by
  refine (zp_X9_sumOf hN h.1 h.2.2.1 x 6 (by omega)).trans (congrArg (fun v => some (v, I, J)) (zz_sum_cong fun i hi => ?_))
  rw [h.2.2.2.1 _ (by omega)]
theorem zs_union2 {N n : Nat} (hN : 100000 ≤ N) {I : Nat → Nat → Int32} {J : Nat → Nat → Int64} (h : zi_sc n I) (x : Int32) : zf_X9_unionOf N x 2 I J = some (zh_U n (I 54) x 2, I, J) := by
  refine (zp_X9_unionOf hN h.1 h.2.2.1 x 2 (by omega)).trans (congrArg (fun v => some (v, I, J)) (zz_or_cong fun i hi => ?_))
  rw [h.2.2.2.1 _ (by omega)]
theorem zs_union3 {N n : Nat} (hN : 100000 ≤ N) {I : Nat → Nat → Int32} {J : Nat → Nat → Int64} (h : zi_sc n I) (x : Int32) : zf_X9_unionOf N x 3 I J = some (zh_U n (I 54) x 3, I, J) := by
  refine (zp_X9_unionOf hN h.1 h.2.2.1 x 3 (by omega)).trans (congrArg (fun v => some (v, I, J)) (zz_or_cong fun i hi => ?_))
  rw [h.2.2.2.1 _ (by omega)]
theorem zs_with {N n : Nat} (hN : 100000 ≤ N) {I : Nat → Nat → Int32} {J : Nat → Nat → Int64} (h : zi_sc n I) (p : Int32) : zf_X2_scenesWith N p I J = some (zu_set (fun s => decide (¬ I 54 (7 * s + 2) &&& p = 0)) n, I, J) := by
  refine (zp_X2_scenesWith hN h.1 h.2.2.1 p).trans (congrArg (fun v => some (v, I, J)) (zu_set_cong fun i hi => ?_))
  rw [h.2.2.2.1 _ (by omega)]
/-- a set with those of a play alone -/
theorem zs_of0 {n : Nat} {I : Nat → Nat → Int32} (h : zi_sc n I) (x : Int32) : x &&& zv_X9_scenesOf I 0 = zh_P n (I 54) x 0 := by
  show x &&& I 7 0 = _
  rw [h.2.2.2.2.2.1]
  have hn := h.1
  exact zu_set_ext (by omega) (fun i hi => by rw [b_and, zu_set_at (by omega) hi]) (fun i hi _ => by rw [b_and, zu_set_out (by omega) hi]; simp)
theorem zs_of1 {n : Nat} {I : Nat → Nat → Int32} (h : zi_sc n I) (x : Int32) : x &&& zv_X9_scenesOf I 1 = zh_P n (I 54) x 1 := by
  show x &&& I 7 1 = _
  rw [h.2.2.2.2.2.2]
  have hn := h.1
  exact zu_set_ext (by omega) (fun i hi => by rw [b_and, zu_set_at (by omega) hi]) (fun i hi _ => by rw [b_and, zu_set_out (by omega) hi]; simp)
theorem zs_ofT {n : Nat} {I : Nat → Nat → Int32} (h : zi_sc n I) (x p : Int32) : x &&& zu_set (fun s => decide (¬ I 54 (7 * s + 2) &&& p = 0)) n = zh_T n (I 54) x p := by
  have hn := h.1
  exact zu_set_ext (by omega) (fun i hi => by rw [b_and, zu_set_at (by omega) hi]) (fun i hi _ => by rw [b_and, zu_set_out (by omega) hi]; simp)
theorem zu_one (N : Nat) (hN : 100000 ≤ N) : ∃ M, N = M + 1 := ⟨N - 1, by omega⟩
theorem zh_all {n : Nat} (hn : n ≤ 12) : ∀ i, i < n → bt (((1 : Int32) <<< (nI n &&& 31)) - 1) i = true := by
  have : ∀ n, n < 13 → ∀ i, i < n → bt (((1 : Int32) <<< (nI n &&& 31)) - 1) i = true := by decide +kernel
  exact this n (by omega)
theorem zh_T_all {n : Nat} (hn : n ≤ 12) (f : Nat → Int32) (p : Int32) : zh_T n f (((1 : Int32) <<< (nI n &&& 31)) - 1) p = zu_set (fun s => decide (¬ f (7 * s + 2) &&& p = 0)) n :=
  zu_set_cong fun i hi => by rw [zh_all hn i hi, Bool.true_and]
theorem zu_m1 (X : Nat → Nat → Int32) (J : Nat → Nat → Int64) (x : Int64) : zw_X12_tell (zz_u X 52 6 0) J x = zz_u X 52 6 1 := zz_uu X 52 6 0 _
theorem zu_m2 (X : Nat → Nat → Int32) (J : Nat → Nat → Int64) (x : Int64) : zw_X12_tell (zz_u X 52 6 1) J x = zz_u X 52 6 2 := zz_uu X 52 6 1 _
theorem zu_m3 (X : Nat → Nat → Int32) (J : Nat → Nat → Int64) (x : Int64) : zw_X12_tell (zz_u X 52 6 2) J x = zz_u X 52 6 3 := zz_uu X 52 6 2 _
theorem zu_y1 (X : Nat → Nat → Int32) (J : Nat → Nat → Int64) (x : Int64) : zx_X12_tell (zz_u X 52 6 0) J x = zz_u J 56 0 x := rfl
theorem zu_y2 (X : Nat → Nat → Int32) (J : Nat → Nat → Int64) (x : Int64) : zx_X12_tell (zz_u X 52 6 1) J x = zz_u J 56 1 x := rfl
theorem zu_y3 (X : Nat → Nat → Int32) (J : Nat → Nat → Int64) (x : Int64) : zx_X12_tell (zz_u X 52 6 2) J x = zz_u J 56 2 x := rfl
theorem zu_ga : ((0 : Int32) < 0 ∨ 20 ≤ (0 : Int32).toNatClampNeg) = False := eq_false (by decide)
theorem zu_gb : ((1 : Int32) < 0 ∨ 20 ≤ (1 : Int32).toNatClampNeg) = False := eq_false (by decide)
theorem zu_gc : ((2 : Int32) < 0 ∨ 20 ≤ (2 : Int32).toNatClampNeg) = False := eq_false (by decide)
theorem zi_q0 {n : Nat} {I : Nat → Nat → Int32} {J : Nat → Nat → Int64} {F : zz_F} (h : zi n I J F) : zi n (zz_u I 52 7 0) J F := zi_told h (zk_u rfl (zk_refl I)) h.2.2.2.1 h.2.2.2.2.2.2.2.2
theorem zi_q1 {n : Nat} {I : Nat → Nat → Int32} {J : Nat → Nat → Int64} {F : zz_F} (h : zi n I J F) (a : Int64) : zi n (zz_u (zz_u (zz_u I 2 3 1) 52 7 0) 52 6 1) (zz_u (zz_u J 4 0 a) 56 0 a) F := zi_told h (zk_u rfl (zk_u rfl (zk_u rfl (zk_refl I)))) (zi_tol1 rfl rfl rfl) h.2.2.2.2.2.2.2.2
theorem zi_q2 {n : Nat} {I : Nat → Nat → Int32} {J : Nat → Nat → Int64} {F : zz_F} (h : zi n I J F) (a b : Int64) : zi n (zz_u (zz_u (zz_u I 2 3 2) 52 7 0) 52 6 2) (zz_u (zz_u (zz_u (zz_u J 4 0 a) 4 1 b) 56 0 a) 56 1 b) F := zi_told h (zk_u rfl (zk_u rfl (zk_u rfl (zk_refl I)))) (zi_tol2 rfl rfl rfl rfl) h.2.2.2.2.2.2.2.2
