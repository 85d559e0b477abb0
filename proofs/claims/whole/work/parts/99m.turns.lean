/-! THE LOOM IS READY; THE SHORTEST WEAVE'S TURNS IN THE CLASS -/
theorem zs_ready {N n : Nat} (hN : 100000 ≤ N) {I : Nat → Nat → Int32} {J : Nat → Nat → Int64} {F : zz_F} (h : zi n I J F) : ∃ X m, zf_X11_readyLoom__28 N I J = some (0, X, J) ∧ zi n X J F ∧ zr_ru m (I 58) X F ∧ zw_L (zw_p n (I 54) (I 8 2) 0) (zw_p n (I 54) (I 8 2) 1) (zw_a n (I 54) (I 8 2) 0) (zw_a n (I 54) (I 8 2) 1) (zw_c m (I 58) (I 54) (I 53 13)) X ∧ (∀ x, x ≠ 28 → x ≠ 30 → x ≠ 31 → x ≠ 41 → x ≠ 42 → x ≠ 43 → X x = I x) ∧ ∀ i, i ≠ 6 → i ≠ 7 → X 41 i = I 41 i := by
  have hn := h.1.1
  obtain ⟨X0, e0, h0, fr, x1, x28⟩ := zs_fresh hN h
  obtain ⟨m, ru, bt'⟩ := zs_betw h0 fr
  have E54 : X0 54 = I 54 := x1 54 (by omega) (by omega) (by omega)
  have E58 : X0 58 = I 58 := x1 58 (by omega) (by omega) (by omega)
  have E53 : X0 53 = I 53 := x1 53 (by omega) (by omega) (by omega)
  have E8 : X0 8 = I 8 := x1 8 (by omega) (by omega) (by omega)
  have hl : X0 8 1 = -1 ∨ ∃ s, s < n ∧ X0 8 1 = nI s := by
    rw [h0.2.1.2.1]
    exact h0.2.1.2.2.2.2.2.2.2.2.2.2
  have l13 : X0 8 1 = I 53 13 := by rw [h0.2.1.2.1, E53]
  obtain ⟨X1, g1, g2, g3⟩ := zw_sc_o (N := N) (I := X0) (J := J) (last := X0 8 1) (hl.imp id (fun ⟨s, hs, e⟩ => ⟨s, by omega, e⟩)) 12 0 (N - 1) X0 (by omega) (by omega) (fun _ _ => rfl) (fun y' h1 => by omega)
  have ec : zf_X4_setCosts__28 N (X0 8 1) X0 J = some (0, X1, J) := by
    obtain ⟨M, rfl⟩ := zu_one N hN
    rw [zo_X4_setCosts__28]
    exact g3
  have s1 : zi_sc n X1 := zc_sc h0.1 (by rw [g1 5 (by omega)]) (g1 6 (by omega)) (g1 7 (by omega)) (by rw [g1 52 (by omega)]) (g1 54 (by omega))
  have mi : ∀ y, y < n → ∃ v, v ≤ 9 ∧ I 54 (7 * y + 1) = nI v ∧ zz_f X0 (nI y) 1 = nI v := fun y hy => by
    obtain ⟨_, ⟨v, _, hv, e⟩, _⟩ := h.1.2.2.2.2.1 y hy
    have e : I 54 (7 * y + 1) = nI v := e
    refine ⟨v, hv, e, ?_⟩
    rw [zu_cf1 (by omega), h0.1.2.2.2.1 _ (by omega), E54]; exact e
  have hW : ∀ x y, (x = 12 ∨ x < n) → y < n → X1 42 (x * 12 + y) = nI (zw_c m (I 58) (I 54) (I 53 13) x y) ∧ zw_c m (I 58) (I 54) (I 53 13) x y ≤ 108 := fun x y hx hy => by
    obtain ⟨v, hv, e1, e2⟩ := mi y hy
    unfold zw_c
    rw [e1, nI_clamp (by omega)]
    by_cases q : x = 12
    · subst q
      rw [if_pos rfl, show 12 * 12 + y = 144 + y by omega, (g2 y (by omega)).2, e2, l13]
      by_cases z : I 53 13 = -1
      · rw [if_pos z, z]
        refine ⟨?_, by omega⟩
        rw [show zv_X1_between X0 (-1) (nI y) = 0 from if_pos (by decide), Nat.zero_add]
        exact Int32.zero_add _
      · rw [if_neg z]
        obtain ⟨s, hs, es⟩ := hl.resolve_left (by rw [l13]; exact z)
        rw [l13] at es
        obtain ⟨k, hk, ek⟩ := zq_chgN m (I 58) (fun w => I 54 (7 * s + w)) (fun w => I 54 (7 * y + w))
        rw [es, bt' s y hs hy, nI_clamp (by omega)]
        unfold zt_c
        rw [E54, E58, ek, nI_clamp (by omega)]
        exact ⟨nI_add k v, by omega⟩
    · rw [if_neg q, (g2 y (by omega)).1 x (by omega), e2, bt' x y (by omega) hy]
      unfold zt_c
      obtain ⟨k, hk, ek⟩ := zq_chgN m (I 58) (fun w => I 54 (7 * x + w)) (fun w => I 54 (7 * y + w))
      rw [E54, E58, ek, nI_clamp (by omega)]
      exact ⟨nI_add k v, by omega⟩
  obtain ⟨X, k1, k2, k3, k4⟩ := zs_lay hN (J := J) s1 (X1 8 2) hW
  have e82 : X1 8 2 = I 8 2 := by rw [g1 8 (by omega), E8]
  rw [show X1 54 = I 54 by rw [g1 54 (by omega), E54], e82] at k4
  have fx : ∀ x, x ≠ 41 → x ≠ 42 → x ≠ 43 → X x = X0 x := fun x a b c => by rw [k2 x a c, g1 x b]
  refine ⟨X, m, ?_, zi_told h0 (fun a i hk => congrFun (fx a (fun w => by subst w; cases hk) (fun w => by subst w; cases hk) (fun w => by subst w; cases hk)) i) (zc_tol h0.2.2.2.1 (by rw [fx 2 (by omega) (by omega) (by omega)]) (by rw [fx 52 (by omega) (by omega) (by omega)]) rfl rfl) h0.2.2.2.2.2.2.2.2, ⟨ru.1, by rw [fx 52 (by omega) (by omega) (by omega)]; exact ru.2.1, by rw [fx 58 (by omega) (by omega) (by omega), E58], by rw [← E58]; exact ru.2.2.2.1, ru.2.2.2.2⟩, k4, fun x a1 a2 a3 a4 a5 a6 => by rw [fx x a4 a5 a6, x1 x a1 a2 a3], fun i i1 i2 => by rw [k3 i i1 i2, g1 41 (by omega), x1 41 (by omega) (by omega) (by omega)]⟩
  obtain ⟨M, rfl⟩ := zu_one N hN
  rw [zo_X11_readyLoom__28]
  exact zu_bd e0 (zu_bd ec (zu_bd k1 rfl))
/-- the first of the shortest -/
def zw_pE (p q : Nat) (A B : Nat → Nat) (W : Nat → Nat → Nat) : Nat → Nat → Nat → Nat → List Nat
  | 0, _, _, _ => []
  | f + 1, i, j, x => if i < p ∧ W x (A i) + zw_D min p q A B W (i + 1) j (A i) = zw_D min p q A B W i j x then 0 :: zw_pE p q A B W f (i + 1) j (A i) else 1 :: zw_pE p q A B W f i (j + 1) (B j)
theorem zw_pE_len (p q : Nat) (A B : Nat → Nat) (W : Nat → Nat → Nat) : ∀ f i j x, (zw_pE p q A B W f i j x).length = f
  | 0, _, _, _ => rfl
  | f + 1, i, j, x => by
    unfold zw_pE
    split
    · rw [List.length_cons, zw_pE_len p q A B W f]
    · rw [List.length_cons, zw_pE_len p q A B W f]
theorem zw_ca0 (A B : Nat → Nat) (i j : Nat) : zw_ca A B (i + 1) j 0 = A i := rfl
theorem zw_ca1 (A B : Nat → Nat) (i j : Nat) : zw_ca A B i (j + 1) 1 = B j := rfl
theorem zw_turns_l {N p q : Nat} {A B : Nat → Nat} {W : Nat → Nat → Nat} {I : Nat → Nat → Int32} {J : Nat → Nat → Int64} (h : zw_L p q A B W I) (hT : ∀ i' j', i' ≤ p → j' ≤ q → zw_T min p q A B W I i' j') : ∀ r i j l u (X : Nat → Nat → Int32), p - i + (q - j) = r → i ≤ p → j ≤ q → l ≤ 1 → 2 * r + 2 < u → (∀ x, x ≠ 41 → x ≠ 45 → X x = I x) → (∀ k, k ≠ 5 → X 41 k = I 41 k) → X 41 5 = nI (i + j) → ∃ X', zl_X4_findShortestTurns N u 25 (nI i) (nI j) (nI l) (nI (p + q)) (nI (i + j)) X J = some (0, X', J) ∧ (∀ x, x ≠ 41 → x ≠ 45 → X' x = I x) ∧ (∀ k, k ≠ 5 → X' 41 k = I 41 k) ∧ X' 41 5 = nI (p + q) ∧ (∀ k, k < i + j → X' 45 k = X 45 k) ∧ ∀ k, k < r → X' 45 (i + j + k) = nI ((zw_pE p q A B W r i j (zw_ca A B i j l)).getD k 0) := by
  have pq := h.1
  intro r
  induction r with
  | zero =>
    intro i j l u X hr hi hj hl hu hX h41 h5
    obtain ⟨v, rfl⟩ : ∃ v, u = v + 2 := ⟨u - 2, by omega⟩
    refine ⟨X, ?_, hX, h41, by rw [h5, show i + j = p + q by omega], fun _ _ => rfl, fun k hk => by omega⟩
    rw [zo_X4_findShortestTurns_25]
    unfold zb_X4_findShortestTurns_25
    rw [if_pos (nI_le (by omega) (by omega)), zo_X4_findShortestTurns_134]
    rfl
  | succ r ih =>
    intro i j l u X hr hi hj hl hu hX h41 h5
    obtain ⟨v, rfl⟩ : ∃ v, u = v + 2 := ⟨u - 2, by omega⟩
    have hL : zw_L p q A B W X := zw_L_c h (h41 6 (by omega)) (h41 7 (by omega)) (hX 42 (by omega) (by omega)) (hX 43 (by omega) (by omega))
    have hTX : ∀ i' j', i' ≤ p → j' ≤ q → zw_T min p q A B W X i' j' := fun i' j' h1 h2 l hl => by rw [hX 44 (by omega) (by omega)]; exact hT i' j' h1 h2 l hl
    have z1 : ((1 : Int32) = 0) = False := eq_false (by decide)
    have z0 : ((0 : Int32) = 0) = True := eq_true rfl
    have gk : (¬ (nI (i + j) < 0 ∨ 12 ≤ i + j)) = True := eq_true (fun w => w.elim (nI_pos (by omega)) (fun w => by omega))
    have nc := zw_val (I := X) (i := i) (j := j) (l := l) (by omega) (by omega) hl
    have ok := zw_ca_ok (p := p) (q := q) (A := A) (B := B) (l := l) hi hj
    have bD := zw_D_le (w := 0) (zw_W h) _ i j _ rfl ok
    have opm : zw_op 0 = min := rfl
    rw [opm] at bD
    -- the play that comes next, and what follows
    have fin : ∀ pl, (pl = 0 ∧ i < p) ∨ (pl = 1 ∧ j < q) → ∀ (rest : List Nat), zw_pE p q A B W (r + 1) i j (zw_ca A B i j l) = pl :: rest → rest = (if pl = 0 then zw_pE p q A B W r (i + 1) j (A i) else zw_pE p q A B W r i (j + 1) (B j)) → ∀ w, 2 * r + 2 < w → ∃ X', zl_X4_findShortestTurns N w 25 (nI (if pl = 0 then i + 1 else i)) (nI (if pl = 0 then j else j + 1)) (nI pl) (nI (p + q)) (nI (i + j + 1)) (zz_u (zz_u X 45 (i + j) (nI pl)) 41 5 (nI (i + j + 1))) J = some (0, X', J) ∧ (∀ x, x ≠ 41 → x ≠ 45 → X' x = I x) ∧ (∀ k, k ≠ 5 → X' 41 k = I 41 k) ∧ X' 41 5 = nI (p + q) ∧ (∀ k, k < i + j → X' 45 k = X 45 k) ∧ ∀ k, k < r + 1 → X' 45 (i + j + k) = nI ((pl :: rest).getD k 0) := fun pl hpl rest hE hR w hw => by
      have X2x : ∀ x, x ≠ 41 → x ≠ 45 → zz_u (zz_u X 45 (i + j) (nI pl)) 41 5 (nI (i + j + 1)) x = I x := fun x a b => by rw [zu_ux a, zu_ux b, hX x a b]
      have X241 : ∀ k, k ≠ 5 → zz_u (zz_u X 45 (i + j) (nI pl)) 41 5 (nI (i + j + 1)) 41 k = I 41 k := fun k hk => by rw [zz_un (fun w => hk w.2), zu_ux (by omega), h41 k hk]
      have cmb : ∀ X' : Nat → Nat → Int32, (∀ k, k < i + j + 1 → X' 45 k = zz_u (zz_u X 45 (i + j) (nI pl)) 41 5 (nI (i + j + 1)) 45 k) → (∀ k, k < r → X' 45 (i + j + 1 + k) = nI (rest.getD k 0)) → (∀ k, k < i + j → X' 45 k = X 45 k) ∧ ∀ k, k < r + 1 → X' 45 (i + j + k) = nI ((pl :: rest).getD k 0) := fun X' c1 c2 => by
        refine ⟨fun k hk => by rw [c1 k (by omega), zu_ux (by omega), zz_un (by omega)], fun k hk => ?_⟩
        cases k with
        | zero =>
          rw [Nat.add_zero, c1 (i + j) (by omega), zu_ux (by omega), zz_us]; rfl
        | succ k =>
          rw [show i + j + (k + 1) = i + j + 1 + k by omega, c2 k (by omega)]; rfl
      rcases hpl with ⟨rfl, hp⟩ | ⟨rfl, hq⟩
      · rw [if_pos rfl] at hR
        obtain ⟨X', g1, g2, g3, g4, g5, g6⟩ := ih (i + 1) j 0 w _ (by omega) (by omega) hj (by omega) hw X2x X241 (by rw [zz_us, show i + 1 + j = i + j + 1 by omega])
        rw [show i + 1 + j = i + j + 1 by omega] at g1 g5 g6
        obtain ⟨c1, c2⟩ := cmb X' g5 (by rw [hR]; exact g6)
        exact ⟨X', g1, g2, g3, g4, c1, c2⟩
      · rw [if_neg (by omega)] at hR
        obtain ⟨X', g1, g2, g3, g4, g5, g6⟩ := ih i (j + 1) 1 w _ (by omega) hi (by omega) (by omega) hw X2x X241 (by rw [zz_us]; rfl)
        rw [show i + (j + 1) = i + j + 1 by omega] at g1 g5 g6
        obtain ⟨c1, c2⟩ := cmb X' g5 (by rw [hR]; exact g6)
        exact ⟨X', g1, g2, g3, g4, c1, c2⟩
    rw [zo_X4_findShortestTurns_25]
    unfold zb_X4_findShortestTurns_25
    rw [if_neg (nI_ge (show i + j < p + q by omega) (by omega)), if_neg (nI_ge (show i + j < 12 by omega) (by omega)), h41 6 (by omega), h.2.1]
    have r72 : j < q → zw_pE p q A B W (r + 1) i j (zw_ca A B i j l) = 1 :: zw_pE p q A B W r i (j + 1) (B j) → ∃ X', zl_X4_findShortestTurns N (v + 1) 72 (nI i) (nI j) 0 (nI (p + q)) (nI (i + j)) X J = some (0, X', J) ∧ (∀ x, x ≠ 41 → x ≠ 45 → X' x = I x) ∧ (∀ k, k ≠ 5 → X' 41 k = I 41 k) ∧ X' 41 5 = nI (p + q) ∧ (∀ k, k < i + j → X' 45 k = X 45 k) ∧ ∀ k, k < r + 1 → X' 45 (i + j + k) = nI ((zw_pE p q A B W (r + 1) i j (zw_ca A B i j l)).getD k 0) := fun hq hE => by
      rw [hE, zo_X4_findShortestTurns_72]
      unfold zb_X4_findShortestTurns_72
      simp only [z0, if_true, gk, Int32.add_zero, nI_1, nI_clamp (show i + j < 2 ^ 31 by omega)]
      exact fin 1 (.inr ⟨rfl, hq⟩) _ hE rfl v (by omega)
    by_cases c : i < p
    · rw [if_neg (nI_ge c (by omega)), zw_rb0 (w := 0) hL c hj hl (hTX (i + 1) j (by omega) hj), opm, nc, hTX i j hi hj l hl]
      have e0 : zw_in p q A B (A i) := .inl ⟨i, c, rfl⟩
      have b0 := zw_D_le (w := 0) (zw_W h) _ (i + 1) j (A i) rfl (.inr e0)
      rw [opm] at b0
      have c0 := zw_W h _ _ ok e0
      by_cases d : W (zw_ca A B i j l) (A i) + zw_D min p q A B W (i + 1) j (A i) = zw_D min p q A B W i j (zw_ca A B i j l)
      · have hE : zw_pE p q A B W (r + 1) i j (zw_ca A B i j l) = 0 :: zw_pE p q A B W r (i + 1) j (A i) := if_pos ⟨c, d⟩
        rw [hE]
        simp only [z1, d, not_true_eq_false, if_false, if_true, gk, Int32.add_zero, nI_1, nI_clamp (show i + j < 2 ^ 31 by omega)]
        exact fin 0 (.inl ⟨rfl, c⟩) _ hE rfl (v + 1) (by omega)
      · have hq : j < q := Nat.lt_of_not_le (fun w => d (by rw [zw_D0 c w]))
        rw [if_pos (fun w => d ((nI_eq (by omega) (by omega)).mp w))]
        exact r72 hq (if_neg (fun w => d w.2))
    · rw [if_pos (nI_le (by omega) (by omega))]
      exact r72 (by omega) (if_neg (fun w => c w.1))
theorem zw_turns {N p q : Nat} (hN : 100000 ≤ N) {A B : Nat → Nat} {W : Nat → Nat → Nat} {I : Nat → Nat → Int32} {J : Nat → Nat → Int64} (h : zw_L p q A B W I) (hT : ∀ i' j', i' ≤ p → j' ≤ q → zw_T min p q A B W I i' j') : ∃ X', zf_X4_findShortestTurns N I J = some (0, X', J) ∧ (∀ x, x ≠ 41 → x ≠ 45 → X' x = I x) ∧ (∀ k, k ≠ 5 → X' 41 k = I 41 k) ∧ X' 41 5 = nI (p + q) ∧ ∀ k, k < p + q → X' 45 k = nI ((zw_pE p q A B W (p + q) 0 0 12).getD k 0) := by
  have pq := h.1
  obtain ⟨X', g1, g2, g3, g4, _, g6⟩ := zw_turns_l (N := N) (J := J) h hT (p + q) 0 0 0 (N - 1) (zz_u I 41 5 0) (by omega) (by omega) (by omega) (by omega) (by omega) (fun x a b => zu_ux a) (fun k hk => zz_un (fun w => hk w.2)) (zz_us _ _ _ _)
  refine ⟨X', ?_, g2, g3, g4, fun k hk => ?_⟩
  · obtain ⟨M, rfl⟩ := zu_one N hN
    rw [zo_X4_findShortestTurns]
    unfold zb_X4_findShortestTurns_0
    rw [h.2.1, h.2.2.1, nI_add]
    exact g1
  · have := g6 k hk
    rw [show 0 + 0 + k = k by omega] at this
    exact this
/-- turns are told -/
theorem zw_tell_l {N K : Nat} (hK : K ≤ 12) {I : Nat → Nat → Int32} {J : Nat → Nat → Int64} {L : Nat → Nat} (h5 : I 41 5 = nI K) (h45 : ∀ k, k < K → I 45 k = nI (L k)) : ∀ r k u (X : Nat → Nat → Int32) (Y : Nat → Nat → Int64), k + r = K → r < u → (∀ x, x ≠ 2 → X x = I x) → (∀ i, i ≠ 3 → X 2 i = I 2 i) → X 2 3 = nI k → (∀ x, x ≠ 4 → Y x = J x) → (∀ i, i < k → Y 4 i = (nI (L i)).toInt64) → ∃ X' Y', zl_X11_tellTurns N u 7 (nI k) X Y = some (0, X', Y') ∧ (∀ x, x ≠ 2 → X' x = I x) ∧ (∀ i, i ≠ 3 → X' 2 i = I 2 i) ∧ X' 2 3 = nI K ∧ (∀ x, x ≠ 4 → Y' x = J x) ∧ ∀ i, i < K → Y' 4 i = (nI (L i)).toInt64 := by
  intro r
  induction r with
  | zero =>
    intro k u X Y hk hu hX h2 h23 hY hY4
    obtain ⟨v, rfl⟩ : ∃ v, u = v + 1 := ⟨u - 1, by omega⟩
    obtain rfl : k = K := by omega
    refine ⟨X, Y, ?_, hX, h2, h23, hY, hY4⟩
    rw [zo_X11_tellTurns_7]
    unfold zb_X11_tellTurns_7
    rw [hX 41 (by omega), h5, if_pos (nI_le (Nat.le_refl k) (by omega))]
  | succ r ih =>
    intro k u X Y hk hu hX h2 h23 hY hY4
    obtain ⟨v, rfl⟩ : ∃ v, u = v + 1 := ⟨u - 1, by omega⟩
    have ta : zv_X4_turnAt X (nI k) = nI (L k) := by
      unfold zv_X4_turnAt
      rw [if_neg (nI_pos (by omega)), if_neg (nI_ge (by omega) (by omega)), nI_clamp (by omega), hX 45 (by omega), h45 k (by omega)]
    rw [zo_X11_tellTurns_7]
    unfold zb_X11_tellTurns_7
    rw [hX 41 (by omega), h5, if_neg (nI_ge (show k < K by omega) (by omega)), ta, nI_1]
    have aw : ∀ v : Int64, zw_X11_addNumber X Y v = zz_u X 2 3 (nI (k + 1)) := fun v => by
      unfold zw_X11_addNumber
      rw [h23, if_neg (nI_pos (by omega)), if_neg (nI_ge (by omega) (by omega)), nI_1]
    have ax : ∀ v : Int64, zx_X11_addNumber X Y v = zz_u Y 4 k v := fun v => by
      unfold zx_X11_addNumber
      rw [h23, if_neg (nI_pos (by omega)), if_neg (nI_ge (by omega) (by omega)), nI_clamp (by omega)]
    rw [aw, ax]
    exact ih (k + 1) v _ _ (by omega) (by omega) (fun x hx => by rw [zu_ux hx, hX x hx]) (fun i hi => by rw [zz_un (fun w => hi w.2), h2 i hi]) (zz_us _ _ _ _) (fun x hx => by rw [zu_ux hx, hY x hx]) (fun i hi => by
      by_cases q : i = k
      · rw [q, zz_us]
      · rw [zz_un (fun w => q w.2)]; exact hY4 i (by omega))
theorem zw_tell {N K : Nat} (hN : 100000 ≤ N) (hK : K ≤ 12) {I : Nat → Nat → Int32} {J : Nat → Nat → Int64} {L : Nat → Nat} (h5 : I 41 5 = nI K) (h45 : ∀ k, k < K → I 45 k = nI (L k)) : ∃ X' Y', zf_X11_tellTurns N I J = some (0, X', Y') ∧ (∀ x, x ≠ 2 → X' x = I x) ∧ (∀ i, i ≠ 3 → X' 2 i = I 2 i) ∧ X' 2 3 = nI K ∧ (∀ x, x ≠ 4 → Y' x = J x) ∧ ∀ i, i < K → Y' 4 i = (nI (L i)).toInt64 := by
  obtain ⟨X', Y', g1, g2⟩ := zw_tell_l (N := N) hK (J := J) h5 h45 K 0 (N - 1) (zz_u I 2 3 0) J (by omega) (by omega) (fun x hx => zu_ux hx) (fun i hi => zz_un (fun w => hi w.2)) (zz_us _ _ _ _) (fun _ _ => rfl) (fun i hi => by omega)
  refine ⟨X', Y', ?_, g2⟩
  obtain ⟨M, rfl⟩ := zu_one N hN
  rw [zo_X11_tellTurns]
  exact g1
