/-! moving references -/
def zz_mo (F : zz_F) : Nat := F.2.2.2.2.2.1
def zz_re (F : zz_F) : Option Nat := F.2.2.2.2.2.2.1
def zz_ru (F : zz_F) : Nat := F.2.2.2.2.2.2.2
def zz_Fre (F : zz_F) (v : Option Nat) : zz_F := (F.1, F.2.1, F.2.2.1, F.2.2.2.1, F.2.2.2.2.1, F.2.2.2.2.2.1, v, F.2.2.2.2.2.2.2)
def zz_Fru (F : zz_F) (v : Nat) : zz_F := (F.1, F.2.1, F.2.2.1, F.2.2.2.1, F.2.2.2.2.1, F.2.2.2.2.2.1, F.2.2.2.2.2.2.1, v)
def zz_Fmo (F : zz_F) (v : Nat) : zz_F := (F.1, F.2.1, F.2.2.1, F.2.2.2.1, F.2.2.2.2.1, v, F.2.2.2.2.2.2.1, F.2.2.2.2.2.2.2)
theorem zz_rvs {r : Option Nat} {b : Nat} {k : zz_C} {lv : zz_Lv} {st : List Value} {S : zz_P} (h : r = some b) (H : k lv (.ref b :: st) S) : k lv (zz_rv r :: st) S := by
  subst h
  exact H
theorem zz_kS {k : zz_C} {lv : zz_Lv} {st : List Value} {S S2 : zz_P} (h : S = S2) (H : k lv st S2) : k lv st S := h ▸ H
theorem zz_len1 {k : Nat} (h : k = 14) : 12 ≤ k := by omega
theorem zz_len2 {k : Nat} (h : k = 14) : k < 19 := by omega
theorem zz_blt1 {a b : Nat} (h : a < b) : Nat.blt a b = true := Nat.ble_eq_true_of_le h
theorem zz_blt0 {a b : Nat} (h : ¬ a < b) : Nat.blt a b = false := by
  cases q : Nat.blt a b with
  | false => rfl
  | true => exact absurd (Nat.le_of_ble_eq_true q) h
theorem zz_c1 {α : Type} {a b : Nat} {x y u w : α} (h : a < b) (H : x = y) : (bif Nat.blt a b then x else u) = (bif Nat.blt a b then y else w) := by
  rw [zz_blt1 h]
  exact H
theorem zz_c0 {α : Type} {a b : Nat} {x y u w : α} (h : ¬ a < b) (H : u = w) : (bif Nat.blt a b then x else u) = (bif Nat.blt a b then y else w) := by
  rw [zz_blt0 h]
  exact H
theorem zz_XR_re (mo : Nat) (ru : Nat) (x y : Option Nat) (a i : Nat) (hn : ¬ (a = 52 ∧ i = 8)) : zz_XR mo x ru a i = zz_XR mo y ru a i := by
  unfold zz_XR
  by_cases h1 : a < 84
  · refine zz_c1 h1 ?_
    by_cases h2 : a < 42
    · refine zz_c1 h2 ?_
      by_cases h3 : a < 21
      · refine zz_c1 h3 ?_
        by_cases h4 : a < 10
        · refine zz_c1 h4 ?_
          by_cases h5 : a < 5
          · refine zz_c1 h5 ?_
            by_cases h6 : a < 2
            · refine zz_c1 h6 ?_
              rfl
            · refine zz_c0 h6 ?_
              by_cases h7 : a < 3
              · refine zz_c1 h7 ?_
                rfl
              · refine zz_c0 h7 ?_
                rfl
          · refine zz_c0 h5 ?_
            by_cases h6 : a < 7
            · refine zz_c1 h6 ?_
              by_cases h7 : a < 6
              · refine zz_c1 h7 ?_
                rfl
              · refine zz_c0 h7 ?_
                rfl
            · refine zz_c0 h6 ?_
              by_cases h7 : a < 8
              · refine zz_c1 h7 ?_
                rfl
              · refine zz_c0 h7 ?_
                by_cases h8 : a < 9
                · refine zz_c1 h8 ?_
                  rfl
                · refine zz_c0 h8 ?_
                  rfl
        · refine zz_c0 h4 ?_
          by_cases h5 : a < 15
          · refine zz_c1 h5 ?_
            by_cases h6 : a < 12
            · refine zz_c1 h6 ?_
              by_cases h7 : a < 11
              · refine zz_c1 h7 ?_
                rfl
              · refine zz_c0 h7 ?_
                rfl
            · refine zz_c0 h6 ?_
              rfl
          · refine zz_c0 h5 ?_
            rfl
      · refine zz_c0 h3 ?_
        by_cases h4 : a < 31
        · refine zz_c1 h4 ?_
          by_cases h5 : a < 26
          · refine zz_c1 h5 ?_
            rfl
          · refine zz_c0 h5 ?_
            by_cases h6 : a < 28
            · refine zz_c1 h6 ?_
              rfl
            · refine zz_c0 h6 ?_
              by_cases h7 : a < 29
              · refine zz_c1 h7 ?_
                rfl
              · refine zz_c0 h7 ?_
                rfl
        · refine zz_c0 h4 ?_
          by_cases h5 : a < 36
          · refine zz_c1 h5 ?_
            by_cases h6 : a < 33
            · refine zz_c1 h6 ?_
              by_cases h7 : a < 32
              · refine zz_c1 h7 ?_
                rfl
              · refine zz_c0 h7 ?_
                rfl
            · refine zz_c0 h6 ?_
              rfl
          · refine zz_c0 h5 ?_
            by_cases h6 : a < 39
            · refine zz_c1 h6 ?_
              by_cases h7 : a < 37
              · refine zz_c1 h7 ?_
                rfl
              · refine zz_c0 h7 ?_
                by_cases h8 : a < 38
                · refine zz_c1 h8 ?_
                  rfl
                · refine zz_c0 h8 ?_
                  rfl
            · refine zz_c0 h6 ?_
              by_cases h7 : a < 40
              · refine zz_c1 h7 ?_
                rfl
              · refine zz_c0 h7 ?_
                by_cases h8 : a < 41
                · refine zz_c1 h8 ?_
                  rfl
                · refine zz_c0 h8 ?_
                  rfl
    · refine zz_c0 h2 ?_
      by_cases h3 : a < 63
      · refine zz_c1 h3 ?_
        by_cases h4 : a < 52
        · refine zz_c1 h4 ?_
          by_cases h5 : a < 47
          · refine zz_c1 h5 ?_
            by_cases h6 : a < 44
            · refine zz_c1 h6 ?_
              rfl
            · refine zz_c0 h6 ?_
              by_cases h7 : a < 45
              · refine zz_c1 h7 ?_
                rfl
              · refine zz_c0 h7 ?_
                by_cases h8 : a < 46
                · refine zz_c1 h8 ?_
                  rfl
                · refine zz_c0 h8 ?_
                  rfl
          · refine zz_c0 h5 ?_
            by_cases h6 : a < 49
            · refine zz_c1 h6 ?_
              rfl
            · refine zz_c0 h6 ?_
              by_cases h7 : a < 50
              · refine zz_c1 h7 ?_
                rfl
              · refine zz_c0 h7 ?_
                rfl
        · refine zz_c0 h4 ?_
          by_cases h5 : a < 57
          · refine zz_c1 h5 ?_
            by_cases h6 : a < 54
            · refine zz_c1 h6 ?_
              by_cases h7 : a < 53
              · refine zz_c1 h7 ?_
                by_cases h8 : i < 49
                · refine zz_c1 h8 ?_
                  by_cases h9 : i < 24
                  · refine zz_c1 h9 ?_
                    by_cases h10 : i < 12
                    · refine zz_c1 h10 ?_
                      by_cases h11 : i < 6
                      · refine zz_c1 h11 ?_
                        by_cases h12 : i < 3
                        · refine zz_c1 h12 ?_
                          by_cases h13 : i < 1
                          · refine zz_c1 h13 ?_
                            first | rfl | exact absurd (And.intro (by omega) (by omega)) hn
                          · refine zz_c0 h13 ?_
                            by_cases h14 : i < 2
                            · refine zz_c1 h14 ?_
                              first | rfl | exact absurd (And.intro (by omega) (by omega)) hn
                            · refine zz_c0 h14 ?_
                              first | rfl | exact absurd (And.intro (by omega) (by omega)) hn
                        · refine zz_c0 h12 ?_
                          by_cases h13 : i < 4
                          · refine zz_c1 h13 ?_
                            first | rfl | exact absurd (And.intro (by omega) (by omega)) hn
                          · refine zz_c0 h13 ?_
                            by_cases h14 : i < 5
                            · refine zz_c1 h14 ?_
                              first | rfl | exact absurd (And.intro (by omega) (by omega)) hn
                            · refine zz_c0 h14 ?_
                              first | rfl | exact absurd (And.intro (by omega) (by omega)) hn
                      · refine zz_c0 h11 ?_
                        by_cases h12 : i < 9
                        · refine zz_c1 h12 ?_
                          by_cases h13 : i < 7
                          · refine zz_c1 h13 ?_
                            first | rfl | exact absurd (And.intro (by omega) (by omega)) hn
                          · refine zz_c0 h13 ?_
                            by_cases h14 : i < 8
                            · refine zz_c1 h14 ?_
                              first | rfl | exact absurd (And.intro (by omega) (by omega)) hn
                            · refine zz_c0 h14 ?_
                              first | rfl | exact absurd (And.intro (by omega) (by omega)) hn
                        · refine zz_c0 h12 ?_
                          first | rfl | exact absurd (And.intro (by omega) (by omega)) hn
                    · refine zz_c0 h10 ?_
                      by_cases h11 : i < 18
                      · refine zz_c1 h11 ?_
                        by_cases h12 : i < 15
                        · refine zz_c1 h12 ?_
                          by_cases h13 : i < 13
                          · refine zz_c1 h13 ?_
                            first | rfl | exact absurd (And.intro (by omega) (by omega)) hn
                          · refine zz_c0 h13 ?_
                            by_cases h14 : i < 14
                            · refine zz_c1 h14 ?_
                              first | rfl | exact absurd (And.intro (by omega) (by omega)) hn
                            · refine zz_c0 h14 ?_
                              first | rfl | exact absurd (And.intro (by omega) (by omega)) hn
                        · refine zz_c0 h12 ?_
                          by_cases h13 : i < 16
                          · refine zz_c1 h13 ?_
                            first | rfl | exact absurd (And.intro (by omega) (by omega)) hn
                          · refine zz_c0 h13 ?_
                            first | rfl | exact absurd (And.intro (by omega) (by omega)) hn
                      · refine zz_c0 h11 ?_
                        by_cases h12 : i < 21
                        · refine zz_c1 h12 ?_
                          by_cases h13 : i < 19
                          · refine zz_c1 h13 ?_
                            first | rfl | exact absurd (And.intro (by omega) (by omega)) hn
                          · refine zz_c0 h13 ?_
                            by_cases h14 : i < 20
                            · refine zz_c1 h14 ?_
                              first | rfl | exact absurd (And.intro (by omega) (by omega)) hn
                            · refine zz_c0 h14 ?_
                              first | rfl | exact absurd (And.intro (by omega) (by omega)) hn
                        · refine zz_c0 h12 ?_
                          by_cases h13 : i < 22
                          · refine zz_c1 h13 ?_
                            first | rfl | exact absurd (And.intro (by omega) (by omega)) hn
                          · refine zz_c0 h13 ?_
                            by_cases h14 : i < 23
                            · refine zz_c1 h14 ?_
                              first | rfl | exact absurd (And.intro (by omega) (by omega)) hn
                            · refine zz_c0 h14 ?_
                              first | rfl | exact absurd (And.intro (by omega) (by omega)) hn
                  · refine zz_c0 h9 ?_
                    by_cases h10 : i < 36
                    · refine zz_c1 h10 ?_
                      by_cases h11 : i < 30
                      · refine zz_c1 h11 ?_
                        by_cases h12 : i < 27
                        · refine zz_c1 h12 ?_
                          by_cases h13 : i < 25
                          · refine zz_c1 h13 ?_
                            first | rfl | exact absurd (And.intro (by omega) (by omega)) hn
                          · refine zz_c0 h13 ?_
                            by_cases h14 : i < 26
                            · refine zz_c1 h14 ?_
                              first | rfl | exact absurd (And.intro (by omega) (by omega)) hn
                            · refine zz_c0 h14 ?_
                              first | rfl | exact absurd (And.intro (by omega) (by omega)) hn
                        · refine zz_c0 h12 ?_
                          by_cases h13 : i < 28
                          · refine zz_c1 h13 ?_
                            first | rfl | exact absurd (And.intro (by omega) (by omega)) hn
                          · refine zz_c0 h13 ?_
                            first | rfl | exact absurd (And.intro (by omega) (by omega)) hn
                      · refine zz_c0 h11 ?_
                        by_cases h12 : i < 33
                        · refine zz_c1 h12 ?_
                          by_cases h13 : i < 31
                          · refine zz_c1 h13 ?_
                            first | rfl | exact absurd (And.intro (by omega) (by omega)) hn
                          · refine zz_c0 h13 ?_
                            by_cases h14 : i < 32
                            · refine zz_c1 h14 ?_
                              first | rfl | exact absurd (And.intro (by omega) (by omega)) hn
                            · refine zz_c0 h14 ?_
                              first | rfl | exact absurd (And.intro (by omega) (by omega)) hn
                        · refine zz_c0 h12 ?_
                          by_cases h13 : i < 34
                          · refine zz_c1 h13 ?_
                            first | rfl | exact absurd (And.intro (by omega) (by omega)) hn
                          · refine zz_c0 h13 ?_
                            by_cases h14 : i < 35
                            · refine zz_c1 h14 ?_
                              first | rfl | exact absurd (And.intro (by omega) (by omega)) hn
                            · refine zz_c0 h14 ?_
                              first | rfl | exact absurd (And.intro (by omega) (by omega)) hn
                    · refine zz_c0 h10 ?_
                      by_cases h11 : i < 42
                      · refine zz_c1 h11 ?_
                        by_cases h12 : i < 39
                        · refine zz_c1 h12 ?_
                          by_cases h13 : i < 37
                          · refine zz_c1 h13 ?_
                            first | rfl | exact absurd (And.intro (by omega) (by omega)) hn
                          · refine zz_c0 h13 ?_
                            by_cases h14 : i < 38
                            · refine zz_c1 h14 ?_
                              first | rfl | exact absurd (And.intro (by omega) (by omega)) hn
                            · refine zz_c0 h14 ?_
                              first | rfl | exact absurd (And.intro (by omega) (by omega)) hn
                        · refine zz_c0 h12 ?_
                          by_cases h13 : i < 40
                          · refine zz_c1 h13 ?_
                            first | rfl | exact absurd (And.intro (by omega) (by omega)) hn
                          · refine zz_c0 h13 ?_
                            by_cases h14 : i < 41
                            · refine zz_c1 h14 ?_
                              first | rfl | exact absurd (And.intro (by omega) (by omega)) hn
                            · refine zz_c0 h14 ?_
                              first | rfl | exact absurd (And.intro (by omega) (by omega)) hn
                      · refine zz_c0 h11 ?_
                        by_cases h12 : i < 45
                        · refine zz_c1 h12 ?_
                          by_cases h13 : i < 43
                          · refine zz_c1 h13 ?_
                            first | rfl | exact absurd (And.intro (by omega) (by omega)) hn
                          · refine zz_c0 h13 ?_
                            first | rfl | exact absurd (And.intro (by omega) (by omega)) hn
                        · refine zz_c0 h12 ?_
                          by_cases h13 : i < 47
                          · refine zz_c1 h13 ?_
                            by_cases h14 : i < 46
                            · refine zz_c1 h14 ?_
                              first | rfl | exact absurd (And.intro (by omega) (by omega)) hn
                            · refine zz_c0 h14 ?_
                              first | rfl | exact absurd (And.intro (by omega) (by omega)) hn
                          · refine zz_c0 h13 ?_
                            by_cases h14 : i < 48
                            · refine zz_c1 h14 ?_
                              first | rfl | exact absurd (And.intro (by omega) (by omega)) hn
                            · refine zz_c0 h14 ?_
                              first | rfl | exact absurd (And.intro (by omega) (by omega)) hn
                · refine zz_c0 h8 ?_
                  rfl
              · refine zz_c0 h7 ?_
                rfl
            · refine zz_c0 h6 ?_
              rfl
          · refine zz_c0 h5 ?_
            rfl
      · refine zz_c0 h3 ?_
        rfl
  · refine zz_c0 h1 ?_
    rfl
theorem zz_pRre (F : zz_F) (I : Nat → Nat → Int32) (J : Nat → Nat → Int64) (v : Nat) : zz_pR (zz_S F I J) 52 8 (some v) = zz_S (zz_Fre F (some v)) I J := by
  refine congrArg (fun g => (F.1, F.2.1, zz_XK F.2.2.1, zz_XL F.2.2.2.2.1 F.2.2.2.1, I, g, J)) ?_
  funext a i
  show (if a = 52 ∧ i = 8 then some v else zz_XR F.2.2.2.2.2.1 F.2.2.2.2.2.2.1 F.2.2.2.2.2.2.2 a i) = zz_XR F.2.2.2.2.2.1 (some v) F.2.2.2.2.2.2.2 a i
  by_cases h : a = 52 ∧ i = 8
  · rw [if_pos h, h.1, h.2]
    rfl
  · rw [if_neg h]
    exact zz_XR_re F.2.2.2.2.2.1 F.2.2.2.2.2.2.2 _ _ a i h
theorem zz_XR_ru (mo : Nat) (re : Option Nat) (x y : Nat) (a i : Nat) (hn : ¬ (a = 52 ∧ i = 14)) : zz_XR mo re x a i = zz_XR mo re y a i := by
  unfold zz_XR
  by_cases h1 : a < 84
  · refine zz_c1 h1 ?_
    by_cases h2 : a < 42
    · refine zz_c1 h2 ?_
      by_cases h3 : a < 21
      · refine zz_c1 h3 ?_
        by_cases h4 : a < 10
        · refine zz_c1 h4 ?_
          by_cases h5 : a < 5
          · refine zz_c1 h5 ?_
            by_cases h6 : a < 2
            · refine zz_c1 h6 ?_
              rfl
            · refine zz_c0 h6 ?_
              by_cases h7 : a < 3
              · refine zz_c1 h7 ?_
                rfl
              · refine zz_c0 h7 ?_
                rfl
          · refine zz_c0 h5 ?_
            by_cases h6 : a < 7
            · refine zz_c1 h6 ?_
              by_cases h7 : a < 6
              · refine zz_c1 h7 ?_
                rfl
              · refine zz_c0 h7 ?_
                rfl
            · refine zz_c0 h6 ?_
              by_cases h7 : a < 8
              · refine zz_c1 h7 ?_
                rfl
              · refine zz_c0 h7 ?_
                by_cases h8 : a < 9
                · refine zz_c1 h8 ?_
                  rfl
                · refine zz_c0 h8 ?_
                  rfl
        · refine zz_c0 h4 ?_
          by_cases h5 : a < 15
          · refine zz_c1 h5 ?_
            by_cases h6 : a < 12
            · refine zz_c1 h6 ?_
              by_cases h7 : a < 11
              · refine zz_c1 h7 ?_
                rfl
              · refine zz_c0 h7 ?_
                rfl
            · refine zz_c0 h6 ?_
              rfl
          · refine zz_c0 h5 ?_
            rfl
      · refine zz_c0 h3 ?_
        by_cases h4 : a < 31
        · refine zz_c1 h4 ?_
          by_cases h5 : a < 26
          · refine zz_c1 h5 ?_
            rfl
          · refine zz_c0 h5 ?_
            by_cases h6 : a < 28
            · refine zz_c1 h6 ?_
              rfl
            · refine zz_c0 h6 ?_
              by_cases h7 : a < 29
              · refine zz_c1 h7 ?_
                rfl
              · refine zz_c0 h7 ?_
                rfl
        · refine zz_c0 h4 ?_
          by_cases h5 : a < 36
          · refine zz_c1 h5 ?_
            by_cases h6 : a < 33
            · refine zz_c1 h6 ?_
              by_cases h7 : a < 32
              · refine zz_c1 h7 ?_
                rfl
              · refine zz_c0 h7 ?_
                rfl
            · refine zz_c0 h6 ?_
              rfl
          · refine zz_c0 h5 ?_
            by_cases h6 : a < 39
            · refine zz_c1 h6 ?_
              by_cases h7 : a < 37
              · refine zz_c1 h7 ?_
                rfl
              · refine zz_c0 h7 ?_
                by_cases h8 : a < 38
                · refine zz_c1 h8 ?_
                  rfl
                · refine zz_c0 h8 ?_
                  rfl
            · refine zz_c0 h6 ?_
              by_cases h7 : a < 40
              · refine zz_c1 h7 ?_
                rfl
              · refine zz_c0 h7 ?_
                by_cases h8 : a < 41
                · refine zz_c1 h8 ?_
                  rfl
                · refine zz_c0 h8 ?_
                  rfl
    · refine zz_c0 h2 ?_
      by_cases h3 : a < 63
      · refine zz_c1 h3 ?_
        by_cases h4 : a < 52
        · refine zz_c1 h4 ?_
          by_cases h5 : a < 47
          · refine zz_c1 h5 ?_
            by_cases h6 : a < 44
            · refine zz_c1 h6 ?_
              rfl
            · refine zz_c0 h6 ?_
              by_cases h7 : a < 45
              · refine zz_c1 h7 ?_
                rfl
              · refine zz_c0 h7 ?_
                by_cases h8 : a < 46
                · refine zz_c1 h8 ?_
                  rfl
                · refine zz_c0 h8 ?_
                  rfl
          · refine zz_c0 h5 ?_
            by_cases h6 : a < 49
            · refine zz_c1 h6 ?_
              rfl
            · refine zz_c0 h6 ?_
              by_cases h7 : a < 50
              · refine zz_c1 h7 ?_
                rfl
              · refine zz_c0 h7 ?_
                rfl
        · refine zz_c0 h4 ?_
          by_cases h5 : a < 57
          · refine zz_c1 h5 ?_
            by_cases h6 : a < 54
            · refine zz_c1 h6 ?_
              by_cases h7 : a < 53
              · refine zz_c1 h7 ?_
                by_cases h8 : i < 49
                · refine zz_c1 h8 ?_
                  by_cases h9 : i < 24
                  · refine zz_c1 h9 ?_
                    by_cases h10 : i < 12
                    · refine zz_c1 h10 ?_
                      by_cases h11 : i < 6
                      · refine zz_c1 h11 ?_
                        by_cases h12 : i < 3
                        · refine zz_c1 h12 ?_
                          by_cases h13 : i < 1
                          · refine zz_c1 h13 ?_
                            first | rfl | exact absurd (And.intro (by omega) (by omega)) hn
                          · refine zz_c0 h13 ?_
                            by_cases h14 : i < 2
                            · refine zz_c1 h14 ?_
                              first | rfl | exact absurd (And.intro (by omega) (by omega)) hn
                            · refine zz_c0 h14 ?_
                              first | rfl | exact absurd (And.intro (by omega) (by omega)) hn
                        · refine zz_c0 h12 ?_
                          by_cases h13 : i < 4
                          · refine zz_c1 h13 ?_
                            first | rfl | exact absurd (And.intro (by omega) (by omega)) hn
                          · refine zz_c0 h13 ?_
                            by_cases h14 : i < 5
                            · refine zz_c1 h14 ?_
                              first | rfl | exact absurd (And.intro (by omega) (by omega)) hn
                            · refine zz_c0 h14 ?_
                              first | rfl | exact absurd (And.intro (by omega) (by omega)) hn
                      · refine zz_c0 h11 ?_
                        by_cases h12 : i < 9
                        · refine zz_c1 h12 ?_
                          by_cases h13 : i < 7
                          · refine zz_c1 h13 ?_
                            first | rfl | exact absurd (And.intro (by omega) (by omega)) hn
                          · refine zz_c0 h13 ?_
                            by_cases h14 : i < 8
                            · refine zz_c1 h14 ?_
                              first | rfl | exact absurd (And.intro (by omega) (by omega)) hn
                            · refine zz_c0 h14 ?_
                              first | rfl | exact absurd (And.intro (by omega) (by omega)) hn
                        · refine zz_c0 h12 ?_
                          first | rfl | exact absurd (And.intro (by omega) (by omega)) hn
                    · refine zz_c0 h10 ?_
                      by_cases h11 : i < 18
                      · refine zz_c1 h11 ?_
                        by_cases h12 : i < 15
                        · refine zz_c1 h12 ?_
                          by_cases h13 : i < 13
                          · refine zz_c1 h13 ?_
                            first | rfl | exact absurd (And.intro (by omega) (by omega)) hn
                          · refine zz_c0 h13 ?_
                            by_cases h14 : i < 14
                            · refine zz_c1 h14 ?_
                              first | rfl | exact absurd (And.intro (by omega) (by omega)) hn
                            · refine zz_c0 h14 ?_
                              first | rfl | exact absurd (And.intro (by omega) (by omega)) hn
                        · refine zz_c0 h12 ?_
                          by_cases h13 : i < 16
                          · refine zz_c1 h13 ?_
                            first | rfl | exact absurd (And.intro (by omega) (by omega)) hn
                          · refine zz_c0 h13 ?_
                            first | rfl | exact absurd (And.intro (by omega) (by omega)) hn
                      · refine zz_c0 h11 ?_
                        by_cases h12 : i < 21
                        · refine zz_c1 h12 ?_
                          by_cases h13 : i < 19
                          · refine zz_c1 h13 ?_
                            first | rfl | exact absurd (And.intro (by omega) (by omega)) hn
                          · refine zz_c0 h13 ?_
                            by_cases h14 : i < 20
                            · refine zz_c1 h14 ?_
                              first | rfl | exact absurd (And.intro (by omega) (by omega)) hn
                            · refine zz_c0 h14 ?_
                              first | rfl | exact absurd (And.intro (by omega) (by omega)) hn
                        · refine zz_c0 h12 ?_
                          by_cases h13 : i < 22
                          · refine zz_c1 h13 ?_
                            first | rfl | exact absurd (And.intro (by omega) (by omega)) hn
                          · refine zz_c0 h13 ?_
                            by_cases h14 : i < 23
                            · refine zz_c1 h14 ?_
                              first | rfl | exact absurd (And.intro (by omega) (by omega)) hn
                            · refine zz_c0 h14 ?_
                              first | rfl | exact absurd (And.intro (by omega) (by omega)) hn
                  · refine zz_c0 h9 ?_
                    by_cases h10 : i < 36
                    · refine zz_c1 h10 ?_
                      by_cases h11 : i < 30
                      · refine zz_c1 h11 ?_
                        by_cases h12 : i < 27
                        · refine zz_c1 h12 ?_
                          by_cases h13 : i < 25
                          · refine zz_c1 h13 ?_
                            first | rfl | exact absurd (And.intro (by omega) (by omega)) hn
                          · refine zz_c0 h13 ?_
                            by_cases h14 : i < 26
                            · refine zz_c1 h14 ?_
                              first | rfl | exact absurd (And.intro (by omega) (by omega)) hn
                            · refine zz_c0 h14 ?_
                              first | rfl | exact absurd (And.intro (by omega) (by omega)) hn
                        · refine zz_c0 h12 ?_
                          by_cases h13 : i < 28
                          · refine zz_c1 h13 ?_
                            first | rfl | exact absurd (And.intro (by omega) (by omega)) hn
                          · refine zz_c0 h13 ?_
                            first | rfl | exact absurd (And.intro (by omega) (by omega)) hn
                      · refine zz_c0 h11 ?_
                        by_cases h12 : i < 33
                        · refine zz_c1 h12 ?_
                          by_cases h13 : i < 31
                          · refine zz_c1 h13 ?_
                            first | rfl | exact absurd (And.intro (by omega) (by omega)) hn
                          · refine zz_c0 h13 ?_
                            by_cases h14 : i < 32
                            · refine zz_c1 h14 ?_
                              first | rfl | exact absurd (And.intro (by omega) (by omega)) hn
                            · refine zz_c0 h14 ?_
                              first | rfl | exact absurd (And.intro (by omega) (by omega)) hn
                        · refine zz_c0 h12 ?_
                          by_cases h13 : i < 34
                          · refine zz_c1 h13 ?_
                            first | rfl | exact absurd (And.intro (by omega) (by omega)) hn
                          · refine zz_c0 h13 ?_
                            by_cases h14 : i < 35
                            · refine zz_c1 h14 ?_
                              first | rfl | exact absurd (And.intro (by omega) (by omega)) hn
                            · refine zz_c0 h14 ?_
                              first | rfl | exact absurd (And.intro (by omega) (by omega)) hn
                    · refine zz_c0 h10 ?_
                      by_cases h11 : i < 42
                      · refine zz_c1 h11 ?_
                        by_cases h12 : i < 39
                        · refine zz_c1 h12 ?_
                          by_cases h13 : i < 37
                          · refine zz_c1 h13 ?_
                            first | rfl | exact absurd (And.intro (by omega) (by omega)) hn
                          · refine zz_c0 h13 ?_
                            by_cases h14 : i < 38
                            · refine zz_c1 h14 ?_
                              first | rfl | exact absurd (And.intro (by omega) (by omega)) hn
                            · refine zz_c0 h14 ?_
                              first | rfl | exact absurd (And.intro (by omega) (by omega)) hn
                        · refine zz_c0 h12 ?_
                          by_cases h13 : i < 40
                          · refine zz_c1 h13 ?_
                            first | rfl | exact absurd (And.intro (by omega) (by omega)) hn
                          · refine zz_c0 h13 ?_
                            by_cases h14 : i < 41
                            · refine zz_c1 h14 ?_
                              first | rfl | exact absurd (And.intro (by omega) (by omega)) hn
                            · refine zz_c0 h14 ?_
                              first | rfl | exact absurd (And.intro (by omega) (by omega)) hn
                      · refine zz_c0 h11 ?_
                        by_cases h12 : i < 45
                        · refine zz_c1 h12 ?_
                          by_cases h13 : i < 43
                          · refine zz_c1 h13 ?_
                            first | rfl | exact absurd (And.intro (by omega) (by omega)) hn
                          · refine zz_c0 h13 ?_
                            first | rfl | exact absurd (And.intro (by omega) (by omega)) hn
                        · refine zz_c0 h12 ?_
                          by_cases h13 : i < 47
                          · refine zz_c1 h13 ?_
                            by_cases h14 : i < 46
                            · refine zz_c1 h14 ?_
                              first | rfl | exact absurd (And.intro (by omega) (by omega)) hn
                            · refine zz_c0 h14 ?_
                              first | rfl | exact absurd (And.intro (by omega) (by omega)) hn
                          · refine zz_c0 h13 ?_
                            by_cases h14 : i < 48
                            · refine zz_c1 h14 ?_
                              first | rfl | exact absurd (And.intro (by omega) (by omega)) hn
                            · refine zz_c0 h14 ?_
                              first | rfl | exact absurd (And.intro (by omega) (by omega)) hn
                · refine zz_c0 h8 ?_
                  rfl
              · refine zz_c0 h7 ?_
                rfl
            · refine zz_c0 h6 ?_
              rfl
          · refine zz_c0 h5 ?_
            rfl
      · refine zz_c0 h3 ?_
        rfl
  · refine zz_c0 h1 ?_
    rfl
theorem zz_pRru (F : zz_F) (I : Nat → Nat → Int32) (J : Nat → Nat → Int64) (v : Nat) : zz_pR (zz_S F I J) 52 14 (some v) = zz_S (zz_Fru F v) I J := by
  refine congrArg (fun g => (F.1, F.2.1, zz_XK F.2.2.1, zz_XL F.2.2.2.2.1 F.2.2.2.1, I, g, J)) ?_
  funext a i
  show (if a = 52 ∧ i = 14 then some v else zz_XR F.2.2.2.2.2.1 F.2.2.2.2.2.2.1 F.2.2.2.2.2.2.2 a i) = zz_XR F.2.2.2.2.2.1 F.2.2.2.2.2.2.1 v a i
  by_cases h : a = 52 ∧ i = 14
  · rw [if_pos h, h.1, h.2]
    rfl
  · rw [if_neg h]
    exact zz_XR_ru F.2.2.2.2.2.1 F.2.2.2.2.2.2.1 _ _ a i h
theorem zz_XR_mo (re : Option Nat) (ru : Nat) (x y : Nat) (a i : Nat) (hn : ¬ (a = 46 ∧ i = 3)) : zz_XR x re ru a i = zz_XR y re ru a i := by
  unfold zz_XR
  by_cases h1 : a < 84
  · refine zz_c1 h1 ?_
    by_cases h2 : a < 42
    · refine zz_c1 h2 ?_
      by_cases h3 : a < 21
      · refine zz_c1 h3 ?_
        by_cases h4 : a < 10
        · refine zz_c1 h4 ?_
          by_cases h5 : a < 5
          · refine zz_c1 h5 ?_
            by_cases h6 : a < 2
            · refine zz_c1 h6 ?_
              rfl
            · refine zz_c0 h6 ?_
              by_cases h7 : a < 3
              · refine zz_c1 h7 ?_
                rfl
              · refine zz_c0 h7 ?_
                rfl
          · refine zz_c0 h5 ?_
            by_cases h6 : a < 7
            · refine zz_c1 h6 ?_
              by_cases h7 : a < 6
              · refine zz_c1 h7 ?_
                rfl
              · refine zz_c0 h7 ?_
                rfl
            · refine zz_c0 h6 ?_
              by_cases h7 : a < 8
              · refine zz_c1 h7 ?_
                rfl
              · refine zz_c0 h7 ?_
                by_cases h8 : a < 9
                · refine zz_c1 h8 ?_
                  rfl
                · refine zz_c0 h8 ?_
                  rfl
        · refine zz_c0 h4 ?_
          by_cases h5 : a < 15
          · refine zz_c1 h5 ?_
            by_cases h6 : a < 12
            · refine zz_c1 h6 ?_
              by_cases h7 : a < 11
              · refine zz_c1 h7 ?_
                rfl
              · refine zz_c0 h7 ?_
                rfl
            · refine zz_c0 h6 ?_
              rfl
          · refine zz_c0 h5 ?_
            rfl
      · refine zz_c0 h3 ?_
        by_cases h4 : a < 31
        · refine zz_c1 h4 ?_
          by_cases h5 : a < 26
          · refine zz_c1 h5 ?_
            rfl
          · refine zz_c0 h5 ?_
            by_cases h6 : a < 28
            · refine zz_c1 h6 ?_
              rfl
            · refine zz_c0 h6 ?_
              by_cases h7 : a < 29
              · refine zz_c1 h7 ?_
                rfl
              · refine zz_c0 h7 ?_
                rfl
        · refine zz_c0 h4 ?_
          by_cases h5 : a < 36
          · refine zz_c1 h5 ?_
            by_cases h6 : a < 33
            · refine zz_c1 h6 ?_
              by_cases h7 : a < 32
              · refine zz_c1 h7 ?_
                rfl
              · refine zz_c0 h7 ?_
                rfl
            · refine zz_c0 h6 ?_
              rfl
          · refine zz_c0 h5 ?_
            by_cases h6 : a < 39
            · refine zz_c1 h6 ?_
              by_cases h7 : a < 37
              · refine zz_c1 h7 ?_
                rfl
              · refine zz_c0 h7 ?_
                by_cases h8 : a < 38
                · refine zz_c1 h8 ?_
                  rfl
                · refine zz_c0 h8 ?_
                  rfl
            · refine zz_c0 h6 ?_
              by_cases h7 : a < 40
              · refine zz_c1 h7 ?_
                rfl
              · refine zz_c0 h7 ?_
                by_cases h8 : a < 41
                · refine zz_c1 h8 ?_
                  rfl
                · refine zz_c0 h8 ?_
                  rfl
    · refine zz_c0 h2 ?_
      by_cases h3 : a < 63
      · refine zz_c1 h3 ?_
        by_cases h4 : a < 52
        · refine zz_c1 h4 ?_
          by_cases h5 : a < 47
          · refine zz_c1 h5 ?_
            by_cases h6 : a < 44
            · refine zz_c1 h6 ?_
              rfl
            · refine zz_c0 h6 ?_
              by_cases h7 : a < 45
              · refine zz_c1 h7 ?_
                rfl
              · refine zz_c0 h7 ?_
                by_cases h8 : a < 46
                · refine zz_c1 h8 ?_
                  rfl
                · refine zz_c0 h8 ?_
                  by_cases h9 : i < 4
                  · refine zz_c1 h9 ?_
                    by_cases h10 : i < 2
                    · refine zz_c1 h10 ?_
                      by_cases h11 : i < 1
                      · refine zz_c1 h11 ?_
                        first | rfl | exact absurd (And.intro (by omega) (by omega)) hn
                      · refine zz_c0 h11 ?_
                        first | rfl | exact absurd (And.intro (by omega) (by omega)) hn
                    · refine zz_c0 h10 ?_
                      by_cases h11 : i < 3
                      · refine zz_c1 h11 ?_
                        first | rfl | exact absurd (And.intro (by omega) (by omega)) hn
                      · refine zz_c0 h11 ?_
                        first | rfl | exact absurd (And.intro (by omega) (by omega)) hn
                  · refine zz_c0 h9 ?_
                    rfl
          · refine zz_c0 h5 ?_
            by_cases h6 : a < 49
            · refine zz_c1 h6 ?_
              rfl
            · refine zz_c0 h6 ?_
              by_cases h7 : a < 50
              · refine zz_c1 h7 ?_
                rfl
              · refine zz_c0 h7 ?_
                rfl
        · refine zz_c0 h4 ?_
          by_cases h5 : a < 57
          · refine zz_c1 h5 ?_
            by_cases h6 : a < 54
            · refine zz_c1 h6 ?_
              by_cases h7 : a < 53
              · refine zz_c1 h7 ?_
                rfl
              · refine zz_c0 h7 ?_
                rfl
            · refine zz_c0 h6 ?_
              rfl
          · refine zz_c0 h5 ?_
            rfl
      · refine zz_c0 h3 ?_
        rfl
  · refine zz_c0 h1 ?_
    rfl
theorem zz_pRmo (F : zz_F) (I : Nat → Nat → Int32) (J : Nat → Nat → Int64) (v : Nat) : zz_pR (zz_S F I J) 46 3 (some v) = zz_S (zz_Fmo F v) I J := by
  refine congrArg (fun g => (F.1, F.2.1, zz_XK F.2.2.1, zz_XL F.2.2.2.2.1 F.2.2.2.1, I, g, J)) ?_
  funext a i
  show (if a = 46 ∧ i = 3 then some v else zz_XR F.2.2.2.2.2.1 F.2.2.2.2.2.2.1 F.2.2.2.2.2.2.2 a i) = zz_XR v F.2.2.2.2.2.2.1 F.2.2.2.2.2.2.2 a i
  by_cases h : a = 46 ∧ i = 3
  · rw [if_pos h, h.1, h.2]
    rfl
  · rw [if_neg h]
    exact zz_XR_mo F.2.2.2.2.2.2.1 F.2.2.2.2.2.2.2 _ _ a i h
def zz_Fnew (F : zz_F) (n : Nat) : zz_F := (F.1 + 1, F.2.1 + n, va_up F.2.2.1 (F.1 + 2) 14, va_up F.2.2.2.1 (F.1 + 2) n, F.2.2.2.2)
theorem zz_XK_up (K : Nat → Nat) (b k : Nat) (h : 84 ≤ b) : va_up (zz_XK K) b k = zz_XK (va_up K b k) := by
  funext a
  unfold va_up zz_XK
  by_cases h1 : a < 84
  · rw [if_neg (by omega)]
    refine zz_c1 h1 ?_
    rfl
  · by_cases h2 : a = b
    · rw [if_pos h2, zz_blt0 h1]
      show k = if a = b then k else K a
      rw [if_pos h2]
    · rw [if_neg h2]
      refine zz_c0 h1 ?_
      exact (if_neg h2).symm
theorem zz_XL_up (n1 : Nat) (K : Nat → Nat) (b k : Nat) (h : 84 ≤ b) : va_up (zz_XL n1 K) b k = zz_XL n1 (va_up K b k) := by
  funext a
  unfold va_up zz_XL
  by_cases h1 : a < 84
  · rw [if_neg (by omega)]
    refine zz_c1 h1 ?_
    rfl
  · by_cases h2 : a = b
    · rw [if_pos h2, zz_blt0 h1]
      show k = if a = b then k else K a
      rw [if_pos h2]
    · rw [if_neg h2]
      refine zz_c0 h1 ?_
      exact (if_neg h2).symm
theorem zz_XR_up (mo : Nat) (re : Option Nat) (ru b : Nat) (h : 84 ≤ b) : va_up (zz_XR mo re ru) b (fun _ => none) = zz_XR mo re ru := by
  funext a i
  unfold va_up
  by_cases h2 : a = b
  · rw [if_pos h2]
    unfold zz_XR
    rw [zz_blt0 (by omega)]
    rfl
  · rw [if_neg h2]
theorem zz_pnew (F : zz_F) (I : Nat → Nat → Int32) (J : Nat → Nat → Int64) (n : Nat) (h : 82 ≤ F.1) : zz_new (zz_S F I J) 14 n = zz_S (zz_Fnew F n) (va_up I (F.1 + 2) (fun _ => 0)) (va_up J (F.1 + 2) (fun _ => 0)) := by
  show (F.1 + 1, F.2.1 + n, va_up (zz_XK F.2.2.1) (F.1 + 2) 14, va_up (zz_XL F.2.2.2.2.1 F.2.2.2.1) (F.1 + 2) n, va_up I (F.1 + 2) (fun _ => 0), va_up (zz_XR F.2.2.2.2.2.1 F.2.2.2.2.2.2.1 F.2.2.2.2.2.2.2) (F.1 + 2) (fun _ => none), va_up J (F.1 + 2) (fun _ => 0)) = _
  rw [zz_XK_up _ _ _ (by omega), zz_XL_up _ _ _ _ (by omega), zz_XR_up _ _ _ _ (by omega)]
  rfl
theorem zz_bi {d j pc : Nat} {lv : zz_Lv} {st : List Value} {S : zz_P} {o : Option Value} {F : zz_F} {J : Nat → Nat → Int64} {X Y : Nat → Nat → Int32} (h : some X = some Y) (H : zz_run d j pc lv st S o (zz_S F X J)) : zz_run d j pc lv st S o (zz_S F Y J) := by
  cases h
  exact H
theorem zz_rK (K : Nat → Nat) {a : Nat} (h : 14 ≤ a ∧ a < 28) : zz_XK K a = 5 := by
  obtain ⟨h1, h2⟩ := h
  obtain ⟨t, rfl⟩ : ∃ t, a = 14 + t := ⟨a - 14, by omega⟩
  have ht : t < 14 := by omega
  match t, ht with
  | 0, _ => rfl
  | 1, _ => rfl
  | 2, _ => rfl
  | 3, _ => rfl
  | 4, _ => rfl
  | 5, _ => rfl
  | 6, _ => rfl
  | 7, _ => rfl
  | 8, _ => rfl
  | 9, _ => rfl
  | 10, _ => rfl
  | 11, _ => rfl
  | 12, _ => rfl
  | 13, _ => rfl
  | t + 14, h => exact absurd h (by omega)
theorem zz_kSr {d j pc : Nat} {lv : zz_Lv} {st : List Value} {S S2 : zz_P} {o : Option Value} {S' : zz_P} (h : S = S2) (H : zz_run d j pc lv st S2 o S') : zz_run d j pc lv st S o S' := h ▸ H
