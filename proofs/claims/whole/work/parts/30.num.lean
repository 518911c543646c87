/-! numbers and loops for the pure part -/
theorem k_l0 : (0 : Int32) = nI 0 := rfl
theorem k_l1 : (1 : Int32) = nI 1 := rfl
theorem k_l2 : (2 : Int32) = nI 2 := rfl
theorem k_l3 : (3 : Int32) = nI 3 := rfl
theorem k_l4 : (4 : Int32) = nI 4 := rfl
theorem k_l5 : (5 : Int32) = nI 5 := rfl
theorem k_l6 : (6 : Int32) = nI 6 := rfl
theorem k_l7 : (7 : Int32) = nI 7 := rfl
theorem k_l8 : (8 : Int32) = nI 8 := rfl
theorem k_l9 : (9 : Int32) = nI 9 := rfl
theorem k_l10 : (10 : Int32) = nI 10 := rfl
theorem k_l11 : (11 : Int32) = nI 11 := rfl
theorem k_l12 : (12 : Int32) = nI 12 := rfl
theorem k_l13 : (13 : Int32) = nI 13 := rfl
theorem k_l14 : (14 : Int32) = nI 14 := rfl
theorem k_l15 : (15 : Int32) = nI 15 := rfl
theorem k_l16 : (16 : Int32) = nI 16 := rfl
theorem k_l17 : (17 : Int32) = nI 17 := rfl
theorem k_l18 : (18 : Int32) = nI 18 := rfl
theorem k_l19 : (19 : Int32) = nI 19 := rfl
theorem k_l20 : (20 : Int32) = nI 20 := rfl
theorem k_l21 : (21 : Int32) = nI 21 := rfl
theorem k_l22 : (22 : Int32) = nI 22 := rfl
theorem k_l23 : (23 : Int32) = nI 23 := rfl
theorem k_l24 : (24 : Int32) = nI 24 := rfl
theorem k_l25 : (25 : Int32) = nI 25 := rfl
theorem k_l26 : (26 : Int32) = nI 26 := rfl
theorem k_l27 : (27 : Int32) = nI 27 := rfl
theorem k_l28 : (28 : Int32) = nI 28 := rfl
theorem k_l29 : (29 : Int32) = nI 29 := rfl
theorem k_l30 : (30 : Int32) = nI 30 := rfl
theorem k_l31 : (31 : Int32) = nI 31 := rfl
theorem k_l32 : (32 : Int32) = nI 32 := rfl
theorem k_l33 : (33 : Int32) = nI 33 := rfl
theorem k_l34 : (34 : Int32) = nI 34 := rfl
theorem k_l35 : (35 : Int32) = nI 35 := rfl
theorem k_l36 : (36 : Int32) = nI 36 := rfl
theorem k_l37 : (37 : Int32) = nI 37 := rfl
theorem k_l38 : (38 : Int32) = nI 38 := rfl
theorem k_l39 : (39 : Int32) = nI 39 := rfl
theorem k_l40 : (40 : Int32) = nI 40 := rfl
theorem k_l41 : (41 : Int32) = nI 41 := rfl
theorem k_l42 : (42 : Int32) = nI 42 := rfl
theorem k_l43 : (43 : Int32) = nI 43 := rfl
theorem k_l44 : (44 : Int32) = nI 44 := rfl
theorem k_l45 : (45 : Int32) = nI 45 := rfl
theorem k_l46 : (46 : Int32) = nI 46 := rfl
theorem k_l47 : (47 : Int32) = nI 47 := rfl
theorem k_l48 : (48 : Int32) = nI 48 := rfl
theorem k_l49 : (49 : Int32) = nI 49 := rfl
theorem k_l88 : (88 : Int32) = nI 88 := rfl
theorem k_l89 : (89 : Int32) = nI 89 := rfl
theorem k_l90 : (90 : Int32) = nI 90 := rfl
theorem k_l95 : (95 : Int32) = nI 95 := rfl
theorem k_l98 : (98 : Int32) = nI 98 := rfl
theorem k_l99 : (99 : Int32) = nI 99 := rfl
theorem k_l100 : (100 : Int32) = nI 100 := rfl
theorem k_l101 : (101 : Int32) = nI 101 := rfl
theorem k_l102 : (102 : Int32) = nI 102 := rfl
theorem k_l111 : (111 : Int32) = nI 111 := rfl
theorem k_l115 : (115 : Int32) = nI 115 := rfl
theorem k_l116 : (116 : Int32) = nI 116 := rfl
theorem k_l119 : (119 : Int32) = nI 119 := rfl
theorem k_l126 : (126 : Int32) = nI 126 := rfl
theorem k_l199 : (199 : Int32) = nI 199 := rfl
theorem k_l200 : (200 : Int32) = nI 200 := rfl
theorem k_l254 : (254 : Int32) = nI 254 := rfl
theorem k_l255 : (255 : Int32) = nI 255 := rfl
theorem k_l295 : (295 : Int32) = nI 295 := rfl
theorem k_l296 : (296 : Int32) = nI 296 := rfl
theorem k_l297 : (297 : Int32) = nI 297 := rfl
theorem k_l367 : (367 : Int32) = nI 367 := rfl
theorem k_l368 : (368 : Int32) = nI 368 := rfl
theorem k_l369 : (369 : Int32) = nI 369 := rfl
theorem k_l370 : (370 : Int32) = nI 370 := rfl
theorem k_l371 : (371 : Int32) = nI 371 := rfl
theorem k_rem_n {a d : Nat} (ha : a < 2 ^ 31) (h0 : 0 < d) (hd : d < 2 ^ 31) : k_rem (nI a) (nI d) = nI (a % d) := pk_rem ha h0 hd
theorem k_sub_n {a b : Nat} (h : b ≤ a) : nI a - nI b = nI (a - b) := pk_sub h
theorem k_lpI1 {A1 : Type} {body : (A1 → Prop) → A1 → Prop} {x1 : A1} (N : Nat) (I : Nat → A1 → Prop) (j0 : Nat) (hj : j0 ≤ N) (h0 : I j0 x1) (hs : ∀ j, j ≤ N → ∀ (x1 : A1), I j x1 → ∀ (B : A1 → Prop), (j < N → ∀ (y1 : A1), I (j + 1) y1 → B y1) → body B x1) : k_lp1 body x1 := by
  refine ⟨fun n x1 => ∃ j, j ≤ N ∧ n = N - j ∧ I j x1, N - j0, ⟨j0, hj, rfl, h0⟩, ?_⟩
  rintro n x1 ⟨j, hjN, rfl, hI⟩
  exact hs j hjN x1 hI _ (fun hlt y1 hI2 => ⟨N - (j + 1), by omega, j + 1, by omega, rfl, hI2⟩)
theorem k_lpI2 {A1 A2 : Type} {body : (A1 → A2 → Prop) → A1 → A2 → Prop} {x1 : A1} {x2 : A2} (N : Nat) (I : Nat → A1 → A2 → Prop) (j0 : Nat) (hj : j0 ≤ N) (h0 : I j0 x1 x2) (hs : ∀ j, j ≤ N → ∀ (x1 : A1) (x2 : A2), I j x1 x2 → ∀ (B : A1 → A2 → Prop), (j < N → ∀ (y1 : A1) (y2 : A2), I (j + 1) y1 y2 → B y1 y2) → body B x1 x2) : k_lp2 body x1 x2 := by
  refine ⟨fun n x1 x2 => ∃ j, j ≤ N ∧ n = N - j ∧ I j x1 x2, N - j0, ⟨j0, hj, rfl, h0⟩, ?_⟩
  rintro n x1 x2 ⟨j, hjN, rfl, hI⟩
  exact hs j hjN x1 x2 hI _ (fun hlt y1 y2 hI2 => ⟨N - (j + 1), by omega, j + 1, by omega, rfl, hI2⟩)
theorem k_lpI3 {A1 A2 A3 : Type} {body : (A1 → A2 → A3 → Prop) → A1 → A2 → A3 → Prop} {x1 : A1} {x2 : A2} {x3 : A3} (N : Nat) (I : Nat → A1 → A2 → A3 → Prop) (j0 : Nat) (hj : j0 ≤ N) (h0 : I j0 x1 x2 x3) (hs : ∀ j, j ≤ N → ∀ (x1 : A1) (x2 : A2) (x3 : A3), I j x1 x2 x3 → ∀ (B : A1 → A2 → A3 → Prop), (j < N → ∀ (y1 : A1) (y2 : A2) (y3 : A3), I (j + 1) y1 y2 y3 → B y1 y2 y3) → body B x1 x2 x3) : k_lp3 body x1 x2 x3 := by
  refine ⟨fun n x1 x2 x3 => ∃ j, j ≤ N ∧ n = N - j ∧ I j x1 x2 x3, N - j0, ⟨j0, hj, rfl, h0⟩, ?_⟩
  rintro n x1 x2 x3 ⟨j, hjN, rfl, hI⟩
  exact hs j hjN x1 x2 x3 hI _ (fun hlt y1 y2 y3 hI2 => ⟨N - (j + 1), by omega, j + 1, by omega, rfl, hI2⟩)
theorem k_lpI4 {A1 A2 A3 A4 : Type} {body : (A1 → A2 → A3 → A4 → Prop) → A1 → A2 → A3 → A4 → Prop} {x1 : A1} {x2 : A2} {x3 : A3} {x4 : A4} (N : Nat) (I : Nat → A1 → A2 → A3 → A4 → Prop) (j0 : Nat) (hj : j0 ≤ N) (h0 : I j0 x1 x2 x3 x4) (hs : ∀ j, j ≤ N → ∀ (x1 : A1) (x2 : A2) (x3 : A3) (x4 : A4), I j x1 x2 x3 x4 → ∀ (B : A1 → A2 → A3 → A4 → Prop), (j < N → ∀ (y1 : A1) (y2 : A2) (y3 : A3) (y4 : A4), I (j + 1) y1 y2 y3 y4 → B y1 y2 y3 y4) → body B x1 x2 x3 x4) : k_lp4 body x1 x2 x3 x4 := by
  refine ⟨fun n x1 x2 x3 x4 => ∃ j, j ≤ N ∧ n = N - j ∧ I j x1 x2 x3 x4, N - j0, ⟨j0, hj, rfl, h0⟩, ?_⟩
  rintro n x1 x2 x3 x4 ⟨j, hjN, rfl, hI⟩
  exact hs j hjN x1 x2 x3 x4 hI _ (fun hlt y1 y2 y3 y4 hI2 => ⟨N - (j + 1), by omega, j + 1, by omega, rfl, hI2⟩)
theorem k_lpI5 {A1 A2 A3 A4 A5 : Type} {body : (A1 → A2 → A3 → A4 → A5 → Prop) → A1 → A2 → A3 → A4 → A5 → Prop} {x1 : A1} {x2 : A2} {x3 : A3} {x4 : A4} {x5 : A5} (N : Nat) (I : Nat → A1 → A2 → A3 → A4 → A5 → Prop) (j0 : Nat) (hj : j0 ≤ N) (h0 : I j0 x1 x2 x3 x4 x5) (hs : ∀ j, j ≤ N → ∀ (x1 : A1) (x2 : A2) (x3 : A3) (x4 : A4) (x5 : A5), I j x1 x2 x3 x4 x5 → ∀ (B : A1 → A2 → A3 → A4 → A5 → Prop), (j < N → ∀ (y1 : A1) (y2 : A2) (y3 : A3) (y4 : A4) (y5 : A5), I (j + 1) y1 y2 y3 y4 y5 → B y1 y2 y3 y4 y5) → body B x1 x2 x3 x4 x5) : k_lp5 body x1 x2 x3 x4 x5 := by
  refine ⟨fun n x1 x2 x3 x4 x5 => ∃ j, j ≤ N ∧ n = N - j ∧ I j x1 x2 x3 x4 x5, N - j0, ⟨j0, hj, rfl, h0⟩, ?_⟩
  rintro n x1 x2 x3 x4 x5 ⟨j, hjN, rfl, hI⟩
  exact hs j hjN x1 x2 x3 x4 x5 hI _ (fun hlt y1 y2 y3 y4 y5 hI2 => ⟨N - (j + 1), by omega, j + 1, by omega, rfl, hI2⟩)
theorem k_lpI6 {A1 A2 A3 A4 A5 A6 : Type} {body : (A1 → A2 → A3 → A4 → A5 → A6 → Prop) → A1 → A2 → A3 → A4 → A5 → A6 → Prop} {x1 : A1} {x2 : A2} {x3 : A3} {x4 : A4} {x5 : A5} {x6 : A6} (N : Nat) (I : Nat → A1 → A2 → A3 → A4 → A5 → A6 → Prop) (j0 : Nat) (hj : j0 ≤ N) (h0 : I j0 x1 x2 x3 x4 x5 x6) (hs : ∀ j, j ≤ N → ∀ (x1 : A1) (x2 : A2) (x3 : A3) (x4 : A4) (x5 : A5) (x6 : A6), I j x1 x2 x3 x4 x5 x6 → ∀ (B : A1 → A2 → A3 → A4 → A5 → A6 → Prop), (j < N → ∀ (y1 : A1) (y2 : A2) (y3 : A3) (y4 : A4) (y5 : A5) (y6 : A6), I (j + 1) y1 y2 y3 y4 y5 y6 → B y1 y2 y3 y4 y5 y6) → body B x1 x2 x3 x4 x5 x6) : k_lp6 body x1 x2 x3 x4 x5 x6 := by
  refine ⟨fun n x1 x2 x3 x4 x5 x6 => ∃ j, j ≤ N ∧ n = N - j ∧ I j x1 x2 x3 x4 x5 x6, N - j0, ⟨j0, hj, rfl, h0⟩, ?_⟩
  rintro n x1 x2 x3 x4 x5 x6 ⟨j, hjN, rfl, hI⟩
  exact hs j hjN x1 x2 x3 x4 x5 x6 hI _ (fun hlt y1 y2 y3 y4 y5 y6 hI2 => ⟨N - (j + 1), by omega, j + 1, by omega, rfl, hI2⟩)
theorem k_lpI7 {A1 A2 A3 A4 A5 A6 A7 : Type} {body : (A1 → A2 → A3 → A4 → A5 → A6 → A7 → Prop) → A1 → A2 → A3 → A4 → A5 → A6 → A7 → Prop} {x1 : A1} {x2 : A2} {x3 : A3} {x4 : A4} {x5 : A5} {x6 : A6} {x7 : A7} (N : Nat) (I : Nat → A1 → A2 → A3 → A4 → A5 → A6 → A7 → Prop) (j0 : Nat) (hj : j0 ≤ N) (h0 : I j0 x1 x2 x3 x4 x5 x6 x7) (hs : ∀ j, j ≤ N → ∀ (x1 : A1) (x2 : A2) (x3 : A3) (x4 : A4) (x5 : A5) (x6 : A6) (x7 : A7), I j x1 x2 x3 x4 x5 x6 x7 → ∀ (B : A1 → A2 → A3 → A4 → A5 → A6 → A7 → Prop), (j < N → ∀ (y1 : A1) (y2 : A2) (y3 : A3) (y4 : A4) (y5 : A5) (y6 : A6) (y7 : A7), I (j + 1) y1 y2 y3 y4 y5 y6 y7 → B y1 y2 y3 y4 y5 y6 y7) → body B x1 x2 x3 x4 x5 x6 x7) : k_lp7 body x1 x2 x3 x4 x5 x6 x7 := by
  refine ⟨fun n x1 x2 x3 x4 x5 x6 x7 => ∃ j, j ≤ N ∧ n = N - j ∧ I j x1 x2 x3 x4 x5 x6 x7, N - j0, ⟨j0, hj, rfl, h0⟩, ?_⟩
  rintro n x1 x2 x3 x4 x5 x6 x7 ⟨j, hjN, rfl, hI⟩
  exact hs j hjN x1 x2 x3 x4 x5 x6 x7 hI _ (fun hlt y1 y2 y3 y4 y5 y6 y7 hI2 => ⟨N - (j + 1), by omega, j + 1, by omega, rfl, hI2⟩)
