/-! what a state is: an abstract circle, how the class and the reference hold it -/
abbrev aM : Type := Nat → Nat → Nat
def aput (A : aM) (i k v : Nat) : aM := fun a => if a = i then (fun q => if q = k then v else A a q) else A a
/-- rows 0, bends 1 (5 m + what), shares 2, coefficients 3, thresholds 4, loot 5 6 7, numbers 8 (0 holders, 1 threshold, 2 epochs begun, 3 liars, 4 struck, 5 done, 6 loot), coefficients of epoch e at 9, 5 e + j -/
def aHi (w : Nat) : Nat := if w < 2 then 22 else if w < 4 then 7 else 1
def CRc (κ : k_M) (A : aM) : Prop :=
  (∀ k, k < 40 → κ 1 k = nI (A 0 k)) ∧ (∀ k, 5 ≤ k → k < 40 → κ 2 k = nI (A 1 k)) ∧ (∀ m, 1 ≤ m → m ≤ 7 → (A 8 0).testBit m = true → κ 3 m = nI (A 2 m)) ∧ (∀ j, 0 < A 8 2 → j < A 8 1 → κ 4 j = nI (4 ^ A 3 j % 47)) ∧ (∀ e, e < A 8 2 → κ 5 e = nI (A 4 e)) ∧
  κ 0 6 = nI (A 8 0) ∧ (0 < A 8 2 → κ 0 7 = nI (A 8 1)) ∧ κ 0 8 = nI (A 8 2) - 1 ∧ κ 0 9 = nI (A 8 3) ∧ κ 0 10 = nI (A 8 4) ∧ κ 0 11 = nI (A 8 5) ∧ κ 6 3 = nI (A 8 6) ∧ (∀ i, i < A 8 6 → κ 7 i = nI (A 5 i) ∧ κ 8 i = nI (A 6 i) ∧ κ 9 i = nI (A 7 i))
def CRm (s : Nat → Int32) (A : aM) : Prop :=
  (∀ k, k < 40 → s k = nI (A 0 k)) ∧ (∀ m w, 1 ≤ m → m ≤ 7 → w < 5 → s (48 + 8 * w + m) = nI (A 1 (5 * m + w))) ∧ (∀ m, 1 ≤ m → m ≤ 7 → s (40 + m) = if (A 8 0).testBit m then nI (A 2 m) else -6) ∧ (∀ j, 0 < A 8 2 → j < A 8 1 → s (90 + j) = nI (4 ^ A 3 j % 47)) ∧ (∀ e, e < A 8 2 → s (95 + e) = nI (A 4 e)) ∧
  s 88 = (if A 8 2 = 0 then -6 else nI (A 8 1)) ∧ s 89 = (if A 8 2 = 0 then -6 else nI (A 8 2 - 1)) ∧ s 367 = nI (A 8 6) ∧ s 368 = nI (A 8 5) ∧ s 369 = nI (A 8 3) ∧ s 370 = nI (A 8 4) ∧ (∀ i, i < A 8 6 → s (295 + 3 * i) = nI (A 5 i) ∧ s (296 + 3 * i) = nI (A 6 i) ∧ s (297 + 3 * i) = nI (A 7 i))
def aInv (A : aM) : Prop :=
  (∀ k, k < 40 → A 0 k < 23) ∧ (∀ m w, 1 ≤ m → m ≤ 7 → w < 5 → A 1 (5 * m + w) ≤ aHi w) ∧ A 8 0 < 256 ∧ (A 8 0).testBit 0 = false ∧ A 8 2 ≤ 200 ∧ A 8 3 < 256 ∧ A 8 4 < 256 ∧ A 8 6 ≤ 24 ∧
  (0 < A 8 2 → 1 ≤ A 8 1 ∧ A 8 1 ≤ 5 ∧ A 4 (A 8 2 - 1) = A 8 1 ∧ ∀ j, j < A 8 1 → A 9 (5 * (A 8 2 - 1) + j) = A 3 j) ∧ (∀ e, e < A 8 2 → 1 ≤ A 4 e ∧ A 4 e ≤ 5) ∧ (∀ j, A 3 j < 23) ∧ (A 8 2 = 0 → A 8 0 = 0 ∧ A 8 6 = 0) ∧
  (∀ m, 1 ≤ m → m ≤ 7 → (A 8 0).testBit m = true → A 2 m = pe (A 3) (A 8 1) m) ∧
  (∀ i, i < A 8 6 → 1 ≤ A 5 i ∧ A 5 i ≤ 7 ∧ A 6 i < A 8 2 ∧ A 7 i = pe (fun j => A 9 (5 * A 6 i + j)) (A 4 (A 6 i)) (A 5 i)) ∧ (∀ i j, i ≤ j → j < A 8 6 → A 6 i ≤ A 6 j) ∧ (∀ k, A 9 k < 23)
/-- the class's circle in its memory -/
abbrev circ (σ : k_M) : k_M := fun i => σ (i + 4)
/-- the text -/
def TX (σ τ : k_M) : Prop := ∃ n, n ≤ 10 ∧ σ 1 1 = nI n ∧ τ 0 2 = nI n ∧ ∀ i, i < n → σ 2 i = τ 2 i ∧ ∃ v, 33 ≤ v ∧ v ≤ 126 ∧ τ 2 i = nI v
def RR (pr : Nat → Bool) (σ : k_M) (ρ : Nat → k_M) (τ : k_M) : Prop :=
  (∃ A, CRc (circ σ) A ∧ CRm (τ 1) A ∧ aInv A) ∧ TX σ τ ∧ (∀ k, k < 2 → pr k = true → ∃ A, CRc (ρ k) A ∧ CRm (fun i => τ 6 (371 * k + i)) A ∧ aInv A) ∧ (∀ k, k < 2 → τ 7 k = if pr k then 1 else 0)
/-- what a class's writer leaves: only the circle and scratch cells -/
theorem TX.keep {σ τ σ' τ' : k_M} (h : TX σ τ) (h1 : σ' 1 1 = σ 1 1) (h2 : ∀ i, σ' 2 i = σ 2 i) (h3 : τ' 0 2 = τ 0 2) (h4 : ∀ i, τ' 2 i = τ 2 i) : TX σ' τ' := by
  obtain ⟨n, a, b, c, d⟩ := h
  exact ⟨n, a, h1.trans b, h3.trans c, fun i hi => by rw [h2, h4]; exact d i hi⟩
/-- an int is one of lo .. hi, or below, or above -/
theorem k_case (x : Int32) (lo hi : Nat) (hl : lo ≤ hi + 1) (hh : hi < 2 ^ 30) : (∃ j, lo ≤ j ∧ j ≤ hi ∧ x = nI j) ∨ (x < nI lo ∨ nI hi < x) := by
  by_cases h0 : x < 0
  · exact Or.inr (Or.inl (Int32.lt_of_lt_of_le h0 (nI_pos' (by omega))))
  · obtain ⟨j, hj, rfl⟩ := nI_of h0
    by_cases h1 : j < lo
    · exact Or.inr (Or.inl (nI_lt h1 (by omega)))
    · by_cases h2 : hi < j
      · exact Or.inr (Or.inr (nI_lt h2 hj))
      · exact Or.inl ⟨j, by omega, by omega, rfl⟩
theorem b1 {A B : Prop} (h : B) : ((1 : Int32) = 0 → A) ∧ (¬ (1 : Int32) = 0 → B) := br_f (by decide) h
theorem b0 {A B : Prop} (h : A) : ((0 : Int32) = 0 → A) ∧ (¬ (0 : Int32) = 0 → B) := br_t rfl h
theorem s_mem1 {m : Nat} (h1 : 1 ≤ m) (h2 : m ≤ 7) {Q : Int32 → Prop} (hq : Q 1) : wp_X6_isMember (nI m) Q := br_f (nI_nlt (b := 1) h1 (by omega)) (br_f (nI_nlt (a := 7) (b := m) h2 (by omega)) hq)
theorem k_lt_asymm {a b : Int32} (h : a < b) : ¬ b < a := fun z => by
  rw [Int32.lt_iff_toInt_lt] at h z
  omega
theorem s_mem0 {x : Int32} (h : x < nI 1 ∨ nI 7 < x) {Q : Int32 → Prop} (hq : Q 0) : wp_X6_isMember x Q := by
  unfold wp_X6_isMember
  rcases h with h | h
  · exact br_t h hq
  · exact br_c (fun _ => hq) (fun _ => br_t h hq)
theorem s_in1 {m lo hi : Nat} (h1 : lo ≤ m) (h2 : m ≤ hi) (hh : hi < 2 ^ 31) {Q : Int32 → Prop} (hq : Q 1) : wp_X7_in (nI m) (nI lo) (nI hi) Q := br_f (nI_nlt h1 (by omega)) (br_f (nI_nlt h2 hh) hq)
theorem s_in0 {x y z : Int32} (h : x < y ∨ z < x) {Q : Int32 → Prop} (hq : Q 0) : wp_X7_in x y z Q := by
  unfold wp_X7_in
  rcases h with h | h
  · exact br_t h hq
  · exact br_c (fun _ => hq) (fun _ => br_t h hq)
theorem s_val1 {m : Nat} (h : m < 23) {Q : Int32 → Prop} (hq : Q 1) : wp_X6_isValue (nI m) Q := br_f (nI_pos (by omega)) (br_f (nI_ge (b := 23) h (by omega)) hq)
theorem k_le_of_lt22 {x : Int32} (h : nI 22 < x) : nI 23 ≤ x := by
  rw [Int32.lt_iff_toInt_lt, nI_toInt (by omega)] at h
  rw [Int32.le_iff_toInt_le, nI_toInt (by omega)]
  omega
theorem s_val0 {x : Int32} (h : x < nI 0 ∨ nI 22 < x) {Q : Int32 → Prop} (hq : Q 0) : wp_X6_isValue x Q := by
  unfold wp_X6_isValue
  rcases h with h | h
  · exact br_t h hq
  · exact br_c (fun _ => hq) (fun _ => br_t (k_le_of_lt22 h) hq)
theorem s_mem71 {m : Nat} (h1 : 1 ≤ m) (h2 : m ≤ 7) {Q : Int32 → Prop} (hq : Q 1) : wp_X7_isMember (nI m) Q := s_in1 (lo := 1) (hi := 7) h1 h2 (by omega) hq
theorem s_mem70 {x : Int32} (h : x < nI 1 ∨ nI 7 < x) {Q : Int32 → Prop} (hq : Q 0) : wp_X7_isMember x Q := s_in0 h hq
theorem s_val71 {m : Nat} (h : m < 23) {Q : Int32 → Prop} (hq : Q 1) : wp_X7_isValue (nI m) Q := s_in1 (lo := 0) (hi := 22) (Nat.zero_le _) (by omega) (by omega) hq
theorem s_val70 {x : Int32} (h : x < nI 0 ∨ nI 22 < x) {Q : Int32 → Prop} (hq : Q 0) : wp_X7_isValue x Q := s_in0 h hq
theorem k_le_of_lt {x : Int32} {n : Nat} (hn : n < 2 ^ 30) (h : nI n < x) : nI (n + 1) ≤ x := by
  rw [Int32.lt_iff_toInt_lt, nI_toInt (by omega)] at h
  rw [Int32.le_iff_toInt_le, nI_toInt (by omega)]
  omega
theorem k_not_le {x y : Int32} (h : x < y) : ¬ y ≤ x := fun z => by
  rw [Int32.lt_iff_toInt_lt] at h
  rw [Int32.le_iff_toInt_le] at z
  omega
