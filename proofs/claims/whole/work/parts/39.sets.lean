/-! sets of members -/
def maskN (p : Nat → Bool) : Nat → Nat
  | 0 => 0
  | k + 1 => if p (k + 1) then maskN p k ||| 2 ^ (k + 1) else maskN p k
theorem maskN_bit (p : Nat → Bool) : ∀ k i, (maskN p k).testBit i = (decide (1 ≤ i) && decide (i ≤ k) && p i)
  | 0, i => by
    simp only [maskN, Nat.zero_testBit]
    by_cases h : 1 ≤ i
    · have : ¬ i ≤ 0 := by omega
      simp [this]
    · simp [h]
  | k + 1, i => by
    simp only [maskN]
    by_cases h : p (k + 1) = true
    · rw [if_pos h, Nat.testBit_or, maskN_bit p k i, Nat.testBit_two_pow]
      by_cases e : k + 1 = i
      · subst e
        simp [h]
      · have : (i ≤ k + 1) ↔ (i ≤ k) := by omega
        simp [e, this]
    · rw [if_neg h, maskN_bit p k i]
      by_cases e : k + 1 = i
      · subst e
        simp [h]
      · have : (i ≤ k + 1) ↔ (i ≤ k) := by omega
        simp [this]
theorem maskN_lt (p : Nat → Bool) {k : Nat} (hk : k ≤ 7) : maskN p k < 256 := by
  refine Nat.lt_pow_two_of_testBit (n := 8) _ (fun i hi => ?_)
  rw [maskN_bit]
  have : ¬ i ≤ k := by omega
  simp [this]
theorem maskN0 (p : Nat → Bool) (k : Nat) : (maskN p k).testBit 0 = false := by rw [maskN_bit]; simp
theorem or_lt {x i : Nat} (hx : x < 256) (hi : i ≤ 7) : x ||| 2 ^ i < 256 := Nat.or_lt_two_pow (n := 8) hx (Nat.lt_of_le_of_lt (Nat.pow_le_pow_right (by omega) hi) (by omega))
theorem cnt_or : ∀ x, x < 256 → ∀ m, m < 8 → x.testBit m = false → cnt (x ||| 2 ^ m) = cnt x + 1 := by decide +kernel
def lowN (s n : Nat) : Nat → Nat
  | 0 => 0
  | k + 1 => if s.testBit (k + 1) = true ∧ cnt (lowN s n k) < n then lowN s n k ||| 2 ^ (k + 1) else lowN s n k
theorem lowN_hi (s n : Nat) : ∀ k i, k < i → (lowN s n k).testBit i = false
  | 0, i, _ => Nat.zero_testBit i
  | k + 1, i, h => by
    simp only [lowN]
    split
    · rw [Nat.testBit_or, lowN_hi s n k i (by omega), Nat.testBit_two_pow]
      have : ¬ k + 1 = i := by omega
      simp [this]
    · exact lowN_hi s n k i (by omega)
theorem lowN_0 (s n : Nat) : ∀ k, (lowN s n k).testBit 0 = false
  | 0 => Nat.zero_testBit 0
  | k + 1 => by
    simp only [lowN]
    split
    · rw [Nat.testBit_or, lowN_0 s n k, Nat.testBit_two_pow]
      simp
    · exact lowN_0 s n k
theorem lowN_sub (s n : Nat) : ∀ k i, (lowN s n k).testBit i = true → s.testBit i = true
  | 0, i, h => by rw [lowN, Nat.zero_testBit] at h; exact absurd h (by decide)
  | k + 1, i, h => by
    simp only [lowN] at h
    split at h
    · rename_i hc
      rw [Nat.testBit_or, Nat.testBit_two_pow] at h
      by_cases e : k + 1 = i
      · subst e; exact hc.1
      · simp [e] at h
        exact lowN_sub s n k i h
    · exact lowN_sub s n k i h
theorem lowN_lt (s n : Nat) {k : Nat} (hk : k ≤ 7) : lowN s n k < 256 := Nat.lt_pow_two_of_testBit (n := 8) _ (fun i hi => lowN_hi s n k i (by omega))
theorem lowN_le (s n : Nat) : ∀ k, k ≤ 7 → cnt (lowN s n k) ≤ n
  | 0, _ => by show cnt 0 ≤ n; have : cnt 0 = 0 := by decide
               omega
  | k + 1, h => by
    have h1 := lowN_le s n k (by omega)
    simp only [lowN]
    split
    · rename_i hc
      rw [cnt_or _ (lowN_lt s n (by omega)) (k + 1) (by omega) (lowN_hi s n k _ (by omega))]
      omega
    · exact h1
theorem lowN_stable (s n : Nat) {k : Nat} (h : n ≤ cnt (lowN s n k)) : ∀ d, lowN s n (k + d) = lowN s n k
  | 0 => rfl
  | d + 1 => by
    have e := lowN_stable s n h d
    rw [show k + (d + 1) = k + d + 1 by omega]
    simp only [lowN]
    rw [e, if_neg (fun z => by omega)]
theorem lowN_cnt : ∀ s, s < 256 → s.testBit 0 = false → ∀ n, n < 6 → n ≤ cnt s → cnt (lowN s n 7) = n := by decide +kernel
theorem s_lowest {s n : Nat} (hs : s < 256) (hn : n ≤ 8) {Q : Int32 → Prop} (hq : Q (nI (lowN s n 7))) : wp_X4_lowest (nI s) (nI n) Q := by
  unfold wp_X4_lowest
  refine k_lpI3 7 (fun j p q k => p = nI (lowN s n j) ∧ q = nI (n - cnt (lowN s n j)) ∧ k = nI (j + 1)) 0 (Nat.zero_le _) ⟨rfl, by show nI n = nI (n - cnt 0); rw [show cnt 0 = 0 from by decide]; rfl, rfl⟩ ?_
  rintro j hj p q k ⟨rfl, rfl, rfl⟩ B hB
  have hn1 : nI (j + 1) + (1 : Int32) = nI (j + 1 + 1) := nI_add (j + 1) 1
  rcases Nat.lt_or_ge j 7 with hlt | hge
  · refine br_f (nI_nlt (a := 7) (b := j + 1) (by omega) (by omega)) (pk_le (n - cnt (lowN s n j)) 0 (fun h0 => ?_) (fun h0 => ?_))
    · have e := lowN_stable s n (k := j) (by omega) (7 - j)
      rw [show j + (7 - j) = 7 by omega] at e
      rw [← e]
      exact hq
    · refine s_has (by omega) (by omega) (b_if ?_)
      by_cases hb : s.testBit (j + 1) = true
      · rw [if_pos hb]
        refine s_only (by omega) (hB hlt _ _ _ ⟨?_, ?_, hn1⟩)
        · rw [n_or]
          simp only [lowN]
          rw [if_pos ⟨hb, by omega⟩]
        · simp only [lowN]
          rw [if_pos ⟨hb, by omega⟩, cnt_or _ (lowN_lt s n (by omega)) (j + 1) (by omega) (lowN_hi s n j _ (by omega))]
          rw [show n - cnt (lowN s n j) = n - (cnt (lowN s n j) + 1) + 1 by omega]
          exact pk_m1 _
      · rw [if_neg hb]
        refine hB hlt _ _ _ ⟨?_, ?_, hn1⟩
        · simp only [lowN]; rw [if_neg (fun z => hb z.1)]
        · simp only [lowN]; rw [if_neg (fun z => hb z.1)]
  · have hj7 : j = 7 := by omega
    subst hj7
    exact br_t (by decide) hq
theorem n_or0 (x : Int32) : x ||| 0 = x := by simp
theorem s_firstOf {s n : Nat} (hs : s < 256) (hn : n ≤ 8) {Q : Int32 → Prop} (hq : Q (nI (lowN s n 7))) : wp_X7_firstOf (nI s) (nI n) Q := by
  unfold wp_X7_firstOf
  refine k_lpI2 7 (fun j p k => p = nI (lowN s n j) ∧ k = nI (j + 1)) 0 (Nat.zero_le _) ⟨rfl, rfl⟩ ?_
  rintro j hj p k ⟨rfl, rfl⟩ B hB
  have hn1 : nI (j + 1) + (1 : Int32) = nI (j + 1 + 1) := nI_add (j + 1) 1
  rcases Nat.lt_or_ge j 7 with hlt | hge
  · have hc8 := cnt_le (lowN s n j)
    have hl := lowN_lt s n (k := j) (by omega)
    refine br_f (nI_nlt (a := 7) (b := j + 1) (by omega) (by omega)) (s_has7 (by omega) (by omega) (b_if ?_))
    by_cases hb : s.testBit (j + 1) = true
    · rw [if_pos hb]
      refine s_bits (by omega) (pk_le n (cnt (lowN s n j)) (fun h0 => hB hlt _ _ ⟨?_, hn1⟩) (fun h0 => hB hlt _ _ ⟨?_, hn1⟩))
      · rw [n_or0]
        simp only [lowN]; rw [if_neg (fun z => by omega)]
      · rw [k_only (by omega), n_or]
        simp only [lowN]
        rw [if_pos ⟨hb, by omega⟩]
    · rw [if_neg hb]
      refine hB hlt _ _ ⟨?_, hn1⟩
      rw [n_or0]
      simp only [lowN]; rw [if_neg (fun z => hb z.1)]
  · have hj7 : j = 7 := by omega
    subst hj7
    exact br_t (by decide) hq
theorem s_together {τ : k_M} {g : Nat → Nat} {set x : Nat} (ht : ∀ m, 1 ≤ m → m ≤ 7 → set.testBit m = true → ∀ Q : Int32 → Prop, Q (nI (g m)) → wp_X7_told τ (nI m) Q) (hg : ∀ m, g m < 23) (hs : set < 256) (hx : x < 23) {Q : Int32 → Prop} (hq : Q (nI (wsum g set x 7 % 23))) : wp_X7_together τ (nI set) (nI x) Q := by
  unfold wp_X7_together
  refine k_lpI2 7 (fun j p k => p = nI (wsum g set x j) ∧ k = nI (j + 1)) 0 (Nat.zero_le _) ⟨rfl, rfl⟩ ?_
  rintro j hj p k ⟨rfl, rfl⟩ B hB
  have hn1 : nI (j + 1) + (1 : Int32) = nI (j + 1 + 1) := nI_add (j + 1) 1
  have hle := wsum_le (set := set) (x := x) hg j
  rcases Nat.lt_or_ge j 7 with hlt | hge
  · refine br_f (nI_nlt (a := 7) (b := j + 1) (by omega) (by omega)) (s_has7 (by omega) (by omega) (b_if ?_))
    by_cases hb : set.testBit (j + 1) = true
    · rw [if_pos hb]
      refine ht (j + 1) (by omega) (by omega) hb _ (s_weight7 (by omega) (by omega) hs hx (hB hlt _ _ ⟨?_, hn1⟩))
      rw [pk_mul, nI_add]
      simp only [wsum]
      rw [if_pos hb]
    · rw [if_neg hb]
      refine hB hlt _ _ ⟨?_, hn1⟩
      simp only [wsum]
      rw [if_neg hb]
      exact nI_add _ 0
  · have hj7 : j = 7 := by omega
    subst hj7
    refine br_t (by decide) ?_
    rw [k_l23, k_rem_n (by omega) (by omega) (by omega)]
    exact hq
/-- less a set -/
def mnus (h s : Nat) : Nat := h &&& (s ^^^ 4294967295)
theorem n_mnus (h s : Nat) : nI h &&& (nI s ^^^ (-1)) = nI (mnus h s) := by
  rw [show (-1 : Int32) = nI 4294967295 from by decide, n_xor, n_and]
  rfl
theorem mnus_bit {h s : Nat} (hh : h < 256) (i : Nat) : (mnus h s).testBit i = (h.testBit i && !s.testBit i) := by
  unfold mnus
  rw [Nat.testBit_and, Nat.testBit_xor]
  by_cases h8 : i < 8
  · have e : (4294967295 : Nat).testBit i = true := (by decide +kernel : ∀ i, i < 8 → (4294967295 : Nat).testBit i = true) i h8
    rw [e]
    simp
  · have : h.testBit i = false := Nat.testBit_lt_two_pow (Nat.lt_of_lt_of_le hh (Nat.pow_le_pow_right (n := 2) (i := 8) (j := i) (by omega) (by omega)))
    simp [this]
theorem mnus_lt {h s : Nat} (hh : h < 256) : mnus h s < 256 := Nat.lt_of_le_of_lt Nat.and_le_left hh
theorem and_lt {h s : Nat} (hh : h < 256) : s &&& h < 256 := Nat.lt_of_le_of_lt Nat.and_le_right hh
/-- the set of members that the text tells from a place on -/
def fset (w : Nat → Nat) (lo : Nat) : Nat → Nat
  | 0 => 0
  | i + 1 => if lo ≤ i ∧ 49 ≤ w i ∧ w i ≤ 55 then fset w lo i ||| 2 ^ (w i - 48) else fset w lo i
theorem fset_lt (w : Nat → Nat) (lo : Nat) : ∀ n, fset w lo n < 256
  | 0 => by show 0 < 256; omega
  | n + 1 => by
    simp only [fset]
    split
    · rename_i h
      exact or_lt (fset_lt w lo n) (by omega)
    · exact fset_lt w lo n
theorem fset_bit (w : Nat → Nat) (lo : Nat) : ∀ n m, (fset w lo n).testBit m = true ↔ ∃ i, lo ≤ i ∧ i < n ∧ 49 ≤ w i ∧ w i ≤ 55 ∧ w i - 48 = m
  | 0, m => by
    simp only [fset, Nat.zero_testBit]
    constructor
    · intro h; exact absurd h (by decide)
    · rintro ⟨i, -, h, -⟩; omega
  | n + 1, m => by
    simp only [fset]
    split
    · rename_i h
      rw [Nat.testBit_or, Nat.testBit_two_pow, Bool.or_eq_true, fset_bit w lo n m, decide_eq_true_eq]
      constructor
      · rintro (⟨i, a, b, c⟩ | e)
        · exact ⟨i, a, by omega, c⟩
        · exact ⟨n, h.1, by omega, h.2.1, h.2.2, e⟩
      · rintro ⟨i, a, b, c, d, e⟩
        by_cases hi : i = n
        · subst hi; exact Or.inr e
        · exact Or.inl ⟨i, a, by omega, c, d, e⟩
    · rename_i h
      rw [fset_bit w lo n m]
      constructor
      · rintro ⟨i, a, b, c⟩
        exact ⟨i, a, by omega, c⟩
      · rintro ⟨i, a, b, c, d, e⟩
        by_cases hi : i = n
        · subst hi; exact absurd ⟨a, c, d⟩ h
        · exact ⟨i, a, by omega, c, d, e⟩
theorem fset_0 (w : Nat → Nat) (lo : Nat) : ∀ n, n ≤ lo → fset w lo n = 0
  | 0, _ => rfl
  | n + 1, h => by
    simp only [fset]
    rw [if_neg (fun z => by omega)]
    exact fset_0 w lo n (by omega)
theorem s_members {σ τ : k_M} {w : Nat → Nat} {n : Nat} (h : TW σ τ w n) (hn : 0 < n) {Q : Int32 → Prop} (hq : Q (nI (fset w (fos (w 0)) n))) : wp_X3_members σ Q := by
  have hn10 := h.1
  have hfc := fos_cases (w 0)
  unfold wp_X3_members
  refine s_first h hn ?_
  rw [h.2.1]
  rcases Nat.lt_or_ge (fos (w 0)) n with hlo | hlo
  · refine k_lpI2 n (fun j p k => p = nI (fset w (fos (w 0)) j) ∧ k = nI j ∧ fos (w 0) ≤ j) (fos (w 0)) (by omega) ⟨by rw [fset_0 _ _ _ (Nat.le_refl _)]; rfl, rfl, Nat.le_refl _⟩ ?_
    rintro j hj p k ⟨rfl, rfl, hlj⟩ B hB
    rcases Nat.lt_or_ge j n with hlt | hge
    · have hwj := h.2.2.2 j hlt
      refine br_f (nI_ge hlt (by omega)) (s_fig h hlt (fgm (by omega) (fun hm => b1 (s_fig h hlt ?_)) (fun hm => b0 (hB hlt _ _ ⟨?_, by rw [k_l1, nI_add], by omega⟩))))
      · rw [fg_in (by omega)]
        refine s_only (by omega) (hB hlt _ _ ⟨?_, by rw [k_l1, nI_add], by omega⟩)
        rw [n_or]
        simp only [fset]
        rw [if_pos ⟨hlj, hm⟩]
      · simp only [fset]
        rw [if_neg (fun z => hm z.2)]
    · have e : j = n := by omega
      subst e
      exact br_t (nI_le (Nat.le_refl _) (by omega)) hq
  · refine k_lpI2 0 (fun j p k => p = 0 ∧ k = nI (fos (w 0))) 0 (Nat.le_refl _) ⟨rfl, rfl⟩ ?_
    rintro j hj p k ⟨rfl, rfl⟩ B hB
    refine br_t (nI_le hlo (by omega)) ?_
    rw [fset_0 _ _ _ hlo] at hq
    exact hq
