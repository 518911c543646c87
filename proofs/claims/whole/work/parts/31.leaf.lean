/-! the leaves: what the static methods answer, in natural numbers -/
theorem s_plus {a b : Nat} (ha : a < 1000) (hb : b < 1000) {Q : Int32 → Prop} (h : Q (nI ((a + b) % 23))) : wp_X5_plus (nI a) (nI b) Q := by
  unfold wp_X5_plus
  rw [nI_add, k_l23, k_rem_n (by omega) (by omega) (by omega)]
  exact h
theorem s_times {a b : Nat} (ha : a < 1000) (hb : b < 1000) {Q : Int32 → Prop} (h : Q (nI (a * b % 23))) : wp_X5_times (nI a) (nI b) Q := by
  unfold wp_X5_times
  have : a * b ≤ 1000 * 1000 := Nat.mul_le_mul (by omega) (by omega)
  rw [pk_mul, k_l23, k_rem_n (by omega) (by omega) (by omega)]
  exact h
theorem s_joined {a b : Nat} (ha : a < 1000) (hb : b < 1000) {Q : Int32 → Prop} (h : Q (nI (a * b % 47))) : wp_X5_joined (nI a) (nI b) Q := by
  unfold wp_X5_joined
  have : a * b ≤ 1000 * 1000 := Nat.mul_le_mul (by omega) (by omega)
  rw [pk_mul, k_l47, k_rem_n (by omega) (by omega) (by omega)]
  exact h
theorem s_less {a b : Nat} (ha : a < 1000) (hb : b ≤ 23) {Q : Int32 → Prop} (h : Q (nI ((a + 23 - b) % 23))) : wp_X5_less (nI a) (nI b) Q := by
  unfold wp_X5_less
  rw [k_l23, nI_add, k_sub_n (by omega), k_rem_n (by omega) (by omega) (by omega)]
  exact h
theorem pow_mod_step (b e p : Nat) : b ^ e % p * b % p = b ^ (e + 1) % p := by
  rw [Nat.pow_succ, Nat.mod_mul_mod]
theorem s_raised {b e : Nat} (hb : b < 1000) (he : e < 1000) {Q : Int32 → Prop} (h : Q (nI (b ^ e % 47))) : wp_X5_raised (nI b) (nI e) Q := by
  unfold wp_X5_raised
  refine k_lpI2 e (fun j x k => x = nI (b ^ j % 47) ∧ k = nI j) 0 (Nat.zero_le _) ⟨by rw [Nat.pow_zero]; rfl, rfl⟩ ?_
  rintro j hj x k ⟨rfl, rfl⟩ B hB
  have hlt : b ^ j % 47 < 47 := Nat.mod_lt _ (by omega)
  have hm : b ^ j % 47 * b ≤ 47 * 1000 := Nat.mul_le_mul (by omega) (by omega)
  rcases Nat.lt_or_ge j e with hlt2 | hge
  · refine br_f (nI_ge hlt2 (by omega)) (hB hlt2 _ _ ⟨?_, ?_⟩)
    · rw [pk_mul, k_l47, k_rem_n (by omega) (by omega) (by omega), pow_mod_step]
    · rw [k_l1, nI_add]
  · have : j = e := by omega
    subst this
    exact br_t (nI_le (Nat.le_refl _) (by omega)) h
theorem s_sealOf {v : Nat} (hv : v < 1000) {Q : Int32 → Prop} (h : Q (nI (4 ^ v % 47))) : wp_X5_sealOf (nI v) Q := by
  unfold wp_X5_sealOf
  rw [k_l4]
  exact s_raised (by omega) hv h
theorem s_inverse {b : Nat} (hb : b < 1000) {Q : Int32 → Prop} (h : Q (nI (b ^ 21 % 23))) : wp_X5_inverse (nI b) Q := by
  unfold wp_X5_inverse
  refine k_lpI2 21 (fun j x k => x = nI (b ^ j % 23) ∧ k = nI j) 0 (Nat.zero_le _) ⟨by rw [Nat.pow_zero]; rfl, rfl⟩ ?_
  rintro j hj x k ⟨rfl, rfl⟩ B hB
  have hlt : b ^ j % 23 < 23 := Nat.mod_lt _ (by omega)
  have hm : b ^ j % 23 * b ≤ 23 * 1000 := Nat.mul_le_mul (by omega) (by omega)
  rcases Nat.lt_or_ge j 21 with hlt2 | hge
  · refine br_f (nI_ge (b := 21) hlt2 (by omega)) (hB hlt2 _ _ ⟨?_, ?_⟩)
    · rw [pk_mul, k_l23, k_rem_n (by omega) (by omega) (by omega), pow_mod_step]
    · rw [k_l1, nI_add]
  · have : j = 21 := by omega
    subst this
    exact br_t (nI_le (Nat.le_refl _) (by omega)) h
theorem s_power {b e p : Nat} (hb : b < 1000) (he : e < 1000) (hp : 1 < p) (hp2 : p < 1000) {Q : Int32 → Prop} (h : Q (nI (b ^ e % p))) : wp_X7_power (nI b) (nI e) (nI p) Q := by
  unfold wp_X7_power
  refine k_lpI2 e (fun j x k => x = nI (b ^ j % p) ∧ k = nI j) 0 (Nat.zero_le _) ⟨by rw [Nat.pow_zero, Nat.mod_eq_of_lt hp]; rfl, rfl⟩ ?_
  rintro j hj x k ⟨rfl, rfl⟩ B hB
  have hlt : b ^ j % p < p := Nat.mod_lt _ (by omega)
  have hm : b ^ j % p * b ≤ 1000 * 1000 := Nat.mul_le_mul (by omega) (by omega)
  rcases Nat.lt_or_ge j e with hlt2 | hge
  · refine br_f (nI_ge hlt2 (by omega)) ⟨nI_ne0 (by omega) (by omega), hB hlt2 _ _ ⟨?_, ?_⟩⟩
    · rw [pk_mul, k_rem_n (by omega) (by omega) (by omega), pow_mod_step]
    · rw [k_l1, nI_add]
  · have : j = e := by omega
    subst this
    exact br_t (nI_le (Nat.le_refl _) (by omega)) h
theorem s_sealOf7 {v : Nat} (hv : v < 1000) {Q : Int32 → Prop} (h : Q (nI (4 ^ v % 47))) : wp_X7_sealOf (nI v) Q := by
  unfold wp_X7_sealOf
  rw [k_l4, k_l47]
  exact s_power (by omega) hv (by omega) (by omega) h
theorem s_mod7 {a : Nat} (ha : a < 2 ^ 31) {Q : Int32 → Prop} (h : Q (nI (a % 23))) : wp_X7_mod (nI a) Q := by
  unfold wp_X7_mod
  have : a % 23 < 23 := Nat.mod_lt _ (by omega)
  rw [k_l23, k_rem_n ha (by omega) (by omega)]
  exact br_t (nI_pos' (by omega)) h
/-- a difference of two small numbers, made a value -/
theorem s_mod7d : ∀ a, a < 23 → ∀ b, b < 23 → (0 ≤ k_rem (nI a - nI b) 23 ∧ k_rem (nI a - nI b) 23 = nI ((a + 23 - b) % 23)) ∨ (¬ 0 ≤ k_rem (nI a - nI b) 23 ∧ k_rem (nI a - nI b) 23 + 23 = nI ((a + 23 - b) % 23)) := by decide +kernel
theorem s_mod7s {a b : Nat} (ha : a < 23) (hb : b < 23) {Q : Int32 → Prop} (h : Q (nI ((a + 23 - b) % 23))) : wp_X7_mod (nI a - nI b) Q := by
  unfold wp_X7_mod
  rcases s_mod7d a ha b hb with ⟨h1, h2⟩ | ⟨h1, h2⟩
  · exact br_t h1 (by rw [h2]; exact h)
  · exact br_f h1 (by rw [h2]; exact h)
theorem s_inverse7 {a b : Nat} (ha : a < 23) (hb : b < 23) {Q : Int32 → Prop} (h : Q (nI (((a + 23 - b) % 23) ^ 21 % 23))) : wp_X7_inverse (nI a - nI b) Q := by
  unfold wp_X7_inverse
  refine s_mod7s ha hb ?_
  have : (a + 23 - b) % 23 < 23 := Nat.mod_lt _ (by omega)
  rw [k_l21, k_l23]
  exact s_power (by omega) (by omega) (by omega) (by omega) h
/-- a bit of a set -/
theorem k_bit {h m : Nat} (hh : h < 2 ^ 31) (hm : m < 32) : (nI h >>> (nI m &&& 31)) &&& 1 = nI (h / 2 ^ m % 2) := by
  rw [pk_shrN hh (nI m &&& 31) m ((by decide +kernel : ∀ n, n < 32 → ((nI n &&& 31).toBitVec.smod 32).toNat = n) m hm)]
  exact pk_andN (Nat.lt_of_le_of_lt (Nat.div_le_self _ _) (by omega)) 1 (by decide)
theorem k_only {m : Nat} (hm : m < 31) : (1 : Int32) <<< (nI m &&& 31) = nI (2 ^ m) := by
  have h := pk_shlN (n := 1) (nI m &&& 31) m ((by decide +kernel : ∀ n, n < 32 → ((nI n &&& 31).toBitVec.smod 32).toNat = n) m (by omega)) (by
    have := Nat.pow_lt_pow_right (a := 2) (by omega) (show m < 32 by omega)
    omega)
  rw [Nat.one_mul] at h
  exact h
theorem k_div_bit (h m : Nat) : h / 2 ^ m % 2 = if h.testBit m then 1 else 0 := by
  have := Nat.testBit_eq_decide_div_mod_eq (x := h) (i := m)
  have h2 : h / 2 ^ m % 2 = 0 ∨ h / 2 ^ m % 2 = 1 := by omega
  rcases h2 with h2 | h2 <;> simp [this, h2]
theorem s_has {h m : Nat} (hh : h < 2 ^ 31) (hm : m < 32) {Q : Int32 → Prop} (hq : Q (if h.testBit m then 1 else 0)) : wp_X4_has (nI h) (nI m) Q := by
  unfold wp_X4_has
  rw [k_l1, ← k_l1, k_bit hh hm, k_div_bit]
  by_cases hb : h.testBit m = true
  · rw [if_pos hb] at hq ⊢
    exact br_f (by decide) hq
  · rw [if_neg hb] at hq ⊢
    exact br_t (by decide) hq
theorem s_has7 {h m : Nat} (hh : h < 2 ^ 31) (hm : m < 32) {Q : Int32 → Prop} (hq : Q (if h.testBit m then 1 else 0)) : wp_X7_has (nI h) (nI m) Q := by
  unfold wp_X7_has
  rw [k_bit hh hm, k_div_bit]
  by_cases hb : h.testBit m = true
  · rw [if_pos hb] at hq ⊢
    exact br_t (by decide) hq
  · rw [if_neg hb] at hq ⊢
    exact br_f (by decide) hq
theorem s_only {m : Nat} (hm : m < 31) {Q : Int32 → Prop} (hq : Q (nI (2 ^ m))) : wp_X4_only (nI m) Q := by
  unfold wp_X4_only
  rw [k_only hm]
  exact hq
/-- how many bits: of 0 to 7 -/
def cnt (h : Nat) : Nat := h / 2 ^ 0 % 2 + h / 2 ^ 1 % 2 + h / 2 ^ 2 % 2 + h / 2 ^ 3 % 2 + h / 2 ^ 4 % 2 + h / 2 ^ 5 % 2 + h / 2 ^ 6 % 2 + h / 2 ^ 7 % 2
theorem s_bitCount_all : ∀ h, h < 256 → wp_J6_bitCount_0f7a4 (nI h) (fun r => r = nI (cnt h)) := by
  unfold wp_J6_bitCount_0f7a4 cnt
  decide +kernel
theorem s_bitCount {h : Nat} (hh : h < 256) {Q : Int32 → Prop} (hq : Q (nI (cnt h))) : wp_J6_bitCount_0f7a4 (nI h) Q := by
  have e := s_bitCount_all h hh
  unfold wp_J6_bitCount_0f7a4 at e ⊢
  rw [e]
  exact hq
def cntU (h : Nat) : Nat → Nat
  | 0 => 0
  | n + 1 => cntU h n + h / 2 ^ n % 2
theorem cntU_le (h : Nat) : ∀ n, cntU h n ≤ n
  | 0 => Nat.le_refl _
  | n + 1 => by
    have := cntU_le h n
    have h2 : h / 2 ^ n % 2 < 2 := Nat.mod_lt _ (by omega)
    simp only [cntU]
    omega
theorem s_bits {h : Nat} (hh : h < 2 ^ 31) {Q : Int32 → Prop} (hq : Q (nI (cnt h))) : wp_X7_bits (nI h) Q := by
  unfold wp_X7_bits
  refine k_lpI2 8 (fun j x k => x = nI (cntU h j) ∧ k = nI j) 0 (Nat.zero_le _) ⟨rfl, rfl⟩ ?_
  rintro j hj x k ⟨rfl, rfl⟩ B hB
  rcases Nat.lt_or_ge j 8 with hlt | hge
  · refine br_f (nI_ge (b := 8) hlt (by omega)) (hB hlt _ _ ⟨?_, by rw [k_l1, nI_add]⟩)
    rw [k_bit hh (by omega), nI_add]
    rfl
  · have : j = 8 := by omega
    subst this
    refine br_t (by decide) ?_
    have : cntU h 8 = cnt h := by simp [cntU, cnt]
    rw [this]
    exact hq
theorem cnt_le (h : Nat) : cnt h ≤ 8 := by
  have : cntU h 8 = cnt h := by simp [cntU, cnt]
  rw [← this]
  exact cntU_le h 8
theorem s_isMember {x : Int32} {Q : Int32 → Prop} (h1 : ∀ m, 1 ≤ m → m ≤ 7 → x = nI m → Q 1) (h0 : (∀ m, 1 ≤ m → m ≤ 7 → x ≠ nI m) → Q 0) : wp_X6_isMember x Q := by
  unfold wp_X6_isMember
  refine br_c (fun h => h0 ?_) (fun h => br_c (fun h2 => h0 ?_) (fun h2 => ?_))
  · rintro m hm1 hm2 rfl
    exact nI_nlt (b := 1) hm1 (by omega) h
  · rintro m hm1 hm2 rfl
    exact nI_nlt (a := 7) (b := m) hm2 (by omega) h2
  · have hx : ¬ x < 0 := fun z => h (Int32.lt_of_lt_of_le z (by decide))
    obtain ⟨j, hj, rfl⟩ := nI_of hx
    have a1 : ¬ j < 1 := fun z => h (nI_lt (b := 1) z (by omega))
    have a2 : ¬ 7 < j := fun z => h2 (nI_lt (a := 7) z hj)
    exact h1 j (by omega) (by omega) rfl
