/-! the reference's side of the same: fits, polynomials, weights -/
theorem kcl_88 : (88 : Int32).toNatClampNeg = 88 := by decide
theorem kcl_89 : (89 : Int32).toNatClampNeg = 89 := by decide
theorem kcl_367 : (367 : Int32).toNatClampNeg = 367 := by decide
theorem kcl_368 : (368 : Int32).toNatClampNeg = 368 := by decide
theorem kcl_369 : (369 : Int32).toNatClampNeg = 369 := by decide
theorem kcl_370 : (370 : Int32).toNatClampNeg = 370 := by decide
theorem kcl_0 : (0 : Int32).toNatClampNeg = 0 := by decide
theorem kcl_1 : (1 : Int32).toNatClampNeg = 1 := by decide
theorem s_isFit {τ : k_M} {c : Nat → Nat} {v x t : Nat} (h88 : τ 1 88 = nI t) (hf : ∀ j, j < t → τ 1 (90 + j) = nI (4 ^ c j % 47)) (hv : v < 23) (hx : x < 23) (ht : t ≤ 5) {Q : Int32 → Prop} (hq : Q (if v = pe c t x then 1 else 0)) : wp_X7_isFit τ (nI v) (nI x) Q := by
  unfold wp_X7_isFit
  rw [kcl_88, h88]
  refine k_lpI2 t (fun j p k => p = nI (4 ^ psr c x j % 47) ∧ k = nI j) 0 (Nat.zero_le _) ⟨by rw [psr, Nat.pow_zero]; rfl, rfl⟩ ?_
  rintro j hj p k ⟨rfl, rfl⟩ B hB
  have hp := four_lt (psr c x j)
  rcases Nat.lt_or_ge j t with hlt | hge
  · refine br_f (nI_ge hlt (by omega)) ?_
    rw [k_l90, nI_add]
    refine ⟨vp_in_nI (by omega) (by omega), ?_⟩
    rw [nI_clamp (by omega), hf j hlt, k_l23, k_l47]
    refine s_power (by omega) (by omega) (by omega) (by omega) ?_
    refine s_power (Nat.lt_of_lt_of_le (four_lt _) (by omega)) (Nat.lt_trans (Nat.mod_lt _ (by omega : 23 > 0)) (by omega)) (by omega) (by omega) ?_
    have h1 := four_lt (c j * (x ^ j % 23))
    have h2 : 4 ^ psr c x j % 47 * (4 ^ (c j * (x ^ j % 23)) % 47) ≤ 47 * 47 := Nat.mul_le_mul (by omega) (by omega)
    refine hB hlt _ _ ⟨?_, by rw [k_l1, nI_add]⟩
    rw [four_pow, pk_mul, k_rem_n (by omega) (by omega) (by omega), four_mul]
    rfl
  · have hjt : j = t := by omega
    subst hjt
    refine br_t (nI_le (Nat.le_refl _) (by omega)) (s_sealOf7 (by omega) ?_)
    have he : 4 ^ psr c x j % 47 = 4 ^ psum c x j % 47 := by rw [four_mod, psr_mod, ← four_mod]
    rw [he]
    by_cases hc : v = pe c j x
    · rw [if_pos hc] at hq
      exact br_t (by rw [(four_fit hv).mpr hc]) hq
    · rw [if_neg hc] at hq
      exact br_f (fun z => hc ((four_fit hv).mp ((nI_eq (Nat.lt_trans (four_lt _) (by omega)) (Nat.lt_trans (four_lt _) (by omega))).mp z.symm))) hq
/-- the reference's polynomial, laid in cell 3 with its size -/
theorem psr_le {c : Nat → Nat} {x : Nat} (hc : ∀ j, c j < 23) : ∀ t, psr c x t ≤ 506 * t
  | 0 => Nat.le_refl _
  | t + 1 => by
    have h1 := psr_le (x := x) hc t
    have h2 := hc t
    have h3 : x ^ t % 23 < 23 := Nat.mod_lt _ (by omega)
    have h4 : c t * (x ^ t % 23) ≤ 22 * 22 := Nat.mul_le_mul (by omega) (by omega)
    simp only [psr]
    omega
theorem s_polyAt7 {τ : k_M} {c : Nat → Nat} {x t : Nat} (h4 : τ 0 4 = nI t) (hf : ∀ j, j < t → τ 3 j = nI (c j)) (hc : ∀ j, c j < 23) (hx : x < 23) (ht : t ≤ 5) {Q : Int32 → Prop} (hq : Q (nI (pe c t x))) : wp_X7_polyAt τ (nI x) Q := by
  unfold wp_X7_polyAt
  rw [h4]
  refine k_lpI2 t (fun j p k => p = nI (psr c x j) ∧ k = nI j) 0 (Nat.zero_le _) ⟨rfl, rfl⟩ ?_
  rintro j hj p k ⟨rfl, rfl⟩ B hB
  have hp := psr_le (x := x) hc j
  rcases Nat.lt_or_ge j t with hlt | hge
  · refine br_f (nI_ge hlt (by omega)) ⟨vp_in_nI (by omega) (by omega), ?_⟩
    rw [nI_clamp (by omega), hf j hlt, k_l23]
    refine s_power (by omega) (by omega) (by omega) (by omega) ?_
    refine hB hlt _ _ ⟨?_, by rw [k_l1, nI_add]⟩
    rw [pk_mul, nI_add]
    rfl
  · have hjt : j = t := by omega
    subst hjt
    refine br_t (nI_le (Nat.le_refl _) (by omega)) ?_
    rw [k_l23, k_rem_n (by omega) (by omega) (by omega), psr_mod]
    exact hq
theorem s_fitsPoly {τ : k_M} {c : Nat → Nat} {v x t : Nat} (h4 : τ 0 4 = nI t) (hf : ∀ j, j < t → τ 3 j = nI (c j)) (hc : ∀ j, c j < 23) (hv : v < 23) (hx : x < 23) (ht : t ≤ 5) {Q : Int32 → Prop} (hq : Q (if v = pe c t x then 1 else 0)) : wp_X7_fitsPoly τ (nI v) (nI x) Q := by
  unfold wp_X7_fitsPoly
  rw [h4]
  refine k_lpI2 t (fun j p k => p = nI (4 ^ psr c x j % 47) ∧ k = nI j) 0 (Nat.zero_le _) ⟨by rw [psr, Nat.pow_zero]; rfl, rfl⟩ ?_
  rintro j hj p k ⟨rfl, rfl⟩ B hB
  have hp := four_lt (psr c x j)
  rcases Nat.lt_or_ge j t with hlt | hge
  · refine br_f (nI_ge hlt (by omega)) ⟨vp_in_nI (by omega) (by omega), ?_⟩
    have := hc j
    rw [nI_clamp (by omega), hf j hlt, k_l23, k_l47]
    refine s_sealOf7 (by omega) ?_
    refine s_power (by omega) (by omega) (by omega) (by omega) ?_
    refine s_power (Nat.lt_of_lt_of_le (four_lt _) (by omega)) (Nat.lt_trans (Nat.mod_lt _ (by omega : 23 > 0)) (by omega)) (by omega) (by omega) ?_
    have h1 := four_lt (c j * (x ^ j % 23))
    have h2 : 4 ^ psr c x j % 47 * (4 ^ (c j * (x ^ j % 23)) % 47) ≤ 47 * 47 := Nat.mul_le_mul (by omega) (by omega)
    refine hB hlt _ _ ⟨?_, by rw [k_l1, nI_add]⟩
    rw [four_pow, pk_mul, k_rem_n (by omega) (by omega) (by omega), four_mul]
    rfl
  · have hjt : j = t := by omega
    subst hjt
    refine br_t (nI_le (Nat.le_refl _) (by omega)) (s_sealOf7 (by omega) ?_)
    have he : 4 ^ psr c x j % 47 = 4 ^ psum c x j % 47 := by rw [four_mod, psr_mod, ← four_mod]
    rw [he]
    by_cases hc : v = pe c j x
    · rw [if_pos hc] at hq
      exact br_t (by rw [(four_fit hv).mpr hc]) hq
    · rw [if_neg hc] at hq
      exact br_f (fun z => hc ((four_fit hv).mp ((nI_eq (Nat.lt_trans (four_lt _) (by omega)) (Nat.lt_trans (four_lt _) (by omega))).mp z.symm))) hq
/-- the class's polynomial in a table of rows -/
theorem s_polynomialAt {f : Nat → Int32} {c : Nat → Nat} {m x t : Nat} (hf : ∀ j, j < t → f (5 * m + j) = nI (c j)) (hc : ∀ j, c j < 23) (hm : m ≤ 7) (hx : x < 23) (ht : t ≤ 5) {Q : Int32 → Prop} (hq : Q (nI (pe c t x))) : wp_X2_polynomialAt f (nI m) (nI t) (nI x) Q := by
  unfold wp_X2_polynomialAt
  have hmin : (if (5 : Int32) < nI t then (5 : Int32) else nI t) = nI t := if_neg (nI_nlt (b := t) (a := 5) ht (by omega))
  rw [hmin]
  refine k_lpI2 t (fun j p k => p = nI (horn c x t j % 23) ∧ k = nI t - nI (j + 1)) 0 (Nat.zero_le _) ⟨rfl, rfl⟩ ?_
  rintro j hj p k ⟨rfl, rfl⟩ B hB
  have hp : horn c x t j % 23 < 23 := Nat.mod_lt _ (by omega)
  rcases Nat.lt_or_ge j t with hlt | hge
  · have e : nI t - nI (j + 1) = nI (t - (j + 1)) := k_sub_n (by omega)
    rw [e]
    refine br_f (nI_pos (by omega)) ⟨fun y => y = nI (c (t - (j + 1))), ?_, False, fun h => h.elim, ?_⟩
    · rintro y rfl
      have h1 := hc (t - (j + 1))
      refine s_times (by omega) (by omega) (s_plus (Nat.lt_trans (Nat.mod_lt _ (by omega : 23 > 0)) (by omega)) (by omega) ?_)
      refine hB hlt _ _ ⟨?_, ?_⟩
      · show nI ((horn c x t j % 23 * x % 23 + c (t - (j + 1))) % 23) = nI ((horn c x t j * x + c (t - (j + 1))) % 23)
        rw [Nat.mod_add_mod, Nat.add_mod, Nat.mod_mul_mod, ← Nat.add_mod]
      · rw [← e, show (-1 : Int32) = nI 0 - nI 1 from rfl]
        have e2 : nI (j + 1 + 1) = nI (j + 1) + nI 1 := (nI_add _ _).symm
        rw [e2, show nI 0 = (0 : Int32) from rfl]
        simp [Int32.sub_eq_add_neg, Int32.neg_add, Int32.add_assoc]
    · rw [k_l5, pk_mul, nI_add]
      refine br_f (nI_pos (by omega)) (br_f (nI_ge (b := 40) (by omega) (by omega)) ⟨vp_in_nI (by omega) (by omega), ?_⟩)
      rw [nI_clamp (by omega), show m * 5 + (t - (j + 1)) = 5 * m + (t - (j + 1)) by omega]
      exact hf _ (by omega)
  · have hjt : j = t := by omega
    subst hjt
    refine br_t (pk_sneg (by omega) (by omega)) ?_
    rw [horn_all]
    exact hq
/-- weights -/
def wA (m set x : Nat) : Nat → Nat
  | 0 => 1
  | n + 1 => if set.testBit (n + 1) = true ∧ n + 1 ≠ m then wA m set x n * ((x + 23 - (n + 1)) % 23) % 23 else wA m set x n
def wgt (m set x : Nat) : Nat := wA m set x 7 * (wA m set m 7 ^ 21 % 23) % 23
theorem wA_lt (m set x : Nat) : ∀ n, wA m set x n < 23
  | 0 => by show 1 < 23; omega
  | n + 1 => by
    simp only [wA]
    split
    · exact Nat.mod_lt _ (by omega)
    · exact wA_lt m set x n
theorem wgt_lt (m set x : Nat) : wgt m set x < 23 := Nat.mod_lt _ (by omega)
theorem s_weight {m set x : Nat} (hm1 : 1 ≤ m) (hm : m ≤ 7) (hs : set < 256) (hx : x < 23) {Q : Int32 → Prop} (hq : Q (nI (wgt m set x))) : wp_X5_weight (nI m) (nI set) (nI x) Q := by
  unfold wp_X5_weight
  refine k_lpI3 7 (fun j p q k => p = nI (wA m set x j) ∧ q = nI (wA m set m j) ∧ k = nI (j + 1)) 0 (Nat.zero_le _) ⟨rfl, rfl, rfl⟩ ?_
  rintro j hj p q k ⟨rfl, rfl, rfl⟩ B hB
  have h1 := wA_lt m set x j
  have h2 := wA_lt m set m j
  rcases Nat.lt_or_ge j 7 with hlt | hge
  · refine br_f (nI_nlt (a := 7) (b := j + 1) (by omega) (by omega)) ?_
    have hn : nI (j + 1) + (1 : Int32) = nI (j + 1 + 1) := nI_add (j + 1) 1
    by_cases hjm : j + 1 = m
    · refine br_t (by rw [hjm]) (hB hlt _ _ _ ⟨?_, ?_, hn⟩)
      · simp only [wA]; rw [if_neg (fun z => z.2 hjm)]
      · simp only [wA]; rw [if_neg (fun z => z.2 hjm)]
    · refine br_f (fun z => hjm ((nI_eq (by omega) (by omega)).mp z)) (s_has (by omega) (by omega) ?_)
      by_cases hb : set.testBit (j + 1) = true
      · rw [if_pos hb]
        refine br_f (by decide) (s_less (by omega) (by omega) (s_times (by omega) (Nat.lt_trans (Nat.mod_lt _ (by omega : 23 > 0)) (by omega)) (s_less (by omega) (by omega) (s_times (by omega) (Nat.lt_trans (Nat.mod_lt _ (by omega : 23 > 0)) (by omega)) (hB hlt _ _ _ ⟨?_, ?_, hn⟩)))))
        · simp only [wA]; rw [if_pos ⟨hb, hjm⟩]
        · simp only [wA]; rw [if_pos ⟨hb, hjm⟩]
      · rw [if_neg hb]
        refine br_t rfl (hB hlt _ _ _ ⟨?_, ?_, hn⟩)
        · simp only [wA]; rw [if_neg (fun z => hb z.1)]
        · simp only [wA]; rw [if_neg (fun z => hb z.1)]
  · have hj7 : j = 7 := by omega
    subst hj7
    refine br_t (by decide) (s_inverse (by omega) (s_times (by omega) (Nat.lt_trans (Nat.mod_lt _ (by omega : 23 > 0)) (by omega)) hq))
theorem pow21 (a b : Nat) : (a * b) ^ 21 = a ^ 21 * b ^ 21 := Nat.mul_pow a b 21
theorem wstep (a b d e : Nat) : (a * (b ^ 21 % 23) % 23 * d * (e ^ 21 % 23)) % 23 = (a * d % 23) * ((b * e % 23) ^ 21 % 23) % 23 := by
  have l1 : (a * (b ^ 21 % 23) % 23 * d * (e ^ 21 % 23)) % 23 = a * b ^ 21 * d * e ^ 21 % 23 := by
    simp [Nat.mul_mod, Nat.pow_mod]
  have l2 : (a * d % 23) * ((b * e % 23) ^ 21 % 23) % 23 = a * d * (b * e) ^ 21 % 23 := by
    simp [Nat.mul_mod, Nat.pow_mod]
  rw [l1, l2, pow21]
  congr 1
  simp [Nat.mul_assoc, Nat.mul_comm, Nat.mul_left_comm]
theorem s_weight7 {m set x : Nat} (hm1 : 1 ≤ m) (hm : m ≤ 7) (hs : set < 256) (hx : x < 23) {Q : Int32 → Prop} (hq : Q (nI (wgt m set x))) : wp_X7_weight (nI m) (nI set) (nI x) Q := by
  unfold wp_X7_weight
  refine k_lpI2 7 (fun j p k => p = nI (wA m set x j * (wA m set m j ^ 21 % 23) % 23) ∧ k = nI (j + 1)) 0 (Nat.zero_le _) ⟨by show (1 : Int32) = nI (1 * (1 ^ 21 % 23) % 23); decide, rfl⟩ ?_
  rintro j hj p k ⟨rfl, rfl⟩ B hB
  rcases Nat.lt_or_ge j 7 with hlt | hge
  · refine br_f (nI_nlt (a := 7) (b := j + 1) (by omega) (by omega)) (s_has7 (by omega) (by omega) ?_)
    have hn : nI (j + 1) + (1 : Int32) = nI (j + 1 + 1) := nI_add (j + 1) 1
    by_cases hb : set.testBit (j + 1) = true
    · rw [if_pos hb]
      refine br_f (by decide) ?_
      by_cases hjm : j + 1 = m
      · refine br_t (by rw [hjm]) (hB hlt _ _ ⟨?_, hn⟩)
        simp only [wA]; rw [if_neg (fun z => z.2 hjm), if_neg (fun z => z.2 hjm)]
      · refine br_f (fun z => hjm ((nI_eq (by omega) (by omega)).mp z)) (s_mod7s (by omega) (by omega) (s_inverse7 (by omega) (by omega) ?_))
        have b1 : wA m set x j * (wA m set m j ^ 21 % 23) % 23 < 23 := Nat.mod_lt _ (by omega)
        have b2 : (x + 23 - (j + 1)) % 23 < 23 := Nat.mod_lt _ (by omega)
        have b3 : ((m + 23 - (j + 1)) % 23) ^ 21 % 23 < 23 := Nat.mod_lt _ (by omega)
        have b4 : wA m set x j * (wA m set m j ^ 21 % 23) % 23 * ((x + 23 - (j + 1)) % 23) ≤ 23 * 23 := Nat.mul_le_mul (by omega) (by omega)
        have b5 : wA m set x j * (wA m set m j ^ 21 % 23) % 23 * ((x + 23 - (j + 1)) % 23) * (((m + 23 - (j + 1)) % 23) ^ 21 % 23) ≤ 23 * 23 * 23 := Nat.mul_le_mul b4 (by omega)
        rw [pk_mul, pk_mul]
        refine s_mod7 (by omega) (hB hlt _ _ ⟨?_, hn⟩)
        rw [wstep]
        simp only [wA]
        rw [if_pos ⟨hb, hjm⟩, if_pos ⟨hb, hjm⟩]
    · rw [if_neg hb]
      refine br_t rfl (hB hlt _ _ ⟨?_, hn⟩)
      simp only [wA]; rw [if_neg (fun z => hb z.1), if_neg (fun z => hb z.1)]
  · have hj7 : j = 7 := by omega
    subst hj7
    exact br_t (by decide) hq
/-- a weighed sum -/
def wsum (g : Nat → Nat) (set x : Nat) : Nat → Nat
  | 0 => 0
  | n + 1 => wsum g set x n + (if set.testBit (n + 1) then g (n + 1) * wgt (n + 1) set x else 0)
theorem wsum_le {g : Nat → Nat} {set x : Nat} (hg : ∀ m, g m < 23) : ∀ n, wsum g set x n ≤ 484 * n
  | 0 => Nat.le_refl _
  | n + 1 => by
    have h1 := wsum_le (set := set) (x := x) hg n
    have h2 := wgt_lt (n + 1) set x
    have h3 := hg (n + 1)
    have h4 : g (n + 1) * wgt (n + 1) set x ≤ 22 * 22 := Nat.mul_le_mul (by omega) (by omega)
    simp only [wsum]
    split <;> omega
theorem s_weighed {f : Nat → Int32} {g : Nat → Nat} {set x : Nat} (hf : ∀ m, 1 ≤ m → m ≤ 7 → set.testBit m = true → f m = nI (g m)) (hg : ∀ m, g m < 23) (hs : set < 256) (hx : x < 23) {Q : Int32 → Prop} (hq : Q (nI (wsum g set x 7 % 23))) : wp_X5_weighed f (nI set) (nI x) Q := by
  unfold wp_X5_weighed
  refine k_lpI2 7 (fun j p k => p = nI (wsum g set x j % 23) ∧ k = nI (j + 1)) 0 (Nat.zero_le _) ⟨rfl, rfl⟩ ?_
  rintro j hj p k ⟨rfl, rfl⟩ B hB
  rcases Nat.lt_or_ge j 7 with hlt | hge
  · refine br_f (nI_nlt (a := 7) (b := j + 1) (by omega) (by omega)) (br_f (nI_ge (b := 8) (a := j + 1) (by omega) (by omega)) (s_has (by omega) (by omega) ?_))
    have hn : nI (j + 1) + (1 : Int32) = nI (j + 1 + 1) := nI_add (j + 1) 1
    by_cases hb : set.testBit (j + 1) = true
    · rw [if_pos hb]
      refine br_f (by decide) ⟨vp_in_nI (by omega) (by omega), s_weight (by omega) (by omega) hs hx ?_⟩
      have h1 := wgt_lt (j + 1) set x
      have h2 := hg (j + 1)
      have h3 : wsum g set x j % 23 < 23 := Nat.mod_lt _ (by omega)
      have h4 : g (j + 1) * wgt (j + 1) set x % 23 < 23 := Nat.mod_lt _ (by omega)
      rw [nI_clamp (by omega), hf (j + 1) (by omega) (by omega) hb]
      refine s_times (by omega) (by omega) (s_plus (by omega) (by omega) (hB hlt _ _ ⟨?_, hn⟩))
      simp only [wsum]
      rw [if_pos hb, ← Nat.add_mod]
    · rw [if_neg hb]
      refine br_t rfl (hB hlt _ _ ⟨?_, hn⟩)
      simp only [wsum]
      rw [if_neg hb, Nat.add_zero]
  · have hj7 : j = 7 := by omega
    subst hj7
    exact br_t (by decide) hq
