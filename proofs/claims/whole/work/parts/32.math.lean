/-! polynomials over 23, their seals over 47, weights -/
def psum (c : Nat → Nat) (x : Nat) : Nat → Nat
  | 0 => 0
  | t + 1 => psum c x t + c t * x ^ t
def pe (c : Nat → Nat) (t x : Nat) : Nat := psum c x t % 23
theorem pe_lt (c : Nat → Nat) (t x : Nat) : pe c t x < 23 := Nat.mod_lt _ (by omega)
theorem psum_congr {c c' : Nat → Nat} {x : Nat} : ∀ {t : Nat}, (∀ j, j < t → c j = c' j) → psum c x t = psum c' x t
  | 0, _ => rfl
  | t + 1, h => by
    simp only [psum]
    rw [psum_congr (fun j hj => h j (by omega)), h t (by omega)]
theorem pe_congr {c c' : Nat → Nat} {t x : Nat} (h : ∀ j, j < t → c j = c' j) : pe c t x = pe c' t x := by
  unfold pe
  rw [psum_congr h]
theorem psum_mod {c c' : Nat → Nat} {x : Nat} : ∀ {t : Nat}, (∀ j, j < t → c j % 23 = c' j % 23) → psum c x t % 23 = psum c' x t % 23
  | 0, _ => rfl
  | t + 1, h => by
    simp only [psum]
    rw [Nat.add_mod, Nat.add_mod (psum c' x t), psum_mod (fun j hj => h j (by omega)), Nat.mul_mod, h t (by omega), ← Nat.mul_mod]
theorem psum_add (c c' : Nat → Nat) (x : Nat) : ∀ t, psum (fun j => c j + c' j) x t = psum c x t + psum c' x t
  | 0 => rfl
  | t + 1 => by
    simp only [psum]
    rw [psum_add c c' x t, Nat.add_mul]
    omega
theorem psum_smul (k : Nat) (c : Nat → Nat) (x : Nat) : ∀ t, psum (fun j => k * c j) x t = k * psum c x t
  | 0 => rfl
  | t + 1 => by
    simp only [psum]
    rw [psum_smul k c x t, Nat.mul_add, Nat.mul_assoc]
/-- the sum with reduced powers -/
def psr (c : Nat → Nat) (x : Nat) : Nat → Nat
  | 0 => 0
  | t + 1 => psr c x t + c t * (x ^ t % 23)
theorem psr_mod (c : Nat → Nat) (x : Nat) : ∀ t, psr c x t % 23 = psum c x t % 23
  | 0 => rfl
  | t + 1 => by
    simp only [psr, psum]
    rw [Nat.add_mod, psr_mod c x t, Nat.mul_mod, Nat.mod_mod, ← Nat.mul_mod, ← Nat.add_mod]
/-- by Horner, from the last one down -/
def horn (c : Nat → Nat) (x t : Nat) : Nat → Nat
  | 0 => 0
  | k + 1 => horn c x t k * x + c (t - (k + 1))
theorem psum_shift (c : Nat → Nat) (x : Nat) : ∀ t, psum c x (t + 1) = c 0 + x * psum (fun j => c (j + 1)) x t
  | 0 => by simp [psum]
  | t + 1 => by
    rw [show psum c x (t + 1 + 1) = psum c x (t + 1) + c (t + 1) * x ^ (t + 1) from rfl, psum_shift c x t]
    simp only [psum]
    rw [Nat.mul_add, Nat.pow_succ]
    have : c (t + 1) * (x ^ t * x) = x * (c (t + 1) * x ^ t) := by
      rw [← Nat.mul_assoc, Nat.mul_comm]
    omega
theorem horn_psum (c : Nat → Nat) (x t : Nat) : ∀ k, k ≤ t → horn c x t k = psum (fun j => c (j + (t - k))) x k
  | 0, _ => rfl
  | k + 1, h => by
    simp only [horn]
    rw [horn_psum c x t k (by omega), psum_shift]
    have e : (fun j => c (j + (t - k))) = (fun j => c (j + 1 + (t - (k + 1)))) := by
      funext j
      congr 1
      omega
    rw [e, Nat.mul_comm]
    have : 0 + (t - (k + 1)) = t - (k + 1) := by omega
    rw [this]
    omega
theorem horn_all (c : Nat → Nat) (x t : Nat) : horn c x t t = psum c x t := by
  rw [horn_psum c x t t (Nat.le_refl _)]
  congr 1
  funext j
  congr 1
  omega
theorem four23 : 4 ^ 23 % 47 = 1 := by decide
theorem four_mod (n : Nat) : 4 ^ n % 47 = 4 ^ (n % 23) % 47 := by
  have h : 4 ^ n = (4 ^ 23) ^ (n / 23) * 4 ^ (n % 23) := by
    rw [← Nat.pow_mul, ← Nat.pow_add, Nat.div_add_mod]
  rw [h, Nat.mul_mod, Nat.pow_mod, four23, Nat.one_pow]
  simp
theorem four_inj : ∀ a, a < 23 → ∀ b, b < 23 → 4 ^ a % 47 = 4 ^ b % 47 → a = b := by decide +kernel
theorem four_fit {v n : Nat} (hv : v < 23) : 4 ^ v % 47 = 4 ^ n % 47 ↔ v = n % 23 := by
  rw [four_mod n]
  exact ⟨four_inj v hv _ (Nat.mod_lt _ (by omega)), fun h => by rw [h]⟩
theorem four_mul (a b : Nat) : 4 ^ a % 47 * (4 ^ b % 47) % 47 = 4 ^ (a + b) % 47 := by
  rw [← Nat.mul_mod, Nat.pow_add]
theorem four_pow (a e : Nat) : (4 ^ a % 47) ^ e % 47 = 4 ^ (a * e) % 47 := by
  rw [← Nat.pow_mod, Nat.pow_mul]
theorem four_lt (a : Nat) : 4 ^ a % 47 < 47 := Nat.mod_lt _ (by omega)
/-- a value fits the seals of c at x just if it is the polynomial's -/
theorem s_fitting {f : Nat → Int32} {c : Nat → Nat} {v x t : Nat} (hf : ∀ j, j < t → f j = nI (4 ^ c j % 47)) (hv : v < 23) (hx : x < 23) (ht : t ≤ 5) {Q : Int32 → Prop} (hq : Q (if v = pe c t x then 1 else 0)) : wp_X5_fitting f (nI v) (nI x) (nI t) Q := by
  unfold wp_X5_fitting
  have hmin : (if (5 : Int32) < nI t then (5 : Int32) else nI t) = nI t := if_neg (nI_nlt (b := t) (a := 5) ht (by omega))
  rw [hmin]
  refine k_lpI2 t (fun j p k => p = nI (4 ^ horn c x t j % 47) ∧ k = nI t - nI (j + 1)) 0 (Nat.zero_le _) ⟨by rw [horn, Nat.pow_zero]; rfl, rfl⟩ ?_
  rintro j hj p k ⟨rfl, rfl⟩ B hB
  have hp := four_lt (horn c x t j)
  rcases Nat.lt_or_ge j t with hlt | hge
  · have e : nI t - nI (j + 1) = nI (t - (j + 1)) := k_sub_n (by omega)
    rw [e]
    refine br_f (nI_pos (by omega)) ?_
    refine s_raised (by omega) (by omega) ⟨vp_in_nI (by omega) (by omega), ?_⟩
    rw [nI_clamp (by omega), hf _ (by omega), four_pow]
    refine s_joined (Nat.lt_of_lt_of_le (four_lt _) (by omega)) (Nat.lt_of_lt_of_le (four_lt _) (by omega)) ?_
    refine hB hlt _ _ ⟨by rw [four_mul]; rfl, ?_⟩
    rw [← e, show (-1 : Int32) = nI 0 - nI 1 from rfl]
    have e2 : nI (j + 1 + 1) = nI (j + 1) + nI 1 := (nI_add _ _).symm
    rw [e2, show nI 0 = (0 : Int32) from rfl]
    simp [Int32.sub_eq_add_neg, Int32.neg_add, Int32.add_assoc]
  · have hjt : j = t := by omega
    subst hjt
    refine br_t ?_ ?_
    · exact pk_sneg (by omega) (by omega)
    · refine s_sealOf (by omega) ?_
      rw [horn_all]
      by_cases hc : v = pe c j x
      · rw [if_pos hc] at hq
        exact br_t (by rw [(four_fit hv).mpr hc]) hq
      · rw [if_neg hc] at hq
        exact br_f (fun z => hc ((four_fit hv).mp ((nI_eq (Nat.lt_trans (four_lt _) (by omega)) (Nat.lt_trans (four_lt _) (by omega))).mp z))) hq
