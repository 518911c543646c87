/-! the beginning -/
def aA0 : aM := fun a k => if a = 1 ∧ k % 5 = 4 then 1 else 0
theorem i_b6 : ∀ k, k < 40 → 5 ≤ k → k_s0 6 k = nI (aA0 1 k) := by decide +kernel
theorem i_b7 : ∀ m, m < 8 → ∀ w, w < 5 → 1 ≤ m → k_t0 1 (48 + 8 * w + m) = nI (aA0 1 (5 * m + w)) := by decide +kernel
theorem i_r7 : ∀ k, k < 40 → k_t0 1 k = nI (aA0 0 k) := by decide +kernel
theorem i_s7 : ∀ m, m < 8 → 1 ≤ m → k_t0 1 (40 + m) = -6 := by decide +kernel
theorem i_hi : ∀ m, m < 8 → ∀ w, w < 5 → aA0 1 (5 * m + w) ≤ aHi w := by decide +kernel
theorem aA0_8 (k : Nat) : aA0 8 k = 0 := rfl
theorem aA0_n (a k : Nat) : aA0 a k ≤ 1 := by
  unfold aA0
  split <;> omega
theorem init_ok (ρ : Nat → k_M) : RR (fun _ => false) k_s0 ρ k_t0 := by
  refine ⟨⟨aA0, ?_, ?_, ?_⟩, ⟨0, by omega, rfl, rfl, fun i h => absurd h (by omega)⟩, fun k _ h => Bool.noConfusion h, fun k _ => rfl⟩
  · refine ⟨fun k _ => rfl, fun k h1 h2 => i_b6 k h2 h1, fun m _ _ h => ?_, fun j h => absurd h (by decide), fun e h => absurd h (by rw [aA0_8]; omega), rfl, fun h => absurd h (by decide), by decide, rfl, rfl, rfl, rfl, fun i h => absurd h (by rw [aA0_8]; omega)⟩
    rw [aA0_8, Nat.zero_testBit] at h
    exact absurd h (by decide)
  · refine ⟨i_r7, fun m w h1 h2 h3 => i_b7 m (by omega) w h3 h1, fun m h1 h2 => ?_, fun j h => absurd h (by decide), fun e h => absurd h (by rw [aA0_8]; omega), by decide, by decide, by decide, by decide, by decide, by decide, fun i h => absurd h (by rw [aA0_8]; omega)⟩
    rw [aA0_8, Nat.zero_testBit]
    exact i_s7 m (by omega) h1
  · refine ⟨fun k _ => Nat.lt_of_le_of_lt (aA0_n 0 k) (by omega), fun m w h1 h2 h3 => i_hi m (by omega) w h3, by decide, by decide, by decide, by decide, by decide, by decide, fun h => absurd h (by decide), fun e h => absurd h (by rw [aA0_8]; omega), fun j => Nat.lt_of_le_of_lt (aA0_n 3 j) (by omega), fun _ => ⟨rfl, rfl⟩, fun m _ _ h => ?_, fun i h => absurd h (by rw [aA0_8]; omega), fun i j _ h => absurd h (by rw [aA0_8]; omega), fun k => Nat.lt_of_le_of_lt (aA0_n 9 k) (by omega)⟩
    rw [aA0_8, Nat.zero_testBit] at h
    exact absurd h (by decide)
theorem sim_all : k_Sim RR := ⟨sim_row_ok, sim_bent_ok, sim_member_ok, sim_say_ok, sim_wipe_ok, sim_fault_ok, sim_act_ok, sim_named_ok, sim_fits_ok, sim_seal_ok, sim_weighs_ok, sim_loot_ok, sim_worlds_ok, sim_thief_ok, sim_count_ok, sim_image_out_ok, sim_restore_out_ok, sim_image_in_ok, sim_restore_no_ok, sim_restore_in_ok⟩
