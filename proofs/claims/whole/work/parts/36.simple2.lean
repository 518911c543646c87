/-! more of the plain calls -/
theorem n_or (a b : Nat) : nI a ||| nI b = nI (a ||| b) := by
  apply Int32.toBitVec_inj.1
  show BitVec.ofNat 32 a ||| BitVec.ofNat 32 b = BitVec.ofNat 32 (a ||| b)
  apply BitVec.eq_of_getLsbD_eq
  intro i hi
  simp [BitVec.getLsbD_ofNat, hi]
theorem n_and (a b : Nat) : nI a &&& nI b = nI (a &&& b) := by
  apply Int32.toBitVec_inj.1
  show BitVec.ofNat 32 a &&& BitVec.ofNat 32 b = BitVec.ofNat 32 (a &&& b)
  apply BitVec.eq_of_getLsbD_eq
  intro i hi
  simp [BitVec.getLsbD_ofNat, hi]
theorem n_xor (a b : Nat) : nI a ^^^ nI b = nI (a ^^^ b) := by
  apply Int32.toBitVec_inj.1
  show BitVec.ofNat 32 a ^^^ BitVec.ofNat 32 b = BitVec.ofNat 32 (a ^^^ b)
  apply BitVec.eq_of_getLsbD_eq
  intro i hi
  simp [BitVec.getLsbD_ofNat, hi]
theorem n_of32 (x : Int32) : ∃ n, n < 2 ^ 32 ∧ x = nI n := ⟨x.toBitVec.toNat, x.toBitVec.isLt, by
  apply Int32.toBitVec_inj.1
  show x.toBitVec = BitVec.ofNat 32 x.toBitVec.toNat
  simp⟩
theorem n_inj32 {a b : Nat} (ha : a < 2 ^ 32) (hb : b < 2 ^ 32) (h : nI a = nI b) : a = b := by
  have h1 : BitVec.ofNat 32 a = BitVec.ofNat 32 b := congrArg Int32.toBitVec h
  have h2 := congrArg BitVec.toNat h1
  simp [BitVec.toNat_ofNat] at h2
  omega
theorem mask_bits : ∀ i, i < 32 → (i = 0 ∨ 8 ≤ i) → (4294967041 : Nat).testBit i = true := by decide +kernel
theorem k_mask {x : Int32} (h : x &&& (-255) = 0) : ∃ n, n < 256 ∧ n.testBit 0 = false ∧ x = nI n := by
  obtain ⟨n, hn, rfl⟩ := n_of32 x
  rw [show (-255 : Int32) = nI 4294967041 from by decide, n_and] at h
  have hz : n &&& 4294967041 = 0 := n_inj32 (Nat.lt_of_le_of_lt Nat.and_le_left hn) (by omega) h
  have hb : ∀ i, (i = 0 ∨ 8 ≤ i) → n.testBit i = false := by
    intro i hi
    by_cases h32 : i < 32
    · have h1 : (n &&& 4294967041).testBit i = false := by rw [hz]; exact Nat.zero_testBit i
      rw [Nat.testBit_and, mask_bits i h32 hi, Bool.and_true] at h1
      exact h1
    · exact Nat.testBit_lt_two_pow (Nat.lt_of_lt_of_le hn (Nat.pow_le_pow_right (by omega) (by omega)))
  exact ⟨n, Nat.lt_pow_two_of_testBit n (fun i hi => hb i (Or.inr hi)), hb 0 (Or.inl rfl), rfl⟩
theorem sim_weighs_ok : sim_weighs RR := by
  rintro pr σ ρ τ p1 p2 p3 hR
  unfold wp_X6_weighs wp_X7_weighs
  rcases k_case p3 0 22 (by omega) (by omega) with ⟨x, -, hx, rfl⟩ | h3
  · have hv7 : ∀ {Q : Int32 → Prop}, Q 1 → wp_X7_in (nI x) 0 22 Q := fun h => s_in1 (lo := 0) (hi := 22) (by omega) hx (by omega) h
    refine s_val1 (by omega) (b1 (br_c (fun hm => ?_) (fun hm => hv7 (b1 (br_f hm ⟨rfl, hR⟩)))))
    obtain ⟨n, hn, hn0, rfl⟩ := k_mask hm
    rcases k_case p1 1 7 (by omega) (by omega) with ⟨m, hm1, hm7, rfl⟩ | h1
    · refine s_mem1 hm1 hm7 (b1 (s_has (by omega) (by omega) ?_))
      by_cases hb : n.testBit m = true
      · rw [if_pos hb]
        refine b1 (s_weight hm1 hm7 hn (by omega) (hv7 (b1 (br_t hm (s_mem71 hm1 hm7 (b1 (s_has7 (by omega) (by omega) ?_)))))))
        rw [if_pos hb]
        exact b1 (s_weight7 hm1 hm7 hn (by omega) ⟨rfl, hR⟩)
      · rw [if_neg hb]
        refine b0 (hv7 (b1 (br_t hm (s_mem71 hm1 hm7 (b1 (s_has7 (by omega) (by omega) ?_))))))
        rw [if_neg hb]
        exact b0 ⟨rfl, hR⟩
    · exact s_mem0 h1 (b0 (hv7 (b1 (br_t hm (s_mem70 h1 (b0 ⟨rfl, hR⟩))))))
  · exact s_val0 h3 (b0 (s_in0 h3 (b0 ⟨rfl, hR⟩)))
/-- of a dealt circle: what both know -/
theorem fitC {σ : k_M} {A : aM} (hc : CRc (circ σ) A) (hi : aInv A) (hd : 0 < A 8 2) {v x : Nat} (hv : v < 23) (hx : x < 23) {Q : Int32 → Prop} (hq : Q (if v = pe (A 3) (A 8 1) x then 1 else 0)) : wp_X5_fitting (σ 8) (nI v) (nI x) (σ 4 7) Q := by
  have h47 : σ 4 7 = nI (A 8 1) := hc.2.2.2.2.2.2.1 hd
  rw [h47]
  exact s_fitting (fun j hj => hc.2.2.2.1 j hd hj) hv hx (hi.2.2.2.2.2.2.2.2.1 hd).2.1 hq
theorem fitM {τ : k_M} {A : aM} (hm : CRm (τ 1) A) (hi : aInv A) (hd : 0 < A 8 2) {v x : Nat} (hv : v < 23) (hx : x < 23) {Q : Int32 → Prop} (hq : Q (if v = pe (A 3) (A 8 1) x then 1 else 0)) : wp_X7_isFit τ (nI v) (nI x) Q := by
  have h88 : τ 1 88 = nI (A 8 1) := by rw [hm.2.2.2.2.2.1, if_neg (by omega)]
  exact s_isFit h88 (fun j hj => hm.2.2.2.1 j hd hj) hv hx (hi.2.2.2.2.2.2.2.2.1 hd).2.1 hq
theorem b_if {c : Prop} [Decidable c] {A B : Prop} (h : if c then B else A) : ((if c then (1 : Int32) else 0) = 0 → A) ∧ (¬ (if c then (1 : Int32) else 0) = 0 → B) := by
  by_cases hc : c
  · rw [if_pos hc] at h ⊢; exact b1 h
  · rw [if_neg hc] at h ⊢; exact b0 h
theorem q_if {c : Prop} [Decidable c] {Q : Int32 → Prop} (h : Q (if c then 1 else 0)) : if c then Q 1 else Q 0 := by
  by_cases hc : c
  · rw [if_pos hc] at h ⊢; exact h
  · rw [if_neg hc] at h ⊢; exact h
theorem f6 {σ : k_M} {A : aM} (hc : CRc (circ σ) A) (hi : aInv A) {v x : Nat} (hv : v < 23) (hx : x < 23) {Q : Int32 → Prop} (hq : Q (if A 8 2 = 0 then -3 else if v = pe (A 3) (A 8 1) x then 1 else 0)) : wp_X6_fits σ (nI v) (nI x) Q := by
  unfold wp_X6_fits
  refine s_val1 hv (b1 (s_val1 hx (b1 (s_isDealt hc.2.2.2.2.2.2.2.1 hi.2.2.2.2.1 ?_))))
  by_cases h0 : A 8 2 = 0
  · rw [if_pos h0] at hq ⊢
    exact b0 hq
  · rw [if_neg h0] at hq ⊢
    exact b1 (fitC hc hi (by omega) hv hx (b_if (q_if hq)))
theorem f7 {τ : k_M} {A : aM} (hm : CRm (τ 1) A) (hi : aInv A) {v x : Nat} (hv : v < 23) (hx : x < 23) {Q : Int32 → Prop} (hq : Q (if A 8 2 = 0 then -3 else if v = pe (A 3) (A 8 1) x then 1 else 0)) : wp_X7_fits τ (nI v) (nI x) Q := by
  unfold wp_X7_fits
  refine s_val71 hv (b1 (s_val71 hx (b1 (s_isDealt7 hm.2.2.2.2.2.2.1 hi.2.2.2.2.1 ?_))))
  by_cases h0 : A 8 2 = 0
  · rw [if_pos h0] at hq ⊢
    exact b0 hq
  · rw [if_neg h0] at hq ⊢
    exact b1 (fitM hm hi (by omega) hv hx (b_if (q_if hq)))
theorem sim_fits_ok : sim_fits RR := by
  rintro pr σ ρ τ p1 p2 hR
  obtain ⟨⟨A, hc, hm, hi⟩, -, -, -⟩ := id hR
  rcases k_case p1 0 22 (by omega) (by omega) with ⟨v, -, hv, rfl⟩ | h1
  · rcases k_case p2 0 22 (by omega) (by omega) with ⟨x, -, hx, rfl⟩ | h2
    · exact f6 hc hi (by omega) (by omega) (f7 hm hi (by omega) (by omega) ⟨rfl, hR⟩)
    · exact s_val1 (by omega) (b1 (s_val0 h2 (b0 (s_val71 (by omega) (b1 (s_val70 h2 (b0 ⟨rfl, hR⟩)))))))
  · exact s_val0 h1 (b0 (s_val70 h1 (b0 ⟨rfl, hR⟩)))
theorem sim_loot_ok : sim_loot RR := by
  rintro pr σ ρ τ p1 p2 hR
  obtain ⟨⟨A, hc, hm, hi⟩, -, -, -⟩ := id hR
  have hz := hi.2.2.2.2.2.2.2.1
  have h103 : σ 10 3 = nI (A 8 6) := hc.2.2.2.2.2.2.2.2.2.2.2.1
  have h367 : τ 1 367 = nI (A 8 6) := hm.2.2.2.2.2.2.2.1
  unfold wp_X6_loot wp_X7_loot
  rw [h103, kcl_367, h367]
  rcases k_case p2 0 2 (by omega) (by omega) with ⟨w, -, hw, rfl⟩ | h2
  · refine br_f (nI_pos (by omega)) (br_t (nI_le (b := 2) hw (by omega)) ?_)
    have hw7 : ∀ {Q : Int32 → Prop}, Q 1 → wp_X7_in (nI w) 0 2 Q := fun h => s_in1 (lo := 0) (hi := 2) (by omega) hw (by omega) h
    by_cases hn : ∃ i, i < A 8 6 ∧ p1 = nI i
    · obtain ⟨i, hi2, rfl⟩ := hn
      have hsub : nI (A 8 6) - (1 : Int32) = nI (A 8 6 - 1) := k_sub_n (b := 1) (by omega)
      refine br_f (nI_pos (by omega)) (br_f (nI_ge hi2 (by omega)) (br_t (nI_lt (b := 24) (by omega) (by omega)) ?_))
      have hL := hc.2.2.2.2.2.2.2.2.2.2.2.2 i hi2
      have hM := hm.2.2.2.2.2.2.2.2.2.2.2 i hi2
      have key : ∀ r : Int32, r = τ 1 (295 + 3 * i + w) → wp_X7_in (nI w) 0 2 (fun r_3 => ((r_3 = 0 → r = -2 ∧ RR pr σ ρ τ) ∧ (¬ r_3 = 0 → wp_X7_in (nI i) 0 (nI (A 8 6) - 1) (fun r_24 => ((r_24 = 0 → r = -6 ∧ RR pr σ ρ τ) ∧ (¬ r_24 = 0 → (vp_in (((295 : Int32) + ((3 : Int32) * nI i)) + nI w) 371 ∧ r = (τ 1) (((295 : Int32) + ((3 : Int32) * nI i)) + nI w).toNatClampNeg ∧ RR pr σ ρ τ))))))) := by
        intro r hr
        refine hw7 (b1 ?_)
        rw [hsub]
        refine s_in1 (lo := 0) (by omega) (by omega) (by omega) (b1 ?_)
        rw [k_l295, k_l3, pk_mul, nI_add, nI_add, nI_clamp (by omega)]
        exact ⟨vp_in_nI (by omega) (by omega), hr, hR⟩
      rw [nI_clamp (by omega)]
      rcases (show w = 0 ∨ w = 1 ∨ w = 2 by omega) with rfl | rfl | rfl
      · exact br_t rfl ⟨vp_in_nI (by omega) (by omega), key _ (hL.1.trans hM.1.symm)⟩
      · exact br_f (by decide) (br_t rfl ⟨vp_in_nI (by omega) (by omega), key _ (hL.2.1.trans (by rw [show 295 + 3 * i + 1 = 296 + 3 * i by omega]; exact hM.2.1.symm))⟩)
      · exact br_f (by decide) (br_f (by decide) ⟨vp_in_nI (by omega) (by omega), key _ (hL.2.2.trans (by rw [show 295 + 3 * i + 2 = 297 + 3 * i by omega]; exact hM.2.2.symm))⟩)
    · have hout : p1 < nI 0 ∨ (nI (A 8 6) - (1 : Int32)) < p1 := by
        by_cases h0 : p1 < 0
        · exact Or.inl h0
        · obtain ⟨j, hj, rfl⟩ := nI_of h0
          right
          have hjn : A 8 6 ≤ j := Nat.not_lt.mp (fun h => hn ⟨j, h, rfl⟩)
          by_cases hs0 : A 8 6 = 0
          · rw [hs0]
            rw [Int32.lt_iff_toInt_lt, nI_toInt hj]
            have : (nI 0 - 1 : Int32).toInt = -1 := by decide
            omega
          · rw [show nI (A 8 6) - (1 : Int32) = nI (A 8 6 - 1) from k_sub_n (b := 1) (by omega)]
            exact nI_lt (by omega) hj
      have hend := hw7 (Q := fun r_3 => ((r_3 = 0 → (-6 : Int32) = -2 ∧ RR pr σ ρ τ) ∧ (¬ r_3 = 0 → wp_X7_in p1 0 (nI (A 8 6) - 1) (fun r_24 => ((r_24 = 0 → (-6 : Int32) = -6 ∧ RR pr σ ρ τ) ∧ (¬ r_24 = 0 → (vp_in (((295 : Int32) + ((3 : Int32) * p1)) + nI w) 371 ∧ (-6 : Int32) = (τ 1) (((295 : Int32) + ((3 : Int32) * p1)) + nI w).toNatClampNeg ∧ RR pr σ ρ τ))))))) (b1 (s_in0 hout (b0 ⟨rfl, hR⟩)))
      by_cases h0 : p1 < 0
      · exact br_t h0 hend
      · obtain ⟨j, hj, rfl⟩ := nI_of h0
        have hjn : A 8 6 ≤ j := Nat.not_lt.mp (fun h => hn ⟨j, h, rfl⟩)
        exact br_f h0 (br_t (nI_le hjn hj) hend)
  · have hend := s_in0 (y := 0) (z := 2) h2 (Q := fun r_3 => ((r_3 = 0 → (-2 : Int32) = -2 ∧ RR pr σ ρ τ) ∧ (¬ r_3 = 0 → wp_X7_in p1 0 (nI (A 8 6) - 1) (fun r_24 => ((r_24 = 0 → (-2 : Int32) = -6 ∧ RR pr σ ρ τ) ∧ (¬ r_24 = 0 → (vp_in (((295 : Int32) + ((3 : Int32) * p1)) + p2) 371 ∧ (-2 : Int32) = (τ 1) (((295 : Int32) + ((3 : Int32) * p1)) + p2).toNatClampNeg ∧ RR pr σ ρ τ))))))) (b0 ⟨rfl, hR⟩)
    rcases h2 with h2 | h2
    · exact br_t h2 hend
    · exact br_c (fun _ => hend) (fun _ => br_f (k_not_le h2) hend)
/-- tells -/
theorem s_bend {σ : k_M} {m w : Nat} (hm : m ≤ 7) (hw : w < 5) {Q : Int32 → Prop} (hq : Q (σ 6 (5 * m + w))) : wp_X0_bend σ (nI m) (nI w) Q := by
  unfold wp_X0_bend
  rw [k_l5, pk_mul, nI_add, show m * 5 + w = 5 * m + w by omega, nI_clamp (by omega)]
  exact ⟨vp_in_nI (by omega) (by omega), hq⟩
/-- what a holder tells -/
def tellN (A : aM) (m : Nat) : Nat := (A 2 m + A 1 (5 * m)) % 23
theorem tellN_lt (A : aM) (m : Nat) : tellN A m < 23 := Nat.mod_lt _ (by omega)
theorem lie_le {A : aM} (hi : aInv A) {m : Nat} (h1 : 1 ≤ m) (h7 : m ≤ 7) : A 1 (5 * m) ≤ 22 := hi.2.1 m 0 h1 h7 (by omega)
theorem share_lt {A : aM} (hi : aInv A) {m : Nat} (h1 : 1 ≤ m) (h7 : m ≤ 7) (hb : (A 8 0).testBit m = true) : A 2 m < 23 := by
  rw [hi.2.2.2.2.2.2.2.2.2.2.2.2.1 m h1 h7 hb]
  exact pe_lt _ _ _
theorem s_tells {σ : k_M} {A : aM} (hc : CRc (circ σ) A) (hi : aInv A) {m : Nat} (h1 : 1 ≤ m) (h7 : m ≤ 7) (hb : (A 8 0).testBit m = true) {Q : Int32 → Prop} (hq : Q (nI (tellN A m))) : wp_X0_tells σ (nI m) Q := by
  unfold wp_X0_tells
  have ha := share_lt hi h1 h7 hb
  have hl := lie_le hi h1 h7
  refine ⟨vp_in_nI (by omega) (by omega), s_bend h7 (w := 0) (by omega) ?_⟩
  have e1 : σ 6 (5 * m + 0) = nI (A 1 (5 * m)) := hc.2.1 _ (by omega) (by omega)
  have e2 : σ 7 m = nI (A 2 m) := hc.2.2.1 m h1 h7 hb
  rw [nI_clamp (by omega), e1, e2]
  exact s_plus (by omega) (by omega) hq
theorem s_told {τ : k_M} {A : aM} (hm : CRm (τ 1) A) (hi : aInv A) {m : Nat} (h1 : 1 ≤ m) (h7 : m ≤ 7) (hb : (A 8 0).testBit m = true) {Q : Int32 → Prop} (hq : Q (nI (tellN A m))) : wp_X7_told τ (nI m) Q := by
  unfold wp_X7_told
  have ha := share_lt hi h1 h7 hb
  have hl := lie_le hi h1 h7
  rw [k_l40, nI_add]
  refine ⟨vp_in_nI (by omega) (by omega), s_bentOf h7 (w := 0) (by omega) ?_⟩
  have e1 : τ 1 (48 + 8 * 0 + m) = nI (A 1 (5 * m)) := hm.2.1 m 0 h1 h7 (by omega)
  have e2 : τ 1 (40 + m) = nI (A 2 m) := by rw [hm.2.2.1 m h1 h7, if_pos hb]
  rw [nI_clamp (by omega), e1, e2, nI_add]
  exact s_mod7 (by omega) hq
theorem s_hasShare {τ : k_M} {A : aM} (hm : CRm (τ 1) A) (hi : aInv A) {m : Nat} (h1 : 1 ≤ m) (h7 : m ≤ 7) {Q : Int32 → Prop} (hq : Q (if (A 8 0).testBit m then 1 else 0)) : wp_X7_hasShare τ (nI m) Q := by
  unfold wp_X7_hasShare
  rw [k_l40, nI_add]
  refine ⟨vp_in_nI (by omega) (by omega), ?_⟩
  rw [nI_clamp (by omega), hm.2.2.1 m h1 h7]
  by_cases hb : (A 8 0).testBit m = true
  · have ha := share_lt hi h1 h7 hb
    rw [if_pos hb] at hq ⊢
    exact br_f (nI_pos (by omega)) hq
  · rw [if_neg hb] at hq ⊢
    exact br_t (by decide) hq
/-- member -/
theorem g6 {σ : k_M} {A : aM} (hc : CRc (circ σ) A) (hi : aInv A) {m w : Nat} (h1 : 1 ≤ m) (h7 : m ≤ 7) (hw : w < 3) {Q : Int32 → Prop} (hq : Q (if (A 8 0).testBit m then (if w = 0 then nI (A 2 m) else if w = 1 then nI (tellN A m) else if tellN A m = pe (A 3) (A 8 1) m then 1 else 0) else -6)) : wp_X6_shareFacts σ (nI m) (nI w) Q := by
  unfold wp_X6_shareFacts
  have h46 : σ 4 6 = nI (A 8 0) := hc.2.2.2.2.2.1
  rw [h46]
  refine s_has (Nat.lt_trans hi.2.2.1 (by omega)) (by omega) (b_if ?_)
  by_cases hb : (A 8 0).testBit m = true
  · rw [if_pos hb] at hq ⊢
    have hd : 0 < A 8 2 := Nat.pos_of_ne_zero (fun h => by
      have := (hi.2.2.2.2.2.2.2.2.2.2.2.1 h).1
      rw [this, Nat.zero_testBit] at hb
      exact absurd hb (by decide))
    have e2 : σ 7 m = nI (A 2 m) := hc.2.2.1 m h1 h7 hb
    rcases (show w = 0 ∨ w = 1 ∨ w = 2 by omega) with rfl | rfl | rfl
    · refine br_t rfl ⟨vp_in_nI (by omega) (by omega), ?_⟩
      rw [nI_clamp (by omega), e2]
      exact hq
    · exact br_f (by decide) (s_tells hc hi h1 h7 hb (br_t rfl hq))
    · exact br_f (by decide) (s_tells hc hi h1 h7 hb (br_f (by decide) (fitC hc hi hd (tellN_lt A m) (by omega) (b_if (q_if hq)))))
  · rw [if_neg hb] at hq ⊢
    exact hq
theorem g7 {τ : k_M} {A : aM} (hm : CRm (τ 1) A) (hi : aInv A) {m w : Nat} (h1 : 1 ≤ m) (h7 : m ≤ 7) (hw : w < 3) {Q : Int32 → Prop} (hq : Q (if (A 8 0).testBit m then (if w = 0 then nI (A 2 m) else if w = 1 then nI (tellN A m) else if tellN A m = pe (A 3) (A 8 1) m then 1 else 0) else -6)) : wp_X7_member τ (nI m) (nI w) Q := by
  unfold wp_X7_member
  refine s_mem71 h1 h7 (b1 (s_in0 (y := 3) (z := 7) (Or.inl (nI_lt (b := 3) hw (by omega))) (b0 (s_in0 (y := 10) (z := 14) (Or.inl (nI_lt (b := 10) (by omega) (by omega))) (b0 (s_in1 (lo := 0) (hi := 2) (by omega) (by omega) (by omega) (b1 (s_hasShare hm hi h1 h7 (b_if ?_)))))))))
  by_cases hb : (A 8 0).testBit m = true
  · rw [if_pos hb] at hq ⊢
    have hd : 0 < A 8 2 := Nat.pos_of_ne_zero (fun h => by
      have := (hi.2.2.2.2.2.2.2.2.2.2.2.1 h).1
      rw [this, Nat.zero_testBit] at hb
      exact absurd hb (by decide))
    rcases (show w = 0 ∨ w = 1 ∨ w = 2 by omega) with rfl | rfl | rfl
    · refine br_t rfl ?_
      rw [k_l40, nI_add]
      refine ⟨vp_in_nI (by omega) (by omega), ?_⟩
      rw [nI_clamp (by omega), hm.2.2.1 m h1 h7, if_pos hb]
      exact hq
    · exact br_f (by decide) (br_t rfl (s_told hm hi h1 h7 hb hq))
    · exact br_f (by decide) (br_f (by decide) (s_told hm hi h1 h7 hb (fitM hm hi hd (tellN_lt A m) (by omega) (b_if (q_if hq)))))
  · rw [if_neg hb] at hq ⊢
    exact hq
theorem sim_member_ok : sim_member RR := by
  rintro pr σ ρ τ p1 p2 hR
  obtain ⟨⟨A, hc, hm, hi⟩, -, -, -⟩ := id hR
  rcases k_case p1 1 7 (by omega) (by omega) with ⟨m, h1, h7, rfl⟩ | hx
  · unfold wp_X6_member
    refine s_mem1 h1 h7 (b1 ?_)
    rcases k_case p2 0 2 (by omega) (by omega) with ⟨w, -, hw, rfl⟩ | hw
    · exact ⟨False, fun h => h.elim, br_f (nI_pos (by omega)) (br_f (nI_nlt (a := 2) (b := w) hw (by omega)) (g6 hc hi h1 h7 (by omega) (g7 hm hi h1 h7 (by omega) ⟨rfl, hR⟩)))⟩
    · refine ⟨True, fun _ => ?_, ?_⟩
      · rcases k_case p2 3 7 (by omega) (by omega) with ⟨w, hw1, hw2, rfl⟩ | hw3
        · refine ⟨False, fun h => h.elim, br_f (nI_nlt (b := 3) hw1 (by omega)) (br_f (nI_ge (b := 8) (a := w) (by omega) (by omega)) ?_)⟩
          rw [k_l5, k_l3, pk_mul, nI_add, k_sub_n (by omega), nI_clamp (by omega)]
          refine ⟨vp_in_nI (by omega) (by omega), ?_⟩
          unfold wp_X7_member
          refine s_mem71 h1 h7 (b1 (s_in1 (lo := 3) (hi := 7) hw1 hw2 (by omega) (b1 ?_)))
          rw [k_l3, k_sub_n hw1]
          refine s_bentOf h7 (by omega) ⟨?_, hR⟩
          rw [hm.2.1 m (w - 3) h1 h7 (by omega), show m * 5 + w - 3 = 5 * m + (w - 3) by omega]
          exact hc.2.1 _ (by omega) (by omega)
        · refine ⟨True, fun _ => ?_, ?_⟩
          · rcases k_case p2 10 14 (by omega) (by omega) with ⟨w, hw1, hw2, rfl⟩ | hw4
            · refine br_f (nI_nlt (b := 10) hw1 (by omega)) (br_f (nI_ge (b := 15) (a := w) (by omega) (by omega)) ?_)
              rw [k_l5, k_l10, pk_mul, nI_add, k_sub_n (by omega), nI_clamp (by omega)]
              refine ⟨vp_in_nI (by omega) (by omega), ?_⟩
              unfold wp_X7_member
              refine s_mem71 h1 h7 (b1 (s_in0 hw3 (b0 (s_in1 (lo := 10) (hi := 14) hw1 hw2 (by omega) (b1 ?_)))))
              rw [k_l0, k_l5, k_l10, pk_mul, nI_add, nI_add, k_sub_n (by omega), nI_clamp (by omega)]
              refine ⟨vp_in_nI (by omega) (by omega), ?_, hR⟩
              rw [show 0 + 5 * m + w - 10 = m * 5 + w - 10 by omega]
              exact (hc.1 _ (by omega)).trans (hm.1 _ (by omega)).symm
            · have hend : ∀ {Q : Int32 → Prop}, Q (-2) → wp_X7_member τ (nI m) p2 Q := fun hq => s_mem71 h1 h7 (b1 (s_in0 hw3 (b0 (s_in0 hw4 (b0 (s_in0 hw (b0 hq)))))))
              rcases hw4 with hw4 | hw4
              · exact br_t hw4 (hend ⟨rfl, hR⟩)
              · exact br_c (fun _ => hend ⟨rfl, hR⟩) (fun _ => br_t (k_le_of_lt (n := 14) (by omega) hw4) (hend ⟨rfl, hR⟩))
          · rcases hw3 with hw3 | hw3
            · exact br_t hw3 trivial
            · exact br_c (fun _ => trivial) (fun _ => br_t (k_le_of_lt (n := 7) (by omega) hw3) trivial)
      · rcases hw with hw | hw
        · exact br_t hw trivial
        · exact br_c (fun _ => trivial) (fun _ => br_t hw trivial)
  · exact s_mem0 hx (b0 (s_mem70 hx (b0 ⟨rfl, hR⟩)))
/-- having -/
theorem or_step : ∀ h, h < 256 → ∀ k, k < 8 → (h % 2 ^ k) ||| (if h.testBit k then 2 ^ k else 0) = h % 2 ^ (k + 1) := by decide +kernel
theorem s_having {τ : k_M} {A : aM} (hm : CRm (τ 1) A) (hi : aInv A) {Q : Int32 → Prop} (hq : Q (nI (A 8 0))) : wp_X7_having τ Q := by
  have hh := hi.2.2.1
  have h0 := hi.2.2.2.1
  unfold wp_X7_having
  refine k_lpI2 7 (fun j p k => p = nI (A 8 0 % 2 ^ (j + 1)) ∧ k = nI (j + 1)) 0 (Nat.zero_le _) ⟨?_, rfl⟩ ?_
  · have := or_step (A 8 0) hh 0 (by omega)
    rw [h0] at this
    simp at this
    rw [show A 8 0 % 2 ^ (0 + 1) = 0 by
      have e : A 8 0 % 2 = A 8 0 % 1 := by simpa using this.symm
      show A 8 0 % 2 = 0
      omega]
    rfl
  · rintro j hj p k ⟨rfl, rfl⟩ B hB
    rcases Nat.lt_or_ge j 7 with hlt | hge
    · refine br_f (nI_nlt (a := 7) (b := j + 1) (by omega) (by omega)) (s_hasShare hm hi (by omega) (by omega) (b_if ?_))
      have hn : nI (j + 1) + (1 : Int32) = nI (j + 1 + 1) := nI_add (j + 1) 1
      have hs := or_step (A 8 0) hh (j + 1) (by omega)
      by_cases hb : (A 8 0).testBit (j + 1) = true
      · rw [if_pos hb] at hs ⊢
        refine hB hlt _ _ ⟨?_, hn⟩
        rw [k_only (by omega), n_or, hs]
      · rw [if_neg hb] at hs ⊢
        refine hB hlt _ _ ⟨?_, hn⟩
        rw [k_l0, n_or, hs]
    · have hj7 : j = 7 := by omega
      subst hj7
      refine br_t (by decide) ?_
      rw [Nat.mod_eq_of_lt (show A 8 0 < 2 ^ (7 + 1) from hh)]
      exact hq
