/-! count, image, restore -/
theorem s_was1 {σ : k_M} {n e : Nat} (h : σ 4 8 = nI n - 1) (hn : n ≤ 200) (he : e < n) {Q : Int32 → Prop} (hq : Q 1) : wp_X0_wasEpoch σ (nI e) Q := by
  unfold wp_X0_wasEpoch
  rw [h, show nI n - (1 : Int32) = nI (n - 1) from k_sub_n (b := 1) (by omega)]
  exact br_f (nI_pos (by omega)) (br_f (nI_nlt (by omega) (by omega)) (br_f (nI_ge (b := 200) (by omega) (by omega)) hq))
theorem s_was0 {σ : k_M} {n : Nat} {x : Int32} (h : σ 4 8 = nI n - 1) (hn : n ≤ 200) (he : ∀ e, e < n → x ≠ nI e) {Q : Int32 → Prop} (hq : Q 0) : wp_X0_wasEpoch σ x Q := by
  unfold wp_X0_wasEpoch
  rw [h]
  by_cases h0 : x < 0
  · exact br_t h0 hq
  · obtain ⟨j, hj, rfl⟩ := nI_of h0
    have hjn : n ≤ j := Nat.not_lt.mp (fun z => he j z rfl)
    refine br_f h0 (br_t ?_ hq)
    by_cases hn0 : n = 0
    · rw [hn0, Int32.lt_iff_toInt_lt, nI_toInt hj]
      have : (nI 0 - 1 : Int32).toInt = -1 := by decide
      omega
    · rw [show nI n - (1 : Int32) = nI (n - 1) from k_sub_n (b := 1) (by omega)]
      exact nI_lt (by omega) hj
theorem s_ise1 {τ : k_M} {n e : Nat} (h : τ 1 89 = if n = 0 then -6 else nI (n - 1)) (hn : n ≤ 200) (he : e < n) {Q : Int32 → Prop} (hq : Q 1) : wp_X7_isEpoch τ (nI e) Q := by
  unfold wp_X7_isEpoch
  rw [kcl_89, h, if_neg (by omega)]
  exact s_in1 (lo := 0) (by omega) (by omega) (by omega) hq
theorem s_ise0 {τ : k_M} {n : Nat} {x : Int32} (h : τ 1 89 = if n = 0 then -6 else nI (n - 1)) (hn : n ≤ 200) (he : ∀ e, e < n → x ≠ nI e) {Q : Int32 → Prop} (hq : Q 0) : wp_X7_isEpoch τ x Q := by
  unfold wp_X7_isEpoch
  rw [kcl_89, h]
  refine s_in0 ?_ hq
  by_cases h0 : x < 0
  · exact Or.inl h0
  · right
    obtain ⟨j, hj, rfl⟩ := nI_of h0
    have hjn : n ≤ j := Nat.not_lt.mp (fun z => he j z rfl)
    by_cases hn0 : n = 0
    · rw [if_pos hn0, Int32.lt_iff_toInt_lt, nI_toInt hj]
      have : (-6 : Int32).toInt = -6 := by decide
      omega
    · rw [if_neg hn0]
      exact nI_lt (by omega) hj
theorem s_thr {σ : k_M} {A : aM} (hc : CRc (circ σ) A) (hi : aInv A) {e : Nat} (he : e < A 8 2) {Q : Int32 → Prop} (hq : Q (nI (A 4 e))) : wp_X0_thresholdOf σ (nI e) Q := by
  have hE := hi.2.2.2.2.1
  unfold wp_X0_thresholdOf
  refine s_was1 hc.2.2.2.2.2.2.2.1 hE he (b1 ⟨vp_in_nI (by omega) (by omega), ?_⟩)
  have e1 : σ 9 e = nI (A 4 e) := hc.2.2.2.2.1 e he
  rw [nI_clamp (by omega), e1]
  exact hq
theorem s_kept {gI : Nat → Option Nat} {pr : Nat → Bool} (h : ∀ k, (gI k).isSome = pr k) {σ : k_M} {Q : Int32 → Prop} (hq : Q (nI ((if pr 0 then 1 else 0) + (if pr 1 then 2 else 0)))) : wp_X6_keptImages gI σ Q := by
  unfold wp_X6_keptImages
  refine k_lpI2 2 (fun j p k => p = nI (if j = 0 then 0 else if j = 1 then (if pr 0 then 1 else 0) else (if pr 0 then 1 else 0) + (if pr 1 then 2 else 0)) ∧ k = nI j) 0 (Nat.zero_le _) ⟨rfl, rfl⟩ ?_
  rintro j hj p k ⟨rfl, rfl⟩ B hB
  rcases (show j = 0 ∨ j = 1 ∨ j = 2 by omega) with rfl | rfl | rfl
  · refine br_f (by decide) ⟨by unfold vp_in; decide, ?_, ?_⟩
    · intro hg
      have hp := h 0
      rw [show (nI 0).toNatClampNeg = 0 from by decide] at hg
      rw [hg] at hp
      exact hB (by omega) _ _ ⟨by rw [← hp]; rfl, rfl⟩
    · intro y hg
      have hp := h 0
      rw [show (nI 0).toNatClampNeg = 0 from by decide] at hg
      rw [hg] at hp
      refine s_only (by omega) (hB (by omega) _ _ ⟨?_, rfl⟩)
      have hp' : pr 0 = true := by rw [← hp]; rfl
      show nI 0 ||| nI 1 = nI (if pr 0 then 1 else 0)
      rw [hp']
      decide
  · refine br_f (by decide) ⟨by unfold vp_in; decide, ?_, ?_⟩
    · intro hg
      have hp := h 1
      rw [show (nI 1).toNatClampNeg = 1 from by decide] at hg
      rw [hg] at hp
      refine hB (by omega) _ _ ⟨?_, rfl⟩
      rw [← hp]
      rfl
    · intro y hg
      have hp := h 1
      rw [show (nI 1).toNatClampNeg = 1 from by decide] at hg
      rw [hg] at hp
      refine s_only (by omega) (hB (by omega) _ _ ⟨?_, rfl⟩)
      have hp' : pr 1 = true := by rw [← hp]; rfl
      show nI (if pr 0 then 1 else 0) ||| nI 2 = nI ((if pr 0 then 1 else 0) + (if pr 1 then 2 else 0))
      rw [hp']
      cases pr 0 <;> decide
  · exact br_t (by decide) hq
theorem sim_count_ok : sim_count RR := by
  rintro pr σ ρ τ p1 gI hR hg
  obtain ⟨⟨A, hc, hm, hi⟩, ⟨n, hn, ht1, ht2, ht3⟩, him, hk⟩ := id hR
  have hE := hi.2.2.2.2.1
  have h47 : 0 < A 8 2 → σ 4 7 = nI (A 8 1) := hc.2.2.2.2.2.2.1
  have h48 : σ 4 8 = nI (A 8 2) - 1 := hc.2.2.2.2.2.2.2.1
  have h46 : σ 4 6 = nI (A 8 0) := hc.2.2.2.2.2.1
  have h88 := hm.2.2.2.2.2.1
  have h89 := hm.2.2.2.2.2.2.1
  have h411 : σ 4 11 = τ 1 368 := hc.2.2.2.2.2.2.2.2.2.2.1.trans hm.2.2.2.2.2.2.2.2.1.symm
  have h103 : σ 10 3 = τ 1 367 := hc.2.2.2.2.2.2.2.2.2.2.2.1.trans hm.2.2.2.2.2.2.2.1.symm
  unfold wp_X6_count
  by_cases c0 : p1 = 0
  · refine br_t c0 (s_isDealt h48 hE ?_)
    unfold wp_X7_count
    rw [kcl_88, h88]
    by_cases hd : A 8 2 = 0
    · rw [if_pos hd, if_pos hd]
      exact b0 (br_t c0 ⟨rfl, hR⟩)
    · rw [if_neg hd, if_neg hd]
      exact b1 (br_t c0 ⟨h47 (by omega), hR⟩)
  refine br_f c0 ?_
  by_cases c1 : p1 = 1
  · refine br_t c1 (s_isDealt h48 hE ?_)
    unfold wp_X7_count
    rw [kcl_89, h89]
    by_cases hd : A 8 2 = 0
    · rw [if_pos hd, if_pos hd]
      exact b0 (br_f c0 (br_t c1 ⟨rfl, hR⟩))
    · rw [if_neg hd, if_neg hd]
      exact b1 (br_f c0 (br_t c1 ⟨by rw [h48]; exact k_sub_n (b := 1) (by omega), hR⟩))
  refine br_f c1 ?_
  by_cases c2 : p1 = 2
  · rw [h46]
    exact br_t c2 (s_bitCount hi.2.2.1 (br_f c0 (br_f c1 (br_t c2 (s_having hm hi (s_bits (Nat.lt_trans hi.2.2.1 (by omega)) ⟨rfl, hR⟩))))))
  refine br_f c2 ?_
  by_cases c3 : p1 = 3
  · rw [h46]
    exact br_t c3 (br_f c0 (br_f c1 (br_f c2 (br_t c3 (s_having hm hi ⟨rfl, hR⟩)))))
  refine br_f c3 ?_
  by_cases c4 : p1 = 4
  · refine br_t c4 (br_f c0 (br_f c1 (br_f c2 (br_f c3 (br_t c4 ⟨?_, hR⟩)))))
    rw [kcl_367]
    exact h103
  refine br_f c4 ?_
  by_cases c5 : p1 = 5
  · refine br_t c5 (br_f c0 (br_f c1 (br_f c2 (br_f c3 (br_f c4 (br_t c5 ⟨?_, hR⟩))))))
    rw [kcl_368]
    exact h411
  refine br_f c5 ?_
  by_cases c6 : p1 = 6
  · exact br_t c6 (br_f c0 (br_f c1 (br_f c2 (br_f c3 (br_f c4 (br_f c5 (br_t c6 ⟨ht1.trans ht2.symm, hR⟩)))))))
  refine br_f c6 ?_
  by_cases c7 : p1 = 7
  · refine br_t c7 (s_kept hg (br_f c0 (br_f c1 (br_f c2 (br_f c3 (br_f c4 (br_f c5 (br_f c6 (br_t c7 ⟨fun y => y = if pr 0 then 1 else 0, ?_, ?_⟩)))))))))
    · rintro y rfl
      rw [kcl_1, hk 1 (by omega)]
      cases pr 0 <;> cases pr 1
      · exact br_t rfl ⟨by decide, hR⟩
      · exact br_f (by decide) ⟨by decide, hR⟩
      · exact br_t rfl ⟨by decide, hR⟩
      · exact br_f (by decide) ⟨by decide, hR⟩
    · rw [kcl_0, hk 0 (by omega)]
      cases pr 0
      · exact br_t rfl rfl
      · exact br_f (by decide) rfl
  refine br_f c7 ?_
  have hend : ∀ {Q : Int32 → Prop}, ((p1 ≤ (9 : Int32) → Q (-2)) ∧ (¬ p1 ≤ (9 : Int32) → wp_X7_isEpoch τ (p1 - (10 : Int32)) (fun (r_141 : Int32) => (r_141 = 0 → Q (-2)) ∧ (¬ r_141 = 0 → vp_in (((95 : Int32) + p1) - (10 : Int32)) 371 ∧ Q ((τ 1) (((95 : Int32) + p1) - (10 : Int32)).toNatClampNeg))))) → wp_X7_count τ p1 Q := fun h => br_f c0 (br_f c1 (br_f c2 (br_f c3 (br_f c4 (br_f c5 (br_f c6 (br_f c7 h)))))))
  by_cases c10 : p1 < 10
  · refine br_t c10 (hend (br_t ?_ ⟨rfl, hR⟩))
    rw [Int32.lt_iff_toInt_lt] at c10
    rw [Int32.le_iff_toInt_le]
    have a1 : (10 : Int32).toInt = 10 := by decide
    have a2 : (9 : Int32).toInt = 9 := by decide
    omega
  · have h0 : ¬ p1 < 0 := fun z => c10 (Int32.lt_of_lt_of_le z (by decide))
    obtain ⟨j, hj, rfl⟩ := nI_of h0
    have hj10 : 10 ≤ j := Nat.not_lt.mp (fun z => c10 (nI_lt (b := 10) z (by omega)))
    have hn9 : ¬ nI j ≤ (9 : Int32) := nI_ge (a := 9) (b := j) (by omega) hj
    refine br_f c10 ?_
    rw [k_l10, k_l95, nI_add, k_sub_n hj10, k_sub_n (a := 95 + j) (by omega)] at hend
    rw [k_l10, k_sub_n hj10]
    by_cases he : j - 10 < A 8 2
    · refine s_was1 h48 hE he (b1 (s_thr hc hi he (hend (br_f hn9 (s_ise1 h89 hE he (b1 ⟨vp_in_nI (by omega) (by omega), ?_, hR⟩))))))
      rw [nI_clamp (by omega), show 95 + j - 10 = 95 + (j - 10) by omega]
      exact (hm.2.2.2.2.1 _ he).symm
    · have hne : ∀ e, e < A 8 2 → nI (j - 10) ≠ nI e := fun e he2 z => by
        have := (nI_eq (by omega) (by omega)).mp z
        omega
      exact s_was0 h48 hE hne (b0 (hend (br_f hn9 (s_ise0 h89 hE hne (b0 ⟨rfl, hR⟩)))))
/-- image and restore: the reference copies 371 ints -/
theorem s_image7 {τ : k_M} {k : Nat} (hk : k < 2) {Q : Int32 → k_M → Prop} (hq : ∀ τ', (∀ i, i < 371 → τ' 6 (371 * k + i) = τ 1 i) → (∀ q, (q < 371 * k ∨ 371 * k + 371 ≤ q) → τ' 6 q = τ 6 q) → (∀ a, a ≠ 6 → τ' a = τ a) → Q 1 (k_put τ' 7 k 1)) : wp_X7_image τ (nI k) Q := by
  unfold wp_X7_image
  refine s_in1 (lo := 0) (hi := 1) (by omega) (by omega) (by omega) (b1 ?_)
  refine k_lpI2 371 (fun j p t => p = nI j ∧ (∀ i, i < j → t 6 (371 * k + i) = τ 1 i) ∧ (∀ q, (q < 371 * k ∨ 371 * k + j ≤ q) → t 6 q = τ 6 q) ∧ (∀ a, a ≠ 6 → t a = τ a)) 0 (Nat.zero_le _) ⟨rfl, fun i h => absurd h (Nat.not_lt_zero _), fun _ _ => rfl, fun _ _ => rfl⟩ ?_
  rintro j hj p t ⟨rfl, h1, h2, h3⟩ B hB
  rcases Nat.lt_or_ge j 371 with hlt | hge
  · refine br_f (nI_ge (b := 371) hlt (by omega)) ⟨vp_in_nI hlt (by omega), ?_⟩
    rw [k_l371, pk_mul, nI_add, nI_clamp (by omega), nI_clamp (by omega)]
    refine ⟨vp_in_nI (by omega) (by omega), hB hlt _ _ ⟨by rw [k_l1, nI_add], fun i hi => ?_, fun q hq2 => ?_, fun a ha => ?_⟩⟩
    · rw [put_if]
      by_cases e : i = j
      · subst e
        rw [if_pos rfl, h3 1 (by omega)]
      · rw [if_neg (by omega)]
        exact h1 i (by omega)
    · rw [put_if, if_neg (by omega)]
      exact h2 q (by omega)
    · rw [put_cell ha]
      exact h3 a ha
  · have hj2 : j = 371 := by omega
    subst hj2
    refine br_t (by decide) ⟨vp_in_nI hk (by omega), ?_⟩
    rw [nI_clamp (by omega)]
    exact hq t h1 h2 h3
theorem s_restore7 {τ : k_M} {k : Nat} (hk : k < 2) (hkp : τ 7 k = 1) {Q : Int32 → k_M → Prop} (hq : ∀ τ', (∀ i, i < 371 → τ' 1 i = τ 6 (371 * k + i)) → (∀ a, a ≠ 1 → τ' a = τ a) → Q 1 τ') : wp_X7_restore τ (nI k) Q := by
  unfold wp_X7_restore
  refine s_in1 (lo := 0) (hi := 1) (by omega) (by omega) (by omega) (b1 ⟨vp_in_nI hk (by omega), ?_⟩)
  rw [nI_clamp (by omega), hkp]
  refine br_f (by decide) ?_
  refine k_lpI2 371 (fun j p t => p = nI j ∧ (∀ i, i < j → t 1 i = τ 6 (371 * k + i)) ∧ (∀ a, a ≠ 1 → t a = τ a)) 0 (Nat.zero_le _) ⟨rfl, fun i h => absurd h (Nat.not_lt_zero _), fun _ _ => rfl⟩ ?_
  rintro j hj p t ⟨rfl, h1, h3⟩ B hB
  rcases Nat.lt_or_ge j 371 with hlt | hge
  · refine br_f (nI_ge (b := 371) hlt (by omega)) ?_
    rw [k_l371, pk_mul, nI_add, nI_clamp (by omega), nI_clamp (by omega)]
    refine ⟨vp_in_nI (by omega) (by omega), vp_in_nI (by omega) (by omega), hB hlt _ _ ⟨by rw [k_l1, nI_add], fun i hi => ?_, fun a ha => ?_⟩⟩
    · rw [put_if]
      by_cases e : i = j
      · subst e
        rw [if_pos rfl, h3 6 (by omega)]
      · rw [if_neg e]
        exact h1 i (by omega)
    · rw [put_cell ha]
      exact h3 a ha
  · have hj2 : j = 371 := by omega
    subst hj2
    exact br_t (by decide) (hq t h1 h3)
theorem k_in2 {p1 : Int32} (h0 : ¬ p1 < 0) (h2 : p1 < 2) : ∃ k, k < 2 ∧ p1 = nI k := by
  obtain ⟨j, hj, rfl⟩ := nI_of h0
  exact ⟨j, (nI_ltI (b := 2) hj (by omega)).mp h2, rfl⟩
theorem k_out2 {p1 : Int32} (h : p1 < 0 ∨ ¬ p1 < 2) : p1 < nI 0 ∨ nI 1 < p1 := by
  rcases h with h | h
  · exact Or.inl h
  · right
    rw [Int32.lt_iff_toInt_lt] at h ⊢
    have a1 : (2 : Int32).toInt = 2 := by decide
    have a2 : (nI 1).toInt = 1 := by decide
    omega
theorem sim_image_out_ok : sim_image_out RR := fun pr σ ρ τ p1 hR h => s_in0 (k_out2 h) (b0 ⟨rfl, hR⟩)
theorem sim_restore_out_ok : sim_restore_out RR := fun pr σ ρ τ p1 hR h => s_in0 (k_out2 h) (b0 ⟨rfl, hR⟩)
theorem sim_restore_no_ok : sim_restore_no RR := by
  rintro pr σ ρ τ p1 hR h0 h2 hp
  obtain ⟨k, hk, rfl⟩ := k_in2 h0 h2
  rw [nI_clamp (by omega)] at hp
  have h7 := hR.2.2.2 k hk
  rw [hp] at h7
  unfold wp_X7_restore
  refine s_in1 (lo := 0) (hi := 1) (by omega) (by omega) (by omega) (b1 ⟨vp_in_nI hk (by omega), ?_⟩)
  rw [nI_clamp (by omega), h7]
  exact br_t rfl ⟨rfl, hR⟩
/-- a copy of a circle holds what the circle holds -/
theorem CRc.copy {κ κ' : k_M} {A : aM} (h : CRc κ A) (hi : aInv A) (h0 : ∀ k, 6 ≤ k → k ≤ 11 → κ' 0 k = κ 0 k) (h1 : ∀ k, k < 40 → κ' 1 k = κ 1 k) (h2 : ∀ k, k < 40 → κ' 2 k = κ 2 k) (h3 : ∀ k, k < 8 → κ' 3 k = κ 3 k) (h4 : ∀ k, k < 5 → κ' 4 k = κ 4 k) (h5 : ∀ k, k < 200 → κ' 5 k = κ 5 k) (h6 : κ' 6 3 = κ 6 3) (h7 : ∀ k, k < 24 → κ' 7 k = κ 7 k) (h8 : ∀ k, k < 24 → κ' 8 k = κ 8 k) (h9 : ∀ k, k < 24 → κ' 9 k = κ 9 k) : CRc κ' A := by
  have z := hi.2.2.2.2.2.2.2.1
  have zE := hi.2.2.2.2.1
  refine ⟨fun k hk => (h1 k hk).trans (h.1 k hk), fun k a b => (h2 k b).trans (h.2.1 k a b), fun m a b c => (h3 m (by omega)).trans (h.2.2.1 m a b c), fun j a b => (h4 j (by have := hi.2.2.2.2.2.2.2.2.1 a; omega)).trans (h.2.2.2.1 j a b), fun e a => (h5 e (by omega)).trans (h.2.2.2.2.1 e a), (h0 6 (by omega) (by omega)).trans h.2.2.2.2.2.1, fun a => (h0 7 (by omega) (by omega)).trans (h.2.2.2.2.2.2.1 a), (h0 8 (by omega) (by omega)).trans h.2.2.2.2.2.2.2.1, (h0 9 (by omega) (by omega)).trans h.2.2.2.2.2.2.2.2.1, (h0 10 (by omega) (by omega)).trans h.2.2.2.2.2.2.2.2.2.1, (h0 11 (by omega) (by omega)).trans h.2.2.2.2.2.2.2.2.2.2.1, h6.trans h.2.2.2.2.2.2.2.2.2.2.2.1, fun i a => ?_⟩
  have := h.2.2.2.2.2.2.2.2.2.2.2.2 i a
  exact ⟨(h7 i (by omega)).trans this.1, (h8 i (by omega)).trans this.2.1, (h9 i (by omega)).trans this.2.2⟩
theorem into_id {σ ρ μ : k_M} (h : k_cp (k_imK σ ρ) μ) : k_into σ (fun i => μ (i + 10)) = σ := by
  funext i
  unfold k_into
  by_cases h4 : 4 ≤ i
  · rw [if_pos h4]
    by_cases h13 : i ≤ 13
    · rw [if_pos h13]
      show μ (i - 4 + 10) = σ i
      rw [h.2.2.2.2.2.2.2.2.2.2 (i - 4 + 10) (by omega)]
      unfold k_imK
      rw [if_neg (by omega), show i - 4 + 10 - 6 = i by omega]
    · rw [if_neg h13]
  · rw [if_neg h4]
theorem sim_image_in_ok : sim_image_in RR := by
  rintro pr σ ρ τ p1 hR h0 h2 ρ0 μ hμ
  obtain ⟨⟨A, hc, hm, hi⟩, ht, him, hk7⟩ := id hR
  obtain ⟨k, hk, rfl⟩ := k_in2 h0 h2
  rw [nI_clamp (by omega), into_id hμ]
  refine s_image7 hk (fun τ' a1 a2 a3 => ⟨rfl, ⟨A, hc, ?_, hi⟩, ht.keep rfl (fun _ => rfl) ?_ (fun i => ?_), fun k2 hk2 hp => ?_, fun k2 hk2 => ?_⟩)
  · rw [put_cell (by decide), a3 1 (by decide)]
    exact hm
  · rw [put_cell (by decide), a3 0 (by decide)]
  · rw [put_cell (by decide), a3 2 (by decide)]
  · rw [put_cell (by decide)]
    by_cases e : k2 = k
    · subst e
      rw [va_up_self]
      refine ⟨A, ?_, hm.mono (fun q hq => a1 q hq) hi, hi⟩
      exact hc.copy hi hμ.1 hμ.2.1 hμ.2.2.1 hμ.2.2.2.1 hμ.2.2.2.2.1 hμ.2.2.2.2.2.1 hμ.2.2.2.2.2.2.1 hμ.2.2.2.2.2.2.2.1 hμ.2.2.2.2.2.2.2.2.1 hμ.2.2.2.2.2.2.2.2.2.1
    · rw [va_up_ne _ _ e] at hp ⊢
      obtain ⟨A2, b1', b2, b3⟩ := him k2 hk2 hp
      refine ⟨A2, b1', b2.mono (fun q hq => a2 _ ?_) b3, b3⟩
      rcases (show k2 = 0 ∨ k2 = 1 by omega) with rfl | rfl <;> rcases (show k = 0 ∨ k = 1 by omega) with rfl | rfl <;> omega
  · by_cases e : k2 = k
    · subst e
      rw [put_same, va_up_self]
      rfl
    · rw [put_slot e, a3 7 (by decide), va_up_ne _ _ e]
      exact hk7 k2 hk2
theorem sim_restore_in_ok : sim_restore_in RR := by
  rintro pr σ ρ τ p1 hR h0 h2 hp μ hμ
  obtain ⟨⟨A, hc, hm, hi⟩, ht, him, hk7⟩ := id hR
  obtain ⟨k, hk, rfl⟩ := k_in2 h0 h2
  rw [nI_clamp (by omega)] at hp hμ ⊢
  obtain ⟨A2, c1, c2, c3⟩ := him k hk hp
  have h7 := hk7 k hk
  rw [hp] at h7
  refine s_restore7 hk h7 (fun τ' a1 a2 => ⟨rfl, ⟨A2, ?_, c2.mono (fun q hq => a1 q hq) c3, c3⟩, ht.keep rfl (fun _ => rfl) ?_ (fun i => ?_), fun k2 hk2 hp2 => ?_, fun k2 hk2 => ?_⟩)
  · exact c1.copy c3 hμ.1 hμ.2.1 hμ.2.2.1 hμ.2.2.2.1 hμ.2.2.2.2.1 hμ.2.2.2.2.2.1 hμ.2.2.2.2.2.2.1 hμ.2.2.2.2.2.2.2.1 hμ.2.2.2.2.2.2.2.2.1 hμ.2.2.2.2.2.2.2.2.2.1
  · rw [a2 0 (by decide)]
  · rw [a2 2 (by decide)]
  · rw [a2 6 (by decide)]
    by_cases e : k2 = k
    · subst e
      rw [va_up_self]
      refine ⟨A2, ?_, c2, c3⟩
      have hz : ∀ i, (fun i => μ (i + 10)) i = ρ k2 i := by
        intro i
        show μ (i + 10) = ρ k2 i
        rw [hμ.2.2.2.2.2.2.2.2.2.2 (i + 10) (by omega)]
        unfold k_rmK
        rw [if_neg (by omega), show i + 10 - 10 = i by omega]
      rw [show (fun i => μ (i + 10)) = ρ k2 from funext hz]
      exact c1
    · rw [va_up_ne _ _ e]
      exact him k2 hk2 hp2
  · rw [a2 7 (by decide)]
    exact hk7 k2 hk2
