/-! worlds -/
abbrev okW (A : aM) (e v n : Nat) : Prop := ∀ i, i < A 8 6 → A 6 i = e → pe (pol v n) (A 4 e) (A 5 i) = A 7 i
theorem pol_lt {v n : Nat} (hv : v < 23) (j : Nat) : pol v n j < 23 := by
  unfold pol
  split
  · exact hv
  · exact dg_lt n j
theorem s_isWorld {τ : k_M} {A : aM} {e v n : Nat} (hm : CRm (τ 1) A) (hi : aInv A) (he : e < A 8 2) (hv : v < 23) (h04 : τ 0 4 = nI (A 4 e)) (hp : ∀ j, j < A 4 e → τ 3 j = nI (pol v n j)) {Q : Int32 → Prop} (hy : okW A e v n → Q 1) (hn : ¬ okW A e v n → Q 0) : wp_X7_isWorld τ (nI e) Q := by
  unfold wp_X7_isWorld
  have hz := hi.z24
  have hE := hi.e200
  have ht := hi.olds e he
  have e3 : τ 1 367 = nI (A 8 6) := hm.lz
  rw [kcl_367, e3]
  refine k_lpI1 (A 8 6) (fun j k => k = nI j ∧ ∀ i, i < j → A 6 i = e → pe (pol v n) (A 4 e) (A 5 i) = A 7 i) 0 (by omega) ⟨rfl, fun i h => absurd h (by omega)⟩ ?_
  rintro j hj k ⟨rfl, hf⟩ B hB
  have hn1 : nI j + (1 : Int32) = nI (j + 1) := nI_add j 1
  rcases Nat.lt_or_ge j (A 8 6) with hlt | hge
  · have hlo := lo7 hm hlt
    have hil := hi.lo j hlt
    have h7 : A 7 j < 23 := by rw [hil.2.2.2]; exact pe_lt _ _ _
    have hpe := pe_lt (pol v n) (A 4 e) (A 5 j)
    refine br_f (nI_ge hlt (by omega)) (s_lootOf (q := 1) (by omega) (by omega) ?_)
    rw [hlo.2.1]
    refine pk_eq (A 6 j) e (fun h => s_lootOf (q := 0) (by omega) (by omega) ?_) (fun h => hB hlt _ ⟨hn1, fun i hi2 h2 => ?_⟩)
    · rw [hlo.1]
      refine s_polyAt7 (c := pol v n) h04 hp (pol_lt hv) (by omega) ht.2 (s_lootOf (q := 2) (by omega) (by omega) ?_)
      rw [hlo.2.2]
      refine pk_eq (pe (pol v n) (A 4 e) (A 5 j)) (A 7 j) (fun h2 => hB hlt _ ⟨hn1, fun i hi2 h3 => ?_⟩) (fun h2 => hn (fun z => h2 (z j hlt h)))
      by_cases ee : i = j
      · rw [ee]; exact h2
      · exact hf i (by omega) h3
    · by_cases ee : i = j
      · rw [ee] at h2; exact absurd h2 h
      · exact hf i (by omega) h2
  · exact br_t (nI_le hge (by omega)) (hy (fun i hi2 => hf i (by omega)))
abbrev pW (A : aM) (e v : Nat) : Nat → Bool := fun n => decide (okW A e v n)
theorem pow23_le {t : Nat} (ht : t ≤ 4) : 23 ^ t ≤ 279841 := Nat.le_trans (Nat.pow_le_pow_right (by omega) ht) (by decide)
theorem o7_worlds {τ : k_M} {A : aM} {e v : Nat} (hm : CRm (τ 1) A) (hi : aInv A) (he : e < A 8 2) (hv : v < 23) {Q : Int32 → k_M → Prop} (hq : ∀ τ', K7 τ τ' → τ' 1 = τ 1 → Q (nI (cntW (pW A e v) (23 ^ (A 4 e - 1)))) τ') : wp_X7_worlds τ (nI e) (nI v) Q := by
  unfold wp_X7_worlds
  have hE := hi.e200
  have ht := hi.olds e he
  have e95 : τ 1 (95 + e) = nI (A 4 e) := hm.olds e he
  have hN := pow23_le (t := A 4 e - 1) (by omega)
  refine s_val71 hv (b1 (s_ise1 hm.ep hE he (b1 ?_)))
  rw [k_l95, nI_add, nI_clamp (by omega), e95]
  refine ⟨vp_in_nI (by omega) (by omega), ?_⟩
  refine k_lpI2 (A 4 e) (fun j p k => p = nI (23 ^ (j - 1)) ∧ k = nI j ∧ 1 ≤ j) 1 ht.1 ⟨rfl, rfl, Nat.le_refl _⟩ ?_
  rintro j hj p k ⟨rfl, rfl, hj1⟩ B hB
  rw [put_same]
  rcases Nat.lt_or_ge j (A 4 e) with hlt | hge
  · refine br_f (nI_ge hlt (by omega)) (hB hlt _ _ ⟨?_, by rw [k_l1, nI_add], by omega⟩)
    rw [k_l23, pk_mul, ← Nat.pow_succ, show (j - 1).succ = j + 1 - 1 by omega]
  have hjt : j = A 4 e := by omega
  subst hjt
  refine br_t (nI_le (Nat.le_refl _) (by omega)) ?_
  refine k_lpI3 (23 ^ (A 4 e - 1)) (fun n x y τ' => x = nI (cntW (pW A e v) n) ∧ y = nI n ∧ (∀ a, a ≠ 0 → a ≠ 3 → τ' a = τ a) ∧ (∀ q, q ≠ 4 → τ' 0 q = τ 0 q) ∧ τ' 0 4 = nI (A 4 e)) 0 (Nat.zero_le _) ⟨rfl, rfl, fun a a0 _ => put_cell a0, fun q hq2 => put_slot hq2, put_same⟩ ?_
  rintro n hn x y τ1 ⟨rfl, rfl, f1, f2, f3⟩ B2 hB2
  have hn1 : nI n + (1 : Int32) = nI (n + 1) := nI_add n 1
  have hcw := cntW_le (pW A e v) n
  rcases Nat.lt_or_ge n (23 ^ (A 4 e - 1)) with hlt | hge2
  · refine br_f (nI_ge hlt (by omega)) ?_
    refine k_lpI3 (A 4 e) (fun j x y τ' => x = nI (n / 23 ^ (j - 1)) ∧ y = nI j ∧ 1 ≤ j ∧ (∀ a, a ≠ 0 → a ≠ 3 → τ' a = τ a) ∧ (∀ q, q ≠ 4 → τ' 0 q = τ 0 q) ∧ τ' 0 4 = nI (A 4 e) ∧ (∀ q, q < j → τ' 3 q = nI (pol v n q))) 1 ht.1 ⟨by rw [show 1 - 1 = 0 from rfl, Nat.pow_zero, Nat.div_one], rfl, Nat.le_refl _, fun a a0 a3 => by rw [put_cell a3]; exact f1 a a0 a3, fun q hq2 => by rw [put_cell (by decide)]; exact f2 q hq2, by rw [put_cell (by decide)]; exact f3, fun q hq2 => ?_⟩ ?_
    · have : q = 0 := by omega
      subst this
      rw [kcl_0, put_same]
      rfl
    rintro j hj x y τ2 ⟨rfl, rfl, hj1, g1, g2, g3, g4⟩ B3 hB3
    rw [g3]
    have hdl : n / 23 ^ (j - 1) ≤ n := Nat.div_le_self _ _
    rcases Nat.lt_or_ge j (A 4 e) with hlt2 | hge3
    · refine br_f (nI_ge hlt2 (by omega)) ⟨vp_in_nI (by omega) (by omega), ?_⟩
      rw [nI_clamp (by omega), k_l23, k_rem_n (by omega) (by omega) (by omega), pk_div (by omega) (by omega) (by omega)]
      refine hB3 hlt2 _ _ _ ⟨?_, by rw [k_l1, nI_add], by omega, fun a a0 a3 => by rw [put_cell a3]; exact g1 a a0 a3, fun q hq2 => by rw [put_cell (by decide)]; exact g2 q hq2, by rw [put_cell (by decide)]; exact g3, fun q hq2 => ?_⟩
      · rw [Nat.div_div_eq_div_mul, ← Nat.pow_succ, show (j - 1).succ = j + 1 - 1 by omega]
      · rw [put_if]
        by_cases ee : q = j
        · rw [if_pos ee, ee]
          show _ = nI (if j = 0 then v else dg n j)
          rw [if_neg (by omega)]
          rfl
        · rw [if_neg ee]; exact g4 q (by omega)
    · have hm2 : CRm (τ2 1) A := by rw [g1 1 (by decide) (by decide)]; exact hm
      refine br_t (nI_le hge3 (by omega)) (s_isWorld hm2 hi he hv g3 (fun q hq2 => g4 q (by omega)) (fun h => b1 (hB2 hlt _ _ _ ⟨?_, hn1, g1, g2, g3⟩)) (fun h => b0 (hB2 hlt _ _ _ ⟨?_, hn1, g1, g2, g3⟩)))
      · rw [k_l1, nI_add]
        simp only [cntW]
        rw [if_pos (decide_eq_true h)]
      · rw [k_l0, nI_add]
        simp only [cntW]
        rw [if_neg (fun z => h (of_decide_eq_true z))]
  · have e2 : n = 23 ^ (A 4 e - 1) := by omega
    rw [← e2] at hq
    exact br_t (nI_le hge2 (by omega)) (hq τ1 ⟨f2 2 (by decide), f1 2 (by decide) (by decide), f1 6 (by decide) (by decide), f1 7 (by decide) (by decide)⟩ (f1 1 (by decide) (by decide)))
abbrev cC (A : aM) (e : Nat) : Nat → Nat := fun j => A 9 (5 * e + j)
def wrN (A : aM) (e v : Nat) : Nat := if A 4 e ≤ cnt (vic A (some e)) then (if cC A e 0 = v then 1 else 0) else 23 ^ (A 4 e - 1 - cnt (vic A (some e)))
theorem sh_vic {A : aM} (hi : aInv A) {e m : Nat} (hb : (vic A (some e)).testBit m = true) : shN A (some e) m = pe (cC A e) (A 4 e) m := by
  obtain ⟨i, a, b, c⟩ := (vic_bit A (some e) (A 8 6) m).mp hb
  cases h : fsx A (some e) m with
  | none => exact absurd ⟨c, b⟩ (fst_no _ h i a)
  | some k =>
    have hk := fst_spec _ _ h
    have hl := hi.lo k hk.1
    have h6 := flt_some.mp hk.2.2
    rw [shN_some h, hl.2.2.2, h6, hk.2.1]
theorem o6_worlds {σ : k_M} {A : aM} {e v : Nat} (hc : CRc (circ σ) A) (hi : aInv A) (he : e < A 8 2) (hv : v < 23) {Q : Int32 → k_M → Prop} (hq : ∀ σ', (∀ a, a ≠ 14 → σ' a = σ a) → Q (nI (wrN A e v)) σ') : wp_X2_worldsLeft σ (nI e) (nI v) Q := by
  unfold wp_X2_worldsLeft
  have hE := hi.e200
  have ht := hi.olds e he
  have hV := vic_lt hi (some e) (Nat.le_refl _)
  have hV0 := vic_0 hi (some e) (Nat.le_refl _)
  have hcl := cnt_le (vic A (some e))
  have hso : ∀ e', some e = some e' → e' < 1000 := fun e' h => by cases h; omega
  refine s_thr hc hi he (s_victims (o := some e) hc hi hso (s_bitCount hV (pk_lt (cnt (vic A (some e))) (A 4 e) (fun hlt => ?_) (fun hge => ?_))))
  · unfold wrN at hq
    rw [if_neg (by omega)] at hq
    generalize cnt (vic A (some e)) = c at hlt hcl hq ⊢
    have hN := pow23_le (t := A 4 e - 1 - c) (by omega)
    refine k_lpI2 (A 4 e - 1 - c) (fun j p k => p = nI (23 ^ j) ∧ k = nI (c + 1 + j)) 0 (by omega) ⟨rfl, by rw [k_l1, nI_add]⟩ ?_
    rintro j hj p k ⟨rfl, rfl⟩ B hB
    rcases Nat.lt_or_ge j (A 4 e - 1 - c) with hlt2 | hge2
    · refine br_f (nI_ge (by omega) (by omega)) (hB hlt2 _ _ ⟨?_, by rw [k_l1, nI_add]; rfl⟩)
      rw [k_l23, pk_mul, ← Nat.pow_succ]
    · have : j = A 4 e - 1 - c := by omega
      subst this
      exact br_t (nI_le (by omega) (by omega)) (hq σ (fun _ _ => rfl))
  · unfold wrN at hq
    rw [if_pos hge] at hq
    have hval : wsum (shN A (some e)) (lowN (vic A (some e)) (A 4 e) 7) 0 7 % 23 = cC A e 0 := by
      rw [lagr (c := cC A e) (x := 0) (lowN_lt _ _ (by omega)) (lowN_0 _ _ _) (lowN_cnt _ hV hV0 _ (by omega) hge) ht.2 (by omega) (fun m _ _ m3 => sh_vic hi (lowN_sub _ _ _ _ m3))]
      exact pe_at0 ht.1 (hi.c9 _)
    refine s_opened (o := some e) hc hi hso ht.2 (fun z => absurd hge z) (fun _ σ' hs' => ?_)
    rw [hval]
    have h9 := hi.c9 (5 * e + 0)
    refine pk_eq (cC A e 0) v (fun h => ?_) (fun h => ?_) rfl rfl (Nat.lt_trans h9 (by omega)) (by omega)
    · have := hq σ' hs'
      rw [if_pos h] at this
      exact this
    · have := hq σ' hs'
      rw [if_neg h] at this
      exact this
theorem wr_eq {A : aM} (hi : aInv A) {e v : Nat} (he : e < A 8 2) (hv : v < 23) : cntW (pW A e v) (23 ^ (A 4 e - 1)) = wrN A e v := by
  have ht := hi.olds e he
  refine worlds_cnt (C := cC A e) (vic_lt hi (some e) (Nat.le_refl _)) (vic_0 hi (some e) (Nat.le_refl _)) ht.1 ht.2 hv (fun j => hi.c9 _) (fun n => ?_)
  rw [decide_eq_true_iff]
  constructor
  · intro h m m1 m2 m3
    obtain ⟨i, a, b, c⟩ := (vic_bit A (some e) (A 8 6) m).mp m3
    have h6 := flt_some.mp b
    have hl := (hi.lo i a).2.2.2
    rw [← c, h i a h6, hl, h6]
  · intro h i hi2 h6
    have hl := hi.lo i hi2
    rw [hl.2.2.2, h6]
    exact h _ hl.1 hl.2.1 ((vic_bit A (some e) (A 8 6) _).mpr ⟨i, hi2, flt_some.mpr h6, rfl⟩)
theorem sim_worlds_ok : sim_worlds RR := by
  rintro pr σ ρ τ p1 p2 hR
  obtain ⟨⟨A, hc, hm, hi⟩, ht, him, hk⟩ := id hR
  have hE := hi.e200
  unfold wp_X6_worlds
  rcases k_case p2 0 22 (by omega) (by omega) with ⟨v, -, hv, rfl⟩ | h2
  · by_cases hx : ∃ e, e < A 8 2 ∧ p1 = nI e
    · obtain ⟨e, he, rfl⟩ := hx
      refine s_val1 (by omega) (b1 (s_was1 hc.ep hE he (b1 (o6_worlds hc hi he (by omega) (fun σ' hs' => o7_worlds hm hi he (by omega) (fun τ' k7 k1 => ⟨?_, ?_⟩))))))
      · rw [wr_eq hi he (by omega)]
      · exact fin_neg hR ⟨hs' 1 (by decide), hs' 2 (by decide)⟩ k7 (hc.via (fun a ha => hs' _ (by omega)) rfl) (by rw [k1]; exact hm) hi
    · have hne : ∀ e, e < A 8 2 → p1 ≠ nI e := fun e he z => hx ⟨e, he, z⟩
      refine s_val1 (by omega) (b1 (s_was0 hc.ep hE hne (b0 ?_)))
      unfold wp_X7_worlds
      exact s_val71 (by omega) (b1 (s_ise0 hm.ep hE hne (b0 ⟨rfl, hR⟩)))
  · refine s_val0 h2 (b0 ?_)
    unfold wp_X7_worlds
    exact s_val70 h2 (b0 ⟨rfl, hR⟩)
