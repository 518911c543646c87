/-! the plain calls -/
theorem k_out_r {x : Int32} {n : Nat} (hn : n < 2 ^ 30) (h : x < nI 0 ∨ nI n < x) {A B : Prop} (ha : A) : (x < 0 → A) ∧ (¬ x < 0 → ((nI (n + 1) ≤ x → A) ∧ (¬ nI (n + 1) ≤ x → B))) := by
  rcases h with h | h
  · exact br_t h ha
  · exact br_c (fun _ => ha) (fun _ => br_t (k_le_of_lt hn h) ha)
theorem k_in_r {j n : Nat} (hn : n < 2 ^ 30) (h : j ≤ n) {A B : Prop} (hb : B) : (nI j < 0 → A) ∧ (¬ nI j < 0 → ((nI (n + 1) ≤ nI j → A) ∧ (¬ nI (n + 1) ≤ nI j → B))) := br_f (nI_pos (by omega)) (br_f (nI_ge (by omega) (by omega)) hb)
theorem r6_in {σ : k_M} {m j v : Nat} (hm : m ≤ 7) (hj : j ≤ 4) (hv : v < 23) {Q : Int32 → k_M → Prop} (hq : Q (σ 5 (5 * m + j)) (k_put σ 5 (5 * m + j) (nI v))) : wp_X6_row σ (nI m) (nI j) (nI v) Q := by
  unfold wp_X6_row
  refine ⟨True, fun _ => k_in_r (n := 4) (by omega) hj (s_val1 hv (b1 ?_)), ?_⟩
  · rw [k_l5, pk_mul, nI_add, show m * 5 + j = 5 * m + j by omega, nI_clamp (by omega)]
    exact ⟨vp_in_nI (by omega) (by omega), vp_in_nI (by omega) (by omega), hq⟩
  · by_cases h0 : m = 0
    · subst h0; exact br_t rfl trivial
    · exact br_f (nI_ne0 (by omega) (by omega)) (s_mem1 (by omega) hm (b1 trivial))
theorem r6_out {σ : k_M} {m : Nat} {p2 p3 : Int32} (hm : m ≤ 7) (h : (p2 < nI 0 ∨ nI 4 < p2) ∨ (∃ j, j ≤ 4 ∧ p2 = nI j) ∧ (p3 < nI 0 ∨ nI 22 < p3)) {Q : Int32 → k_M → Prop} (hq : Q (-2) σ) : wp_X6_row σ (nI m) p2 p3 Q := by
  unfold wp_X6_row
  refine ⟨True, fun _ => ?_, ?_⟩
  · rcases h with h | ⟨⟨j, hj, rfl⟩, h⟩
    · exact k_out_r (n := 4) (by omega) h hq
    · exact k_in_r (n := 4) (by omega) hj (s_val0 h (b0 hq))
  · by_cases h0 : m = 0
    · subst h0; exact br_t rfl trivial
    · exact br_f (nI_ne0 (by omega) (by omega)) (s_mem1 (by omega) hm (b1 trivial))
theorem r6_unk {σ : k_M} {p1 p2 p3 : Int32} (h : p1 < nI 0 ∨ nI 7 < p1) {Q : Int32 → k_M → Prop} (hq : Q (-1) σ) : wp_X6_row σ p1 p2 p3 Q := by
  unfold wp_X6_row
  have hx0 : ¬ p1 = 0 := by
    rintro rfl
    rcases h with h | h
    · exact absurd h (by decide)
    · exact absurd h (by decide)
  have h1' : p1 < nI 1 ∨ nI 7 < p1 := h.imp (fun h => by rw [Int32.lt_iff_toInt_lt, nI_toInt (by omega)] at h ⊢; omega) id
  exact ⟨False, fun h => h.elim, br_f hx0 (s_mem0 h1' (b0 hq))⟩
theorem r7_in {τ : k_M} {m j v : Nat} (hm : m ≤ 7) (hj : j ≤ 4) (hv : v < 23) {Q : Int32 → k_M → Prop} (hq : Q (τ 1 (5 * m + j)) (k_put τ 1 (5 * m + j) (nI v))) : wp_X7_row τ (nI m) (nI j) (nI v) Q := by
  unfold wp_X7_row
  refine s_in1 (lo := 0) (hi := 7) (by omega) hm (by omega) (b1 (s_in1 (lo := 0) (hi := 4) (by omega) hj (by omega) (b1 (s_val71 hv (b1 ?_)))))
  rw [k_l5, k_l0, pk_mul, nI_add, nI_add, show 0 + 5 * m + j = 5 * m + j by omega, nI_clamp (by omega)]
  exact ⟨vp_in_nI (by omega) (by omega), vp_in_nI (by omega) (by omega), hq⟩
theorem r7_out {τ : k_M} {m : Nat} {p2 p3 : Int32} (hm : m ≤ 7) (h : (p2 < nI 0 ∨ nI 4 < p2) ∨ (∃ j, j ≤ 4 ∧ p2 = nI j) ∧ (p3 < nI 0 ∨ nI 22 < p3)) {Q : Int32 → k_M → Prop} (hq : Q (-2) τ) : wp_X7_row τ (nI m) p2 p3 Q := by
  unfold wp_X7_row
  refine s_in1 (lo := 0) (hi := 7) (by omega) hm (by omega) (b1 ?_)
  rcases h with h | ⟨⟨j, hj, rfl⟩, h⟩
  · exact s_in0 h (b0 hq)
  · exact s_in1 (lo := 0) (hi := 4) (by omega) hj (by omega) (b1 (s_val70 h (b0 hq)))
theorem r7_unk {τ : k_M} {p1 p2 p3 : Int32} (h : p1 < nI 0 ∨ nI 7 < p1) {Q : Int32 → k_M → Prop} (hq : Q (-1) τ) : wp_X7_row τ p1 p2 p3 Q := s_in0 h (b0 hq)
theorem put_same {σ : k_M} {i k : Nat} {v : Int32} : k_put σ i k v i k = v := by simp [k_put, upd]
theorem put_cell {σ : k_M} {i k a : Nat} {v : Int32} (h : a ≠ i) : k_put σ i k v a = σ a := by simp [k_put, h]
theorem put_slot {σ : k_M} {i k q : Nat} {v : Int32} (h : q ≠ k) : k_put σ i k v i q = σ i q := by simp [k_put, upd, h]
theorem put_if {σ : k_M} {i k q : Nat} {v : Int32} : k_put σ i k v i q = if q = k then v else σ i q := by simp [k_put, upd]
/-- the reference's ints outside a part -/
theorem CRm.mono {s s' : Nat → Int32} {A : aM} (h : CRm s A) (he : ∀ q, q < 371 → s' q = s q) (hi : aInv A) : CRm s' A := by
  have z := hi.2.2.2.2.2.2.2.1
  refine ⟨fun k hk => (he _ (by omega)).trans (h.1 k hk), fun m w a b c => (he _ (by omega)).trans (h.2.1 m w a b c), fun m a b => (he _ (by omega)).trans (h.2.2.1 m a b), fun j a b => (he _ (by have := hi.2.2.2.2.2.2.2.2.1 a; omega)).trans (h.2.2.2.1 j a b), fun e a => (he _ (by have := hi.2.2.2.2.1; omega)).trans (h.2.2.2.2.1 e a), (he _ (by omega)).trans h.2.2.2.2.2.1, (he _ (by omega)).trans h.2.2.2.2.2.2.1, (he _ (by omega)).trans h.2.2.2.2.2.2.2.1, (he _ (by omega)).trans h.2.2.2.2.2.2.2.2.1, (he _ (by omega)).trans h.2.2.2.2.2.2.2.2.2.1, (he _ (by omega)).trans h.2.2.2.2.2.2.2.2.2.2.1, fun i a => ?_⟩
  have := h.2.2.2.2.2.2.2.2.2.2.2 i a
  exact ⟨(he _ (by omega)).trans this.1, (he _ (by omega)).trans this.2.1, (he _ (by omega)).trans this.2.2⟩
theorem sim_row_ok : sim_row RR := by
  rintro pr σ ρ τ p1 p2 p3 hR
  obtain ⟨⟨A, hc, hm, hi⟩, ht, him, hk⟩ := id hR
  rcases k_case p1 0 7 (by omega) (by omega) with ⟨m, -, hm7, rfl⟩ | h1
  · rcases k_case p2 0 4 (by omega) (by omega) with ⟨j, -, hj4, rfl⟩ | h2
    · rcases k_case p3 0 22 (by omega) (by omega) with ⟨v, -, hv, rfl⟩ | h3
      · refine r6_in hm7 hj4 (by omega) (r7_in hm7 hj4 (by omega) ⟨(hc.1 _ (by omega)).trans (hm.1 _ (by omega)).symm, ⟨aput A 0 (5 * m + j) v, ?_, ?_, ?_⟩, ht.keep rfl (fun _ => rfl) rfl (fun _ => rfl), him, hk⟩)
        · refine ⟨fun k hk => ?_, hc.2⟩
          show k_put σ 5 (5 * m + j) (nI v) 5 k = nI (if k = 5 * m + j then v else A 0 k)
          rw [put_if]
          split
          · rfl
          · exact hc.1 k hk
        · have hs : ∀ q, 40 ≤ q → k_put τ 1 (5 * m + j) (nI v) 1 q = τ 1 q := fun q hq => put_slot (by omega)
          refine ⟨fun k hk => ?_, fun m w a b c => by rw [hs _ (by omega)]; exact hm.2.1 m w a b c, fun m a b => by rw [hs _ (by omega)]; exact hm.2.2.1 m a b, fun j a b => by rw [hs _ (by omega)]; exact hm.2.2.2.1 j a b, fun e a => by rw [hs _ (by omega)]; exact hm.2.2.2.2.1 e a, by rw [hs _ (by omega)]; exact hm.2.2.2.2.2.1, by rw [hs _ (by omega)]; exact hm.2.2.2.2.2.2.1, by rw [hs _ (by omega)]; exact hm.2.2.2.2.2.2.2.1, by rw [hs _ (by omega)]; exact hm.2.2.2.2.2.2.2.2.1, by rw [hs _ (by omega)]; exact hm.2.2.2.2.2.2.2.2.2.1, by rw [hs _ (by omega)]; exact hm.2.2.2.2.2.2.2.2.2.2.1, fun i a => by rw [hs _ (by omega), hs _ (by omega), hs _ (by omega)]; exact hm.2.2.2.2.2.2.2.2.2.2.2 i a⟩
          show k_put τ 1 (5 * m + j) (nI v) 1 k = nI (if k = 5 * m + j then v else A 0 k)
          rw [put_if]
          split
          · rfl
          · exact hm.1 k hk
        · refine ⟨fun k hk => ?_, hi.2⟩
          show (if k = 5 * m + j then v else A 0 k) < 23
          split
          · omega
          · exact hi.1 k hk
      · exact r6_out hm7 (Or.inr ⟨⟨j, hj4, rfl⟩, h3⟩) (r7_out hm7 (Or.inr ⟨⟨j, hj4, rfl⟩, h3⟩) ⟨rfl, hR⟩)
    · exact r6_out hm7 (Or.inl h2) (r7_out hm7 (Or.inl h2) ⟨rfl, hR⟩)
  · exact r6_unk h1 (r7_unk h1 ⟨rfl, hR⟩)
/-- bent -/
theorem s_hiB {w : Nat} (hw : w < 5) {Q : Int32 → Prop} (hq : Q (nI (aHi w))) : wp_X6_highestBend (nI w) Q := by
  unfold wp_X6_highestBend
  rcases (show w = 0 ∨ w = 1 ∨ w = 2 ∨ w = 3 ∨ w = 4 by omega) with rfl | rfl | rfl | rfl | rfl
  · exact br_t rfl hq
  · exact br_f (by decide) (br_t rfl hq)
  · exact br_f (by decide) (br_f (by decide) (br_t rfl hq))
  · exact br_f (by decide) (br_f (by decide) (br_f (by decide) (br_t rfl hq)))
  · exact br_f (by decide) (br_f (by decide) (br_f (by decide) (br_f (by decide) hq)))
theorem aHi_le (w : Nat) : aHi w ≤ 22 := by
  unfold aHi
  split
  · omega
  · split <;> omega
theorem e6_in {σ : k_M} {m w v : Nat} (h1 : 1 ≤ m) (hm : m ≤ 7) (hw : w < 5) (hv : v ≤ aHi w) {Q : Int32 → k_M → Prop} (hq : Q (σ 6 (5 * m + w)) (k_put σ 6 (5 * m + w) (nI v))) : wp_X6_bent σ (nI m) (nI w) (nI v) Q := by
  have := aHi_le w
  unfold wp_X6_bent
  refine s_mem1 h1 hm (b1 (k_in_r (n := 4) (by omega) (by omega) (br_f (nI_pos (by omega)) (s_hiB hw (br_t (nI_le hv (by omega)) ?_)))))
  rw [k_l5, pk_mul, nI_add, show m * 5 + w = 5 * m + w by omega, nI_clamp (by omega)]
  exact ⟨vp_in_nI (by omega) (by omega), vp_in_nI (by omega) (by omega), hq⟩
theorem e6_out {σ : k_M} {m : Nat} {p2 p3 : Int32} (h1 : 1 ≤ m) (hm : m ≤ 7) (h : (p2 < nI 0 ∨ nI 4 < p2) ∨ (∃ w, w < 5 ∧ p2 = nI w ∧ (p3 < nI 0 ∨ nI (aHi w) < p3))) {Q : Int32 → k_M → Prop} (hq : Q (-2) σ) : wp_X6_bent σ (nI m) p2 p3 Q := by
  unfold wp_X6_bent
  refine s_mem1 h1 hm (b1 ?_)
  rcases h with h | ⟨w, hw, rfl, h⟩
  · exact k_out_r (n := 4) (by omega) h hq
  · refine k_in_r (n := 4) (by omega) (by omega) ?_
    rcases h with h | h
    · exact br_t h hq
    · exact br_c (fun _ => hq) (fun _ => s_hiB hw (br_f (k_not_le h) hq))
theorem e6_unk {σ : k_M} {p1 p2 p3 : Int32} (h : p1 < nI 1 ∨ nI 7 < p1) {Q : Int32 → k_M → Prop} (hq : Q (-1) σ) : wp_X6_bent σ p1 p2 p3 Q := s_mem0 h (b0 hq)
theorem s_bentOf {τ : k_M} {m w : Nat} (hm : m ≤ 7) (hw : w < 5) {Q : Int32 → Prop} (hq : Q (τ 1 (48 + 8 * w + m))) : wp_X7_bentOf τ (nI m) (nI w) Q := by
  unfold wp_X7_bentOf wp_X7_bentAt
  rw [k_l48, k_l8, pk_mul, nI_add, nI_add]
  dsimp only
  rw [nI_clamp (by omega)]
  exact ⟨vp_in_nI (by omega) (by omega), hq⟩
theorem e7_hi {w : Nat} (hw : w < 5) {K : Int32 → Prop} (h : K (nI (aHi w))) : (((2 : Int32) ≤ nI w → (((4 : Int32) ≤ nI w → K 1) ∧ (¬ (4 : Int32) ≤ nI w → K 7))) ∧ (¬ (2 : Int32) ≤ nI w → K 22)) := by
  rcases (show w = 0 ∨ w = 1 ∨ w = 2 ∨ w = 3 ∨ w = 4 by omega) with rfl | rfl | rfl | rfl | rfl
  · exact br_f (by decide) h
  · exact br_f (by decide) h
  · exact br_t (by decide) (br_f (by decide) h)
  · exact br_t (by decide) (br_f (by decide) h)
  · exact br_t (by decide) (br_t (by decide) h)
theorem e7_in {τ : k_M} {m w v : Nat} (h1 : 1 ≤ m) (hm : m ≤ 7) (hw : w < 5) (hv : v ≤ aHi w) {Q : Int32 → k_M → Prop} (hq : Q (τ 1 (48 + 8 * w + m)) (k_put τ 1 (48 + 8 * w + m) (nI v))) : wp_X7_bent τ (nI m) (nI w) (nI v) Q := by
  have := aHi_le w
  unfold wp_X7_bent
  refine s_mem71 h1 hm (b1 (s_in1 (lo := 0) (hi := 4) (by omega) (by omega) (by omega) (b1 ⟨fun y => y = nI (aHi w), ?_, e7_hi (K := fun y => y = nI (aHi w)) hw rfl⟩)))
  rintro y rfl
  refine s_in1 (lo := 0) (by omega) hv (by omega) (b1 (s_bentOf hm hw ?_))
  unfold wp_X7_bentAt
  rw [k_l48, k_l8, pk_mul, nI_add, nI_add]
  dsimp only
  rw [nI_clamp (by omega)]
  exact ⟨vp_in_nI (by omega) (by omega), hq⟩
theorem e7_out {τ : k_M} {m : Nat} {p2 p3 : Int32} (h1 : 1 ≤ m) (hm : m ≤ 7) (h : (p2 < nI 0 ∨ nI 4 < p2) ∨ (∃ w, w < 5 ∧ p2 = nI w ∧ (p3 < nI 0 ∨ nI (aHi w) < p3))) {Q : Int32 → k_M → Prop} (hq : Q (-2) τ) : wp_X7_bent τ (nI m) p2 p3 Q := by
  unfold wp_X7_bent
  refine s_mem71 h1 hm (b1 ?_)
  rcases h with h | ⟨w, hw, rfl, h⟩
  · exact s_in0 h (b0 hq)
  · refine s_in1 (lo := 0) (hi := 4) (by omega) (by omega) (by omega) (b1 ⟨fun y => y = nI (aHi w), ?_, e7_hi (K := fun y => y = nI (aHi w)) hw rfl⟩)
    rintro y rfl
    exact s_in0 h (b0 hq)
theorem e7_unk {τ : k_M} {p1 p2 p3 : Int32} (h : p1 < nI 1 ∨ nI 7 < p1) {Q : Int32 → k_M → Prop} (hq : Q (-1) τ) : wp_X7_bent τ p1 p2 p3 Q := s_mem70 h (b0 hq)
theorem sim_bent_ok : sim_bent RR := by
  rintro pr σ ρ τ p1 p2 p3 hR
  obtain ⟨⟨A, hc, hm, hi⟩, ht, him, hk⟩ := id hR
  rcases k_case p1 1 7 (by omega) (by omega) with ⟨m, hm1, hm7, rfl⟩ | h1
  · rcases k_case p2 0 4 (by omega) (by omega) with ⟨w, -, hw4, rfl⟩ | h2
    · have := aHi_le w
      rcases k_case p3 0 (aHi w) (by omega) (by omega) with ⟨v, -, hv, rfl⟩ | h3
      · refine e6_in hm1 hm7 (by omega) hv (e7_in hm1 hm7 (by omega) hv ⟨(hc.2.1 _ (by omega) (by omega)).trans (hm.2.1 m w hm1 hm7 (by omega)).symm, ⟨aput A 1 (5 * m + w) v, ?_, ?_, ?_⟩, ht.keep rfl (fun _ => rfl) rfl (fun _ => rfl), him, hk⟩)
        · refine ⟨hc.1, fun k h5 hk => ?_, hc.2.2⟩
          show k_put σ 6 (5 * m + w) (nI v) 6 k = nI (if k = 5 * m + w then v else A 1 k)
          rw [put_if]
          split
          · rfl
          · exact hc.2.1 k h5 hk
        · have hs : ∀ q, (q < 48 ∨ 88 ≤ q) → k_put τ 1 (48 + 8 * w + m) (nI v) 1 q = τ 1 q := fun q hq => put_slot (by omega)
          refine ⟨fun k hk => by rw [hs _ (by omega)]; exact hm.1 k hk, fun m2 w2 a b c => ?_, fun m a b => by rw [hs _ (by omega)]; exact hm.2.2.1 m a b, fun j a b => by rw [hs _ (by omega)]; exact hm.2.2.2.1 j a b, fun e a => by rw [hs _ (by omega)]; exact hm.2.2.2.2.1 e a, by rw [hs _ (by omega)]; exact hm.2.2.2.2.2.1, by rw [hs _ (by omega)]; exact hm.2.2.2.2.2.2.1, by rw [hs _ (by omega)]; exact hm.2.2.2.2.2.2.2.1, by rw [hs _ (by omega)]; exact hm.2.2.2.2.2.2.2.2.1, by rw [hs _ (by omega)]; exact hm.2.2.2.2.2.2.2.2.2.1, by rw [hs _ (by omega)]; exact hm.2.2.2.2.2.2.2.2.2.2.1, fun i a => by rw [hs _ (by omega), hs _ (by omega), hs _ (by omega)]; exact hm.2.2.2.2.2.2.2.2.2.2.2 i a⟩
          show k_put τ 1 (48 + 8 * w + m) (nI v) 1 (48 + 8 * w2 + m2) = nI (if 5 * m2 + w2 = 5 * m + w then v else A 1 (5 * m2 + w2))
          rw [put_if]
          by_cases he : 5 * m2 + w2 = 5 * m + w
          · rw [if_pos he, if_pos (by omega)]
          · rw [if_neg he, if_neg (by omega)]
            exact hm.2.1 m2 w2 a b c
        · refine ⟨hi.1, fun m2 w2 a b c => ?_, hi.2.2⟩
          show (if 5 * m2 + w2 = 5 * m + w then v else A 1 (5 * m2 + w2)) ≤ aHi w2
          split
          · have : w2 = w := by omega
            subst this
            exact hv
          · exact hi.2.1 m2 w2 a b c
      · exact e6_out hm1 hm7 (Or.inr ⟨w, by omega, rfl, h3⟩) (e7_out hm1 hm7 (Or.inr ⟨w, by omega, rfl, h3⟩) ⟨rfl, hR⟩)
    · exact e6_out hm1 hm7 (Or.inl h2) (e7_out hm1 hm7 (Or.inl h2) ⟨rfl, hR⟩)
  · exact e6_unk h1 (e7_unk h1 ⟨rfl, hR⟩)
theorem sim_named_ok : sim_named RR := by
  rintro pr σ ρ τ p1 hR
  obtain ⟨⟨A, hc, hm, hi⟩, -, -, -⟩ := id hR
  unfold wp_X6_named wp_X7_named
  rw [kcl_369, kcl_370]
  have e1 : σ 4 9 = τ 1 369 := (hc.2.2.2.2.2.2.2.2.1).trans hm.2.2.2.2.2.2.2.2.2.1.symm
  have e2 : σ 4 10 = τ 1 370 := (hc.2.2.2.2.2.2.2.2.2.1).trans hm.2.2.2.2.2.2.2.2.2.2.1.symm
  exact br_c (fun h => br_t h ⟨e1, hR⟩) (fun h => br_c (fun h2 => br_f h (br_t h2 ⟨e2, hR⟩)) (fun h2 => br_f h (br_f h2 ⟨rfl, hR⟩)))
theorem sim_wipe_ok : sim_wipe RR := by
  rintro pr σ ρ τ hR
  obtain ⟨⟨A, hc, hm, hi⟩, ⟨n, hn, h1, h2, h3⟩, him, hk⟩ := id hR
  unfold wp_X6_wipe wp_X7_wipe
  exact ⟨h1.trans h2.symm, ⟨A, hc, hm, hi⟩, ⟨0, Nat.zero_le _, rfl, rfl, fun i h => absurd h (Nat.not_lt_zero _)⟩, him, hk⟩
theorem sim_say_ok : sim_say RR := by
  rintro pr σ ρ τ p1 hR
  obtain ⟨⟨A, hc, hm, hi⟩, ⟨n, hn, h1, h2, h3⟩, him, hk⟩ := id hR
  unfold wp_X6_say wp_X7_say wp_X3_append
  rw [h1, h2]
  rcases k_case p1 33 126 (by omega) (by omega) with ⟨v, hv1, hv2, rfl⟩ | hx
  · refine br_f (nI_nlt (b := 33) hv1 (by omega)) (br_t (nI_le (b := 126) hv2 (by omega)) (br_f (nI_pos (by omega)) ?_))
    rcases Nat.lt_or_ge n 10 with hlt | hge
    · refine br_t (nI_lt (b := 10) hlt (by omega)) ⟨vp_in_nI (by omega) (by omega), b1 ?_⟩
      refine s_in1 (lo := 33) (hi := 126) hv1 hv2 (by omega) (b1 (br_f (fun z => by have := (nI_eq (b := 10) (by omega) (by omega)).mp z; omega) ⟨vp_in_nI (by omega) (by omega), ?_⟩))
      rw [nI_clamp (by omega)]
      have e1 : k_put σ 2 n (nI v) 1 1 = nI n := (congrFun (put_cell (by decide)) 1).trans h1
      have e2 : k_put τ 2 n (nI v) 0 2 = nI n := (congrFun (put_cell (by decide)) 2).trans h2
      rw [e1, e2, put_same, put_same, k_l1, nI_add]
      refine ⟨rfl, ⟨A, hc, hm, hi⟩, ⟨n + 1, by omega, put_same, put_same, fun i hi2 => ?_⟩, him, hk⟩
      show k_put σ 2 n (nI v) 2 i = k_put τ 2 n (nI v) 2 i ∧ ∃ v', 33 ≤ v' ∧ v' ≤ 126 ∧ k_put τ 2 n (nI v) 2 i = nI v'
      rw [put_if, put_if]
      by_cases hin : i = n
      · rw [if_pos hin, if_pos hin]
        exact ⟨rfl, v, hv1, hv2, rfl⟩
      · rw [if_neg hin, if_neg hin]
        exact h3 i (by omega)
    · have : n = 10 := by omega
      subst this
      exact br_f (by decide) (b0 (s_in1 (lo := 33) (hi := 126) hv1 hv2 (by omega) (b1 (br_t rfl ⟨rfl, hR⟩))))
  · have hend := s_in0 (y := 33) (z := 126) hx (Q := fun r_5 => ((r_5 = 0 → (-2 : Int32) = -2 ∧ RR pr σ ρ τ) ∧ (¬ r_5 = 0 → True))) (b0 ⟨rfl, hR⟩)
    rcases hx with hx | hx
    · exact br_t hx (s_in0 (Or.inl hx) (b0 ⟨rfl, hR⟩))
    · exact br_c (fun _ => s_in0 (Or.inr hx) (b0 ⟨rfl, hR⟩)) (fun _ => br_f (k_not_le hx) (s_in0 (Or.inr hx) (b0 ⟨rfl, hR⟩)))
theorem s_isDealt {σ : k_M} {n : Nat} (h : σ 4 8 = nI n - 1) (hn : n ≤ 200) {Q : Int32 → Prop} (hq : Q (if n = 0 then 0 else 1)) : wp_X0_isDealt σ Q := by
  unfold wp_X0_isDealt
  rw [h]
  by_cases h0 : n = 0
  · subst h0
    exact br_t (by decide) hq
  · rw [if_neg h0] at hq
    have e : nI n - 1 = nI (n - 1) := k_sub_n (b := 1) (by omega)
    rw [e]
    exact br_f (nI_pos (by omega)) hq
theorem s_isDealt7 {τ : k_M} {n : Nat} (h : τ 1 89 = if n = 0 then -6 else nI (n - 1)) (hn : n ≤ 200) {Q : Int32 → Prop} (hq : Q (if n = 0 then 0 else 1)) : wp_X7_isDealt τ Q := by
  unfold wp_X7_isDealt
  rw [kcl_89, h]
  by_cases h0 : n = 0
  · rw [if_pos h0] at hq ⊢
    exact br_t (by decide) hq
  · rw [if_neg h0] at hq ⊢
    exact br_f (nI_pos (by omega)) hq
theorem sim_seal_ok : sim_seal RR := by
  rintro pr σ ρ τ p1 hR
  obtain ⟨⟨A, hc, hm, hi⟩, -, -, -⟩ := id hR
  have hE := hi.2.2.2.2.1
  unfold wp_X6_seal wp_X7_seal
  refine s_isDealt hc.2.2.2.2.2.2.2.1 hE ?_
  by_cases h0 : A 8 2 = 0
  · rw [if_pos h0]
    refine b0 (s_isDealt7 hm.2.2.2.2.2.2.1 hE ?_)
    rw [if_pos h0]
    exact b0 ⟨rfl, hR⟩
  · rw [if_neg h0]
    have ht := hi.2.2.2.2.2.2.2.2.1 (by omega)
    have h47 : σ 4 7 = nI (A 8 1) := hc.2.2.2.2.2.2.1 (by omega)
    have h88 : τ 1 88 = nI (A 8 1) := by rw [hm.2.2.2.2.2.1, if_neg h0]
    have hfin : ∀ (r : Int32), (wp_X7_in p1 (0 : Int32) (((τ 1) (88 : Int32).toNatClampNeg) - (1 : Int32)) (fun (r_21 : Int32) => ((r_21 = 0 → (r = -6 ∧ RR pr σ ρ τ)) ∧ (¬ r_21 = 0 → (vp_in ((90 : Int32) + p1) 371 ∧ (r = ((τ 1) ((90 : Int32) + p1).toNatClampNeg) ∧ RR pr σ ρ τ)))))) → wp_X7_isDealt τ (fun (r_1 : Int32) => ((r_1 = 0 → r = -3 ∧ RR pr σ ρ τ) ∧ (¬ r_1 = 0 → wp_X7_in p1 (0 : Int32) (((τ 1) (88 : Int32).toNatClampNeg) - (1 : Int32)) (fun (r_21 : Int32) => ((r_21 = 0 → (r = -6 ∧ RR pr σ ρ τ)) ∧ (¬ r_21 = 0 → (vp_in ((90 : Int32) + p1) 371 ∧ (r = ((τ 1) ((90 : Int32) + p1).toNatClampNeg) ∧ RR pr σ ρ τ)))))))) := by
      intro r hr
      refine s_isDealt7 hm.2.2.2.2.2.2.1 hE ?_
      rw [if_neg h0]
      exact b1 hr
    rw [kcl_88, h88, show nI (A 8 1) - (1 : Int32) = nI (A 8 1 - 1) from k_sub_n (b := 1) (by omega)] at hfin
    refine b1 ?_
    rw [h47]
    rw [kcl_88, h88, show nI (A 8 1) - (1 : Int32) = nI (A 8 1 - 1) from k_sub_n (b := 1) (by omega)]
    rcases k_case p1 0 (A 8 1 - 1) (by omega) (by omega) with ⟨j, -, hj, rfl⟩ | hx
    · refine br_f (nI_pos (by omega)) (br_f (nI_ge (b := 5) (a := j) (by omega) (by omega)) (br_t (nI_lt (by omega) (by omega)) ⟨vp_in_nI (by omega) (by omega), hfin _ (s_in1 (lo := 0) (by omega) hj (by omega) (b1 ?_))⟩))
      rw [k_l90, nI_add]
      refine ⟨vp_in_nI (by omega) (by omega), ?_, hR⟩
      rw [nI_clamp (by omega), nI_clamp (by omega)]
      exact (hc.2.2.2.1 j (by omega) (by omega)).trans (hm.2.2.2.1 j (by omega) (by omega)).symm
    · have hend := hfin (-6) (s_in0 hx (b0 ⟨rfl, hR⟩))
      rcases hx with hx | hx
      · exact br_t hx hend
      · refine br_c (fun _ => hend) (fun _ => br_c (fun _ => hend) (fun _ => br_f ?_ hend))
        intro z
        have := k_le_of_lt (n := A 8 1 - 1) (by omega) hx
        rw [show A 8 1 - 1 + 1 = A 8 1 by omega] at this
        exact k_not_le z this
