/-! another threshold -/
def mv (A : aM) (s : Nat) : Nat → Nat × Nat × Nat
  | 0 => (0, 0, 0)
  | k + 1 => if cnt (mv A s k).1 < A 8 1 ∧ (teN A s).testBit (k + 1) = true then (if hon A (k + 1) then (offT A (k + 1) (mv A s k).1, offL A (k + 1) (mv A s k).2.1, offS A (k + 1) (mv A s k).2.2) else ((mv A s k).1, (mv A s k).2.1 ||| 2 ^ (k + 1), (mv A s k).2.2)) else mv A s k
section
variable {A : aM} {s : Nat}
theorem mv_no {k : Nat} (h : ¬ (cnt (mv A s k).1 < A 8 1 ∧ (teN A s).testBit (k + 1) = true)) : mv A s (k + 1) = mv A s k := if_neg h
theorem mv_ho {k : Nat} (h : cnt (mv A s k).1 < A 8 1) (h2 : (teN A s).testBit (k + 1) = true) (h3 : hon A (k + 1)) : mv A s (k + 1) = (offT A (k + 1) (mv A s k).1, offL A (k + 1) (mv A s k).2.1, offS A (k + 1) (mv A s k).2.2) := (if_pos ⟨h, h2⟩).trans (if_pos h3)
theorem mv_li {k : Nat} (h : cnt (mv A s k).1 < A 8 1) (h2 : (teN A s).testBit (k + 1) = true) (h3 : ¬ hon A (k + 1)) : mv A s (k + 1) = ((mv A s k).1, (mv A s k).2.1 ||| 2 ^ (k + 1), (mv A s k).2.2) := (if_pos ⟨h, h2⟩).trans (if_neg h3)
theorem mv_lt : ∀ k, k ≤ 7 → (mv A s k).1 < 256 ∧ (mv A s k).2.1 < 256 ∧ (mv A s k).2.2 < 256
  | 0, _ => by refine ⟨?_, ?_, ?_⟩ <;> (show 0 < 256; omega)
  | k + 1, h => by
    have ih := mv_lt k (by omega)
    by_cases h1 : cnt (mv A s k).1 < A 8 1 ∧ (teN A s).testBit (k + 1) = true
    · by_cases h3 : hon A (k + 1)
      · rw [mv_ho h1.1 h1.2 h3]
        exact ⟨offT_lt ih.1 h, offL_lt ih.2.1, offS_lt ih.2.2 h⟩
      · rw [mv_li h1.1 h1.2 h3]
        exact ⟨ih.1, or_lt ih.2.1 h, ih.2.2⟩
    · rw [mv_no h1]; exact ih
theorem mv_bit : ∀ k m, (mv A s k).1.testBit m = true → 1 ≤ m ∧ m ≤ k ∧ (teN A s).testBit m = true ∧ hon A m
  | 0, m, h => by
    have : (0 : Nat).testBit m = true := h
    rw [Nat.zero_testBit] at this
    exact absurd this (by decide)
  | k + 1, m, h => by
    by_cases h1 : cnt (mv A s k).1 < A 8 1 ∧ (teN A s).testBit (k + 1) = true
    · by_cases h3 : hon A (k + 1)
      · rw [mv_ho h1.1 h1.2 h3] at h
        have h' : (offT A (k + 1) (mv A s k).1).testBit m = true := h
        unfold offT at h'
        by_cases hs : skN A (k + 1)
        · rw [if_pos hs] at h'
          have := mv_bit k m h'
          exact ⟨this.1, by omega, this.2.2⟩
        · rw [if_neg hs] at h'
          rcases bit_in.mp h' with z | z
          · have := mv_bit k m z
            exact ⟨this.1, by omega, this.2.2⟩
          · rw [z]; exact ⟨by omega, by omega, h1.2, h3⟩
      · rw [mv_li h1.1 h1.2 h3] at h
        have := mv_bit k m h
        exact ⟨this.1, by omega, this.2.2⟩
    · rw [mv_no h1] at h
      have := mv_bit k m h
      exact ⟨this.1, by omega, this.2.2⟩
theorem mv_stable {k : Nat} (h : ¬ cnt (mv A s k).1 < A 8 1) : ∀ d, mv A s (k + d) = mv A s k
  | 0 => rfl
  | d + 1 => by
    have e := mv_stable h d
    rw [show k + (d + 1) = k + d + 1 by omega, mv_no (fun z => h (by rw [← e]; exact z.1)), e]
theorem mv_gap {k : Nat} : ∀ d, (∀ q, k < q → q ≤ k + d → ¬ (teN A s).testBit q = true) → mv A s (k + d) = mv A s k
  | 0, _ => rfl
  | d + 1, h => by
    rw [show k + (d + 1) = k + d + 1 by omega, mv_no (fun z => h (k + d + 1) (by omega) (by omega) z.2)]
    exact mv_gap d (fun q a b => h q a (by omega))
end
def mvP (A : aM) : Nat → Nat → Nat := fun m => polyOf A m (tellN A m)
def mvC (A : aM) (s : Nat) : Nat → Nat := acf (fun _ => 0) (fun m => wgt m (mv A s 7).1 0) (mvP A) (mv A s 7).1 7
def movA (A : aM) (s t : Nat) : aM := nxtA (aLS A (mv A s 7).2.1 (mv A s 7).2.2) (mnus (A 8 0) (mv A s 7).2.2) t (fun j => mvC A s j % 23) (fun m => pe (mvC A s) t m) (mv A s 7).2.1 (mv A s 7).2.2
theorem psum_z (x : Nat) : ∀ t, psum (fun _ => 0) x t = 0
  | 0 => rfl
  | t + 1 => by
    simp only [psum]
    rw [psum_z x t, Nat.zero_mul]
theorem pe_z (t x : Nat) : pe (fun _ => 0) t x = 0 := by
  unfold pe
  rw [psum_z]
theorem s_fill7 {σ : k_M} {v : Int32} {Q : k_M → Prop} (hq : ∀ σ', (∀ a, a ≠ 7 → σ' a = σ a) → (∀ i, i < 8 → σ' 7 i = v) → Q σ') : wp_J7_fill_53178_7 σ v Q := by
  unfold wp_J7_fill_53178_7
  refine k_lpI2 8 (fun j x σ' => x = nI j ∧ (∀ a, a ≠ 7 → σ' a = σ a) ∧ (∀ i, i < j → σ' 7 i = v)) 0 (by omega) ⟨rfl, fun _ _ => rfl, fun i h => absurd h (by omega)⟩ ?_
  rintro j hj x σ1 ⟨rfl, a1, a2⟩ B hB
  rcases Nat.lt_or_ge j 8 with hlt | hge
  · refine br_f (nI_ge (b := 8) hlt (by omega)) ⟨vp_in_nI hlt (by omega), ?_⟩
    rw [nI_clamp (by omega)]
    refine hB hlt _ _ ⟨by rw [k_l1, nI_add], fun a ha => by rw [put_cell ha]; exact a1 a ha, fun i hi2 => ?_⟩
    rw [put_if]
    by_cases e : i = j
    · rw [if_pos e]
    · rw [if_neg e]; exact a2 i (by omega)
  · exact br_t (nI_le (a := 8) hge (by omega)) (hq σ1 a1 (fun i hi => a2 i (by omega)))
theorem s_fill8 {σ : k_M} {v : Int32} {Q : k_M → Prop} (hq : ∀ σ', (∀ a, a ≠ 8 → σ' a = σ a) → (∀ i, i < 5 → σ' 8 i = v) → Q σ') : wp_J7_fill_53178_8 σ v Q := by
  unfold wp_J7_fill_53178_8
  refine k_lpI2 5 (fun j x σ' => x = nI j ∧ (∀ a, a ≠ 8 → σ' a = σ a) ∧ (∀ i, i < j → σ' 8 i = v)) 0 (by omega) ⟨rfl, fun _ _ => rfl, fun i h => absurd h (by omega)⟩ ?_
  rintro j hj x σ1 ⟨rfl, a1, a2⟩ B hB
  rcases Nat.lt_or_ge j 5 with hlt | hge
  · refine br_f (nI_ge (b := 5) hlt (by omega)) ⟨vp_in_nI hlt (by omega), ?_⟩
    rw [nI_clamp (by omega)]
    refine hB hlt _ _ ⟨by rw [k_l1, nI_add], fun a ha => by rw [put_cell ha]; exact a1 a ha, fun i hi2 => ?_⟩
    rw [put_if]
    by_cases e : i = j
    · rw [if_pos e]
    · rw [if_neg e]; exact a2 i (by omega)
  · exact br_t (nI_le (a := 5) hge (by omega)) (hq σ1 a1 (fun i hi => a2 i (by omega)))
/-- the same circle, seen from another memory or another name -/
theorem CRc.via {κ κ' : k_M} {A A' : aM} (h : CRc κ A) (e : ∀ a, a ≤ 9 → κ' a = κ a) (eA : A' = A) : CRc κ' A' := by
  subst eA
  have := h.ls (κ' := κ') (L := A' 8 3) (S := A' 8 4) (fun a _ a2 => e a a2) (fun q _ _ => by rw [e 0 (by omega)]) (by rw [e 0 (by omega)]; exact h.li) (by rw [e 0 (by omega)]; exact h.sk)
  exact ⟨this.rows, this.bends, this.shares, this.seals, this.olds, this.hold, this.thr, this.ep, this.li, this.sk, this.dn, this.lz, this.lo⟩
theorem aLS2 (A : aM) (L S L' S' : Nat) : aLS (aLS A L S) L' S' = aLS A L' S' := by
  funext a k
  unfold aLS
  by_cases h : a = 8
  · by_cases h3 : k = 3
    · simp [h, h3]
    · by_cases h4 : k = 4
      · simp [h, h4]
      · simp [h, h3, h4]
  · simp [h]
theorem o6_move {σ : k_M} {A : aM} {s t : Nat} (hc : CRc (circ σ) A) (hi : aInv A) (hd : 0 < A 8 2) (hE : A 8 2 < 200) (hL : A 8 3 = 0) (hS : A 8 4 = 0) (ht1 : 1 ≤ t) (ht5 : t ≤ 5) {Q : Int32 → k_M → Prop} (hn : ¬ A 8 1 ≤ cnt (mv A s 7).1 → ∀ σ', K6 σ σ' → CRc (circ σ') (aLS A (mv A s 7).2.1 (mv A s 7).2.2) → Q (-5) σ') (hy : A 8 1 ≤ cnt (mv A s 7).1 → ∀ σ', K6 σ σ' → CRc (circ σ') (movA A s t) → Q (nI (cnt (mnus (A 8 0) (mv A s 7).2.2))) σ') : wp_X2_move σ (nI t) (nI s) Q := by
  unfold wp_X2_move
  have hcu := hi.cur hd
  have e7 : σ 4 7 = nI (A 8 1) := hc.thr hd
  have e6 : σ 4 6 = nI (A 8 0) := hc.hold
  have hte := te_lt (s := s) hi
  rw [e7, e6, n_and]
  refine k_lpI2 7 (fun k x σ' => x = nI (k + 1) ∧ K6 σ σ' ∧ CRc (circ σ') (aLS A (mv A s k).2.1 (mv A s k).2.2) ∧ σ' 3 5 = nI (mv A s k).1 ∧ (∀ m, (mv A s k).1.testBit m = true → ∀ j, j < t → σ' 15 (5 * m + j) = nI (mvP A m j))) 0 (by omega) ⟨rfl, ⟨rfl, rfl⟩, hc.ls (fun _ _ _ => rfl) (fun _ _ _ => rfl) (by have := hc.li; rw [hL] at this; exact this) (by have := hc.sk; rw [hS] at this; exact this), put_same, fun m a => by have := (mv_bit 0 m a); omega⟩ ?_
  rintro k hk x σ1 ⟨rfl, f1, f2, f3, f4⟩ B hB
  have hn1 : nI (k + 1) + (1 : Int32) = nI (k + 1 + 1) := nI_add (k + 1) 1
  have hlt3 := mv_lt (A := A) (s := s) k hk
  have hi1 := hi.ls hlt3.2.1 hlt3.2.2
  refine ⟨mv A s 7 = mv A s k, fun hmv => ?_, ?_⟩
  · rw [f3]
    have hcl := cnt_le (mv A s k).1
    refine s_bitCount hlt3.1 (pk_le (A 8 1) (cnt (mv A s k).1) (fun hg => ?_) (fun hg => ?_))
    · rw [hmv] at hy
      refine k_lpI2 7 (fun i x σ' => x = nI (i + 1) ∧ (∀ a, a ≠ 17 → σ' a = σ1 a) ∧ (∀ m, 1 ≤ m → m ≤ i → σ' 17 m = nI (wgt m (mv A s k).1 0))) 0 (by omega) ⟨rfl, fun _ _ => rfl, fun m a b => absurd b (by omega)⟩ ?_
      rintro i hi7 x σ2 ⟨rfl, g1, g2⟩ B2 hB2
      have hn2 : nI (i + 1) + (1 : Int32) = nI (i + 1 + 1) := nI_add (i + 1) 1
      rcases Nat.lt_or_ge i 7 with hlt | hge
      · refine br_f (nI_nlt (a := 7) (b := i + 1) (by omega) (by omega)) ?_
        rw [g1 3 (by decide), f3]
        refine s_weight (x := 0) (by omega) (by omega) hlt3.1 (by omega) ⟨vp_in_nI (by omega) (by omega), ?_⟩
        rw [nI_clamp (by omega)]
        refine hB2 hlt _ _ ⟨hn2, fun a ha => by rw [put_cell ha]; exact g1 a ha, fun m a b => ?_⟩
        rw [put_if]
        by_cases e : m = i + 1
        · rw [if_pos e, e]
        · rw [if_neg e]; exact g2 m a (by omega)
      · have hi2 : i = 7 := by omega
        subst hi2
        refine br_t (by decide) (s_fill7 (fun σ3 l1 l2 => s_fill8 (fun σ4 m1 m2 => ?_)))
        have hall : ∀ a, a ≠ 7 → a ≠ 8 → a ≠ 17 → σ4 a = σ1 a := fun a a1 a2 a3 => by rw [m1 a a2, l1 a a1, g1 a a3]
        refine s_pourTaken (H := A 8 0) (T := (mv A s k).1) (c0 := fun _ => 0) (f := fun m => wgt m (mv A s k).1 0) (P := mvP A) (by rw [hall 4 (by decide) (by decide) (by decide)]; exact f2.hold) hi.h256 (by rw [hall 3 (by decide) (by decide) (by decide)]; exact f3) hlt3.1 ht5 (fun m a b c j hj => by rw [hall 15 (by decide) (by decide) (by decide)]; exact f4 m c j hj) (fun m a b j => polyOf_lt hi b (tellN_lt A m) j) (fun m a b c => by rw [m1 17 (by decide), l1 17 (by decide)]; exact g2 m a b) (fun m => wgt_lt _ _ _) (fun i a b c => by rw [m1 7 (by decide), l2 i (by omega), pe_z]; rfl) (fun j hj => by rw [m2 j (by omega)]; rfl) (fun σ5 p1 p2 p3 => ?_)
        have hmvC : mvC A s = acf (fun _ => 0) (fun m => wgt m (mv A s k).1 0) (mvP A) (mv A s k).1 7 := by unfold mvC; rw [hmv]
        have hmovA : movA A s t = nxtA (aLS A (mv A s k).2.1 (mv A s k).2.2) (mnus (A 8 0) (mv A s k).2.2) t (fun j => mvC A s j % 23) (fun m => pe (mvC A s) t m) (mv A s k).2.1 (mv A s k).2.2 := by unfold movA; rw [hmv]
        rw [hmovA] at hy
        refine s_close (κ := circ σ1) (cf := fun j => mvC A s j % 23) (sh := fun m => pe (mvC A s) t m) (L := (mv A s k).2.1) (S := (mv A s k).2.2) f2 hi.h256 hE (fun a a1 a2 => ?_) (fun m a b c => by rw [p2 m a b c, hmvC]) (fun j hj => ?_) ?_ ?_ ?_ ?_ ?_ (fun σ6 k1 k2 => hy hg σ6 ⟨?_, ?_⟩ k2)
        · show σ5 (a + 4) = σ1 (a + 4)
          rw [p1 _ (by omega) (by omega), hall _ (by omega) (by omega) (by omega)]
        · rw [p3 j hj]
          show _ = nI (4 ^ (mvC A s j % 23) % 47)
          rw [← four_mod, hmvC]
        · rw [p1 4 (by decide) (by decide), hall 4 (by decide) (by decide) (by decide)]; exact f2.hold
        · rw [p1 4 (by decide) (by decide), hall 4 (by decide) (by decide) (by decide)]
        · rw [p1 4 (by decide) (by decide), hall 4 (by decide) (by decide) (by decide)]; exact f2.li
        · rw [p1 4 (by decide) (by decide), hall 4 (by decide) (by decide) (by decide)]; exact f2.sk
        · rw [p1 4 (by decide) (by decide), hall 4 (by decide) (by decide) (by decide)]
        · rw [k1.1, p1 1 (by decide) (by decide), hall 1 (by decide) (by decide) (by decide)]; exact f1.1
        · rw [k1.2, p1 2 (by decide) (by decide), hall 2 (by decide) (by decide) (by decide)]; exact f1.2
    · rw [hmv] at hn
      exact hn (by omega) σ1 f1 f2
  · rcases Nat.lt_or_ge k 7 with hlt | hge
    · refine br_f (nI_nlt (a := 7) (b := k + 1) (by omega) (by omega)) ?_
      rw [f3]
      have hcl := cnt_le (mv A s k).1
      refine s_bitCount hlt3.1 (pk_le (A 8 1) (cnt (mv A s k).1) (fun hg => ?_) (fun hg => ?_))
      · have := mv_stable (A := A) (s := s) (k := k) (by omega) (7 - k)
        rw [show k + (7 - k) = 7 by omega] at this
        exact this
      · refine s_has (Nat.lt_trans hte (by omega)) (by omega) (b_if ?_)
        by_cases hb : (teN A s).testBit (k + 1) = true
        · rw [if_pos hb]
          refine s_hear f2 hi1 (by omega) (by omega) (te_bit.mp hb).2 (fun hh => b1 ⟨vp_in_nI (by omega) (by omega), ?_⟩) (fun hh => b0 (hB hlt _ _ ?_))
          · have hh' : hon A (k + 1) := hh
            rw [nI_clamp (by omega), put_same]
            have hc2 : CRc (circ (k_put σ1 14 (k + 1) (nI (tellN (aLS A (mv A s k).2.1 (mv A s k).2.2) (k + 1))))) (aLS A (mv A s k).2.1 (mv A s k).2.2) := f2.via (fun a ha => put_cell (by omega)) rfl
            refine s_offer (T := (mv A s k).1) hc2 hi1 (by omega) (by omega) ht1 ht5 (tellN_lt _ _) (by rw [put_cell (by decide)]; exact f3) (fun σ2 g1 g2 g3 g4 g5 => hB hlt _ _ ?_)
            have hstep := mv_ho hg hb hh'
            rw [hstep]
            refine ⟨hn1, ⟨?_, ?_⟩, ?_, g5, fun m hm j hj => ?_⟩
            · rw [g1 1 (by decide) (by decide) (by decide) (by decide), put_cell (by decide)]; exact f1.1
            · rw [g1 2 (by decide) (by decide) (by decide) (by decide), put_cell (by decide)]; exact f1.2
            · rw [aLS2] at g4
              exact g4
            · by_cases e : m = k + 1
              · rw [e]; exact g3 j hj
              · have hm' : (mv A s k).1.testBit m = true := by
                  have hm2 : (offT A (k + 1) (mv A s k).1).testBit m = true := hm
                  unfold offT at hm2
                  by_cases hs : skN A (k + 1)
                  · rw [if_pos hs] at hm2; exact hm2
                  · rw [if_neg hs] at hm2
                    rcases bit_in.mp hm2 with z | z
                    · exact z
                    · exact absurd z e
                rw [g2 _ (by omega), put_cell (by decide)]
                exact f4 m hm' j hj
          · have hh' : ¬ hon A (k + 1) := hh
            have hstep := mv_li hg hb hh'
            rw [hstep]
            refine ⟨hn1, ⟨?_, ?_⟩, ?_, ?_, fun m hm j hj => ?_⟩
            · rw [put_cell (by decide), put_cell (by decide)]; exact f1.1
            · rw [put_cell (by decide), put_cell (by decide)]; exact f1.2
            · have g4 := f2.ls (κ' := circ (k_put (k_put σ1 14 (k + 1) (nI (tellN (aLS A (mv A s k).2.1 (mv A s k).2.2) (k + 1)))) 4 9 (nI ((aLS A (mv A s k).2.1 (mv A s k).2.2) 8 3 ||| 2 ^ (k + 1))))) (L := (mv A s k).2.1 ||| 2 ^ (k + 1)) (S := (mv A s k).2.2) (fun a a1 a2 => by show k_put (k_put _ _ _ _) 4 9 _ (a + 4) = _; rw [put_cell (by omega), put_cell (by omega)]) (fun q q1 q2 => by show k_put (k_put _ _ _ _) 4 9 _ 4 q = _; rw [put_slot q1, put_cell (by decide)]) put_same (by show k_put (k_put _ _ _ _) 4 9 _ 4 10 = _; rw [put_slot (by decide), put_cell (by decide)]; exact f2.sk)
              rw [aLS2] at g4
              exact g4
            · rw [put_cell (by decide), put_cell (by decide)]; exact f3
            · rw [put_cell (by decide), put_cell (by decide)]; exact f4 m hm j hj
        · rw [if_neg hb]
          refine hB hlt _ _ ?_
          rw [mv_no (fun z => hb z.2)]
          exact ⟨hn1, f1, f2, f3, f4⟩
    · have hk7 : k = 7 := by omega
      subst hk7
      exact br_t (by decide) rfl
theorem inv_move {A : aM} {s t : Nat} (hi : aInv A) (hE : A 8 2 < 200) (ht1 : 1 ≤ t) (ht5 : t ≤ 5) : aInv (movA A s t) := by
  have hlt3 := mv_lt (A := A) (s := s) 7 (by omega)
  refine (hi.ls hlt3.2.1 hlt3.2.2).nxt hE (mnus_lt hi.h256) ?_ ht1 ht5 (fun j => Nat.mod_lt _ (by omega)) (fun m _ _ _ => (pe_mod _ _ _).symm) hlt3.2.1 hlt3.2.2
  rw [mnus_bit hi.h256, hi.h0]
  rfl
