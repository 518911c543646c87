/-! spreading a polynomial -/
abbrev wrg (A : aM) (m i : Nat) : Prop := A 1 (5 * m + 2) = i ∧ A 1 (5 * m + 1) ≠ 0
abbrev grd (A : aM) (m i : Nat) : Prop := A 1 (5 * i + 3) = m
def cmpN (A : aM) (m k : Nat) : Nat := maskN (fun i => (A 8 0).testBit i && (decide (wrg A m i) || decide (grd A m i))) k
def misN (A : aM) (m k : Nat) : Nat := maskN (fun i => (A 8 0).testBit i && (!decide (wrg A m i) && decide (grd A m i))) k
abbrev skN (A : aM) (m : Nat) : Prop := cmpN A m 7 ≠ 0 ∧ A 1 (5 * m + 4) = 0
def offL (A : aM) (m L : Nat) : Nat := if skN A m then L else L ||| misN A m 7
def offS (A : aM) (m S : Nat) : Nat := if skN A m then S ||| 2 ^ m else S
def offT (A : aM) (m T : Nat) : Nat := if skN A m then T else T ||| 2 ^ m
def slipN (A : aM) (m i : Nat) : Nat := if A 1 (5 * m + 2) = i then A 1 (5 * m + 1) else 0
def polyOf (A : aM) (m v : Nat) : Nat → Nat := fun j => if j = 0 then v else if j < 5 then A 0 (5 * m + j) else 0
theorem polyOf_lt {A : aM} (hi : aInv A) {m v : Nat} (hm : m ≤ 7) (hv : v < 23) (j : Nat) : polyOf A m v j < 23 := by
  unfold polyOf
  split
  · exact hv
  · split
    · exact hi.rows _ (by omega)
    · omega
theorem slip_le {A : aM} (hi : aInv A) {m i : Nat} (h1 : 1 ≤ m) (h7 : m ≤ 7) : slipN A m i ≤ 22 := by
  unfold slipN
  split
  · exact hi.bends m 1 h1 h7 (by omega)
  · omega
theorem slip_0 {A : aM} {m i : Nat} : slipN A m i = 0 ↔ ¬ wrg A m i := by
  unfold slipN wrg
  by_cases h : A 1 (5 * m + 2) = i
  · rw [if_pos h]
    exact ⟨fun z w => w.2 z, fun z => Classical.byContradiction (fun w => z ⟨h, w⟩)⟩
  · rw [if_neg h]
    exact ⟨fun _ w => h w.1, fun _ => rfl⟩
theorem slip_fit {a s : Nat} (ha : a < 23) (hs : s ≤ 22) : (a + s) % 23 = a ↔ s = 0 := by omega
theorem maskN_ne {p : Nat → Bool} {k : Nat} (h : p (k + 1) = true) : maskN p (k + 1) ≠ 0 := fun z => by
  have := maskN_bit p (k + 1) (k + 1)
  rw [z, Nat.zero_testBit, h] at this
  simp at this
theorem maskN_no {p : Nat → Bool} {k : Nat} (h : ¬ p (k + 1) = true) : maskN p (k + 1) = maskN p k := if_neg h
theorem maskN_ye {p : Nat → Bool} {k : Nat} (h : p (k + 1) = true) : maskN p (k + 1) = maskN p k ||| 2 ^ (k + 1) := if_pos h
theorem s_bendA {σ : k_M} {A : aM} (hc : CRc (circ σ) A) {m w : Nat} (h1 : 1 ≤ m) (h7 : m ≤ 7) (hw : w < 5) {Q : Int32 → Prop} (hq : Q (nI (A 1 (5 * m + w)))) : wp_X0_bend σ (nI m) (nI w) Q := by
  have e : σ 6 (5 * m + w) = nI (A 1 (5 * m + w)) := hc.bends _ (by omega) (by omega)
  exact s_bend h7 hw (by rw [e]; exact hq)
theorem b_lt {A : aM} (hi : aInv A) {m w : Nat} (h1 : 1 ≤ m) (h7 : m ≤ 7) (hw : w < 5) : A 1 (5 * m + w) < 23 := by
  have := hi.bends m w h1 h7 hw
  have := aHi_le w
  omega
theorem s_sent {σ : k_M} {A : aM} {P : Nat → Nat} {m i t : Nat} (hc : CRc (circ σ) A) (hi : aInv A) (h1 : 1 ≤ m) (h7 : m ≤ 7) (hi1 : i ≤ 7) (ht : t ≤ 5) (hp : ∀ j, j < t → σ 15 (5 * m + j) = nI (P j)) (hP : ∀ j, P j < 23) {Q : Int32 → Prop} (hq : Q (nI ((pe P t i + slipN A m i) % 23))) : wp_X2_sent σ (nI m) (nI i) (nI t) Q := by
  unfold wp_X2_sent
  have hb := b_lt hi (w := 2) h1 h7 (by omega)
  have hsl := slip_le hi (i := i) h1 h7
  refine s_bendA hc h1 h7 (w := 2) (by omega) ⟨fun y => y = nI (slipN A m i), ?_, pk_eq (A 1 (5 * m + 2)) i (fun h => s_bendA hc h1 h7 (w := 1) (by omega) ?_) (fun h => ?_)⟩
  · rintro y rfl
    exact s_polynomialAt hp hP h7 (by omega) ht (s_plus (Nat.lt_trans (pe_lt _ _ _) (by omega)) (by omega) hq)
  · unfold slipN; rw [if_pos h]
  · unfold slipN; rw [if_neg h]; rfl
theorem s_offer {σ : k_M} {A : aM} {m t v T : Nat} (hc : CRc (circ σ) A) (hi : aInv A) (h1 : 1 ≤ m) (h7 : m ≤ 7) (ht1 : 1 ≤ t) (ht : t ≤ 5) (hv : v < 23) (hT : σ 3 5 = nI T) {Q : k_M → Prop} (hq : ∀ σ', (∀ a, a ≠ 3 → a ≠ 4 → a ≠ 15 → a ≠ 16 → σ' a = σ a) → (∀ q, (q < 5 * m ∨ 5 * m + 5 ≤ q) → σ' 15 q = σ 15 q) → (∀ j, j < t → σ' 15 (5 * m + j) = nI (polyOf A m v j)) → CRc (circ σ') (aLS A (offL A m (A 8 3)) (offS A m (A 8 4))) → σ' 3 5 = nI (offT A m T) → Q σ') : wp_X2_offer σ (nI m) (nI v) (nI t) Q := by
  unfold wp_X2_offer
  have hP := polyOf_lt hi (m := m) (v := v) h7 hv
  refine k_lpI2 t (fun j k σ' => k = nI j ∧ (∀ a, a ≠ 15 → a ≠ 16 → σ' a = σ a) ∧ (∀ q, (q < 5 * m ∨ 5 * m + 5 ≤ q) → σ' 15 q = σ 15 q) ∧ (∀ i, i < j → σ' 15 (5 * m + i) = nI (polyOf A m v i)) ∧ (∀ i, i < j → σ' 16 i = nI (4 ^ polyOf A m v i % 47))) 0 (by omega) ⟨rfl, fun _ _ _ => rfl, fun _ _ => rfl, fun i h => absurd h (by omega), fun i h => absurd h (by omega)⟩ ?_
  rintro j hj k σ1 ⟨rfl, f1, f2, f3, f4⟩ B hB
  refine ⟨j = t, fun hjt => ?_, ?_⟩
  · subst hjt
    have hc1 : CRc (circ σ1) A := by
      have e : ∀ i, i < 10 → circ σ1 i = circ σ i := fun i hi => f1 (i + 4) (by omega) (by omega)
      have := hc.ls (κ' := circ σ1) (L := A 8 3) (S := A 8 4) (fun a a1 a2 => e a (by omega)) (fun q _ _ => by rw [e 0 (by omega)]) (by rw [e 0 (by omega)]; exact hc.li) (by rw [e 0 (by omega)]; exact hc.sk)
      refine ⟨this.rows, this.bends, this.shares, this.seals, this.olds, this.hold, this.thr, this.ep, this.li, this.sk, this.dn, this.lz, this.lo⟩
    have e6 : σ1 4 6 = nI (A 8 0) := hc1.hold
    refine k_lpI3 7 (fun i x y k => x = nI (cmpN A m i) ∧ y = nI (misN A m i) ∧ k = nI (i + 1)) 0 (by omega) ⟨rfl, rfl, rfl⟩ ?_
    rintro i hi7 x y k ⟨rfl, rfl, rfl⟩ B2 hB2
    have hn1 : nI (i + 1) + (1 : Int32) = nI (i + 1 + 1) := nI_add (i + 1) 1
    rcases Nat.lt_or_ge i 7 with hlt | hge
    · refine br_f (nI_nlt (a := 7) (b := i + 1) (by omega) (by omega)) ?_
      rw [e6]
      refine s_has (Nat.lt_trans hi.h256 (by omega)) (by omega) (b_if ?_)
      by_cases hb : (A 8 0).testBit (i + 1) = true
      · rw [if_pos hb]
        refine s_sent hc1 hi h1 h7 (by omega) ht f3 hP (s_fitting (c := polyOf A m v) f4 (Nat.mod_lt _ (by omega)) (by omega) ht ?_)
        have hsl := slip_le hi (i := i + 1) h1 h7
        have hpe := pe_lt (polyOf A m v) j (i + 1)
        by_cases hw : wrg A m (i + 1)
        · rw [if_neg (fun z => slip_0.mp ((slip_fit hpe hsl).mp z) hw)]
          refine ⟨True, fun _ => s_only (by omega) (b0 ?_), b0 trivial⟩
          refine hB2 hlt _ _ _ ⟨?_, ?_, hn1⟩
          · rw [n_or]
            show _ = nI (maskN _ (i + 1))
            rw [maskN_ye (by simp only [hb, Bool.true_and, Bool.or_eq_true, decide_eq_true_eq]; exact Or.inl hw)]
            rfl
          · rw [n_or0]
            show _ = nI (maskN _ (i + 1))
            rw [maskN_no (by simp only [hb, Bool.true_and, Bool.and_eq_true, Bool.not_eq_true', decide_eq_false_iff_not]; exact fun z => z.1 hw)]
            rfl
        · rw [if_pos ((slip_fit hpe hsl).mpr (slip_0.mpr hw))]
          refine ⟨grd A m (i + 1), fun hg => s_only (by omega) (b1 (s_only (by omega) ?_)), b1 (s_bendA hc1 (by omega) (by omega) (w := 3) (by omega) (pk_eq (A 1 (5 * (i + 1) + 3)) m (fun hg => hg) (fun hg => ?_) rfl rfl (Nat.lt_trans (b_lt hi (by omega) (by omega) (by omega)) (by omega))))⟩
          · refine hB2 hlt _ _ _ ⟨?_, ?_, hn1⟩
            · rw [n_or]
              show _ = nI (maskN _ (i + 1))
              rw [maskN_ye (by simp only [hb, Bool.true_and, Bool.or_eq_true, decide_eq_true_eq]; exact Or.inr hg)]
              rfl
            · rw [n_or]
              show _ = nI (maskN _ (i + 1))
              rw [maskN_ye (by simp only [hb, Bool.true_and, Bool.and_eq_true, Bool.not_eq_true', decide_eq_false_iff_not, decide_eq_true_eq]; exact ⟨hw, hg⟩)]
              rfl
          · refine hB2 hlt _ _ _ ⟨?_, ?_, hn1⟩
            · show _ = nI (maskN _ (i + 1))
              rw [maskN_no (by simp only [hb, Bool.true_and, Bool.or_eq_true, decide_eq_true_eq]; exact fun z => z.elim hw hg)]
              rfl
            · show _ = nI (maskN _ (i + 1))
              rw [maskN_no (by simp only [hb, Bool.true_and, Bool.and_eq_true, Bool.not_eq_true', decide_eq_false_iff_not, decide_eq_true_eq]; exact fun z => hg z.2)]
              rfl
      · rw [if_neg hb]
        refine hB2 hlt _ _ _ ⟨?_, ?_, hn1⟩
        · show _ = nI (maskN _ (i + 1))
          rw [maskN_no (pqb hb)]
          rfl
        · show _ = nI (maskN _ (i + 1))
          rw [maskN_no (pqb hb)]
          rfl
    · have hi2 : i = 7 := by omega
      subst hi2
      refine br_t (by decide) ?_
      have hcm : cmpN A m 7 < 256 := maskN_lt _ (by omega)
      have e9 : σ1 4 9 = nI (A 8 3) := hc1.li
      have e10 : σ1 4 10 = nI (A 8 4) := hc1.sk
      refine ⟨¬ skN A m, fun hs => s_only (by omega) ?_, pk_eq (cmpN A m 7) 0 (fun h => fun z => z.1 h) (fun h => s_bendA hc1 h1 h7 (w := 4) (by omega) (pk_eq (A 1 (5 * m + 4)) 0 (fun g => s_only (by omega) ?_) (fun g => fun z => g z.2) rfl rfl (Nat.lt_trans (b_lt hi (by omega) (by omega) (by omega)) (by omega))))⟩
      · rw [e9, n_or]
        have e35 : k_put σ1 4 9 (nI (A 8 3 ||| misN A m 7)) 3 5 = nI T := by
          rw [put_cell (by decide), f1 3 (by decide) (by decide)]; exact hT
        rw [e35, n_or]
        refine hq _ (fun a a1 a2 a3 a4 => by rw [put_cell a1, put_cell a2]; exact f1 a a3 a4) (fun q hq2 => by rw [put_cell (by decide), put_cell (by decide)]; exact f2 q hq2) (fun q hq2 => by rw [put_cell (by decide), put_cell (by decide)]; exact f3 q hq2) (hc1.ls (fun a a1 a2 => ?_) (fun q q1 q2 => ?_) ?_ ?_) ?_
        · show k_put (k_put _ _ _ _) 3 5 _ (a + 4) = _
          rw [put_cell (by omega), put_cell (by omega)]
        · show k_put (k_put _ _ _ _) 3 5 _ 4 q = _
          rw [put_cell (by decide), put_slot q1]
        · show k_put (k_put _ _ _ _) 3 5 _ 4 9 = _
          rw [put_cell (by decide), put_same]
          unfold offL
          rw [if_neg hs]
        · show k_put (k_put _ _ _ _) 3 5 _ 4 10 = _
          rw [put_cell (by decide), put_slot (by decide)]
          unfold offS
          rw [if_neg hs]
          exact e10
        · rw [put_same]
          unfold offT
          rw [if_neg hs]
      · have hs : skN A m := ⟨h, g⟩
        rw [e10, n_or]
        refine hq _ (fun a a1 a2 a3 a4 => by rw [put_cell a2]; exact f1 a a3 a4) (fun q hq2 => by rw [put_cell (by decide)]; exact f2 q hq2) (fun q hq2 => by rw [put_cell (by decide)]; exact f3 q hq2) (hc1.ls (fun a a1 a2 => ?_) (fun q q1 q2 => ?_) ?_ ?_) ?_
        · show k_put _ 4 10 _ (a + 4) = _
          rw [put_cell (by omega)]
        · show k_put _ 4 10 _ 4 q = _
          rw [put_slot q2]
        · show k_put _ 4 10 _ 4 9 = _
          rw [put_slot (by decide)]
          unfold offL
          rw [if_pos hs]
          exact e9
        · show k_put _ 4 10 _ 4 10 = _
          rw [put_same]
          unfold offS
          rw [if_pos hs]
        · rw [put_cell (by decide), f1 3 (by decide) (by decide)]
          unfold offT
          rw [if_pos hs]
          exact hT
  · refine pk_le t j (fun h => by omega) (fun h => br_f (nI_ge (b := 5) (by omega) (by omega)) ?_)
    rw [k_l5, pk_mul, nI_add, show m * 5 + j = 5 * m + j by omega, nI_clamp (by omega), nI_clamp (by omega)]
    refine ⟨fun y => y = nI (polyOf A m v j), ?_, pk_eq j 0 (fun h0 => ?_) (fun h0 => ?_)⟩
    · rintro y rfl
      rw [put_same]
      refine ⟨vp_in_nI (by omega) (by omega), vp_in_nI (by omega) (by omega), s_sealOf (Nat.lt_trans (hP j) (by omega)) ⟨vp_in_nI (by omega) (by omega), hB h _ _ ⟨by rw [k_l1, nI_add], fun a a1 a2 => by rw [put_cell a2, put_cell a1]; exact f1 a a1 a2, fun q hq2 => by rw [put_cell (by decide), put_slot (by omega)]; exact f2 q hq2, fun i hi2 => ?_, fun i hi2 => ?_⟩⟩⟩
      · rw [put_cell (by decide), put_if]
        by_cases e : i = j
        · rw [if_pos (by omega), e]
        · rw [if_neg (by omega)]
          exact f3 i (by omega)
      · rw [put_if]
        by_cases e : i = j
        · rw [if_pos e, e]
        · rw [if_neg e, put_cell (by decide)]
          exact f4 i (by omega)
    · unfold polyOf; rw [if_pos h0]
    · refine ⟨vp_in_nI (by omega) (by omega), ?_⟩
      rw [f1 5 (by decide) (by decide)]
      unfold polyOf
      rw [if_neg h0, if_pos (by omega)]
      exact hc.rows _ (by omega)
/-! pouring -/
def acf (c0 f : Nat → Nat) (P : Nat → Nat → Nat) (T : Nat) : Nat → Nat → Nat
  | 0, j => c0 j
  | k + 1, j => acf c0 f P T k j + (if T.testBit (k + 1) then f (k + 1) * P (k + 1) j else 0)
theorem pe_step (c P : Nat → Nat) (f t x : Nat) : (pe c t x + f * pe P t x % 23) % 23 = pe (fun j => c j + f * P j) t x := by
  unfold pe
  rw [psum_add, psum_smul]
  simp [Nat.add_mod, Nat.mul_mod]
theorem acf_no {c0 f : Nat → Nat} {P : Nat → Nat → Nat} {T k : Nat} (h : ¬ T.testBit (k + 1) = true) : acf c0 f P T (k + 1) = acf c0 f P T k := by
  funext j
  simp only [acf]
  rw [if_neg h, Nat.add_zero]
theorem acf_ye {c0 f : Nat → Nat} {P : Nat → Nat → Nat} {T k : Nat} (h : T.testBit (k + 1) = true) : acf c0 f P T (k + 1) = fun j => acf c0 f P T k j + f (k + 1) * P (k + 1) j := by
  funext j
  simp only [acf]
  rw [if_pos h]
theorem s_pour {σ : k_M} {H t m f : Nat} {c P : Nat → Nat} (h46 : σ 4 6 = nI H) (hH : H < 256) (h1 : 1 ≤ m) (h7 : m ≤ 7) (ht : t ≤ 5) (hp : ∀ j, j < t → σ 15 (5 * m + j) = nI (P j)) (hP : ∀ j, P j < 23) (hf : σ 17 m = nI f) (hf2 : f < 23) (hs : ∀ i, 1 ≤ i → i ≤ 7 → H.testBit i = true → σ 7 i = nI (pe c t i)) (he : ∀ j, j < t → σ 8 j = nI (4 ^ c j % 47)) {Q : k_M → Prop} (hq : ∀ σ', (∀ a, a ≠ 7 → a ≠ 8 → σ' a = σ a) → (∀ i, 1 ≤ i → i ≤ 7 → H.testBit i = true → σ' 7 i = nI (pe (fun j => c j + f * P j) t i)) → (∀ j, j < t → σ' 8 j = nI (4 ^ (c j + f * P j) % 47)) → Q σ') : wp_X2_pour σ (nI m) (nI t) Q := by
  unfold wp_X2_pour
  refine k_lpI2 7 (fun i k σ' => k = nI (i + 1) ∧ (∀ a, a ≠ 7 → σ' a = σ a) ∧ (∀ q, 1 ≤ q → q ≤ i → H.testBit q = true → σ' 7 q = nI (pe (fun j => c j + f * P j) t q)) ∧ (∀ q, i < q → σ' 7 q = σ 7 q)) 0 (by omega) ⟨rfl, fun _ _ => rfl, fun q a b => absurd b (by omega), fun _ _ => rfl⟩ ?_
  rintro i hi7 k σ1 ⟨rfl, f1, f2, f3⟩ B hB
  have hn1 : nI (i + 1) + (1 : Int32) = nI (i + 1 + 1) := nI_add (i + 1) 1
  rcases Nat.lt_or_ge i 7 with hlt | hge
  · refine br_f (nI_nlt (a := 7) (b := i + 1) (by omega) (by omega)) ?_
    rw [f1 4 (by decide), h46]
    refine s_has (by omega) (by omega) (b_if ?_)
    by_cases hb : H.testBit (i + 1) = true
    · rw [if_pos hb]
      refine ⟨vp_in_nI (by omega) (by omega), s_polynomialAt (c := P) (fun j hj => by rw [f1 15 (by decide)]; exact hp j hj) hP h7 (by omega) ht ?_⟩
      have hpe := pe_lt P t (i + 1)
      have hpc := pe_lt c t (i + 1)
      rw [nI_clamp (by omega), f1 17 (by decide), hf]
      refine s_times (by omega) (by omega) ⟨vp_in_nI (by omega) (by omega), ?_⟩
      rw [nI_clamp (by omega), f3 (i + 1) (by omega), hs (i + 1) (by omega) (by omega) hb]
      refine s_plus (by omega) (Nat.lt_trans (Nat.mod_lt _ (by omega : 23 > 0)) (by omega)) ⟨vp_in_nI (by omega) (by omega), hB hlt _ _ ⟨hn1, fun a ha => by rw [put_cell ha]; exact f1 a ha, fun q a b d => ?_, fun q hq2 => by rw [put_slot (by omega)]; exact f3 q (by omega)⟩⟩
      rw [put_if]
      by_cases e : q = i + 1
      · rw [if_pos e, pe_step, e]
      · rw [if_neg e]
        exact f2 q a (by omega) d
    · rw [if_neg hb]
      refine hB hlt _ _ ⟨hn1, f1, fun q a b d => ?_, fun q hq2 => f3 q (by omega)⟩
      by_cases e : q = i + 1
      · rw [e] at d; exact absurd d hb
      · exact f2 q a (by omega) d
  · have hi2 : i = 7 := by omega
    subst hi2
    refine br_t (by decide) ?_
    refine k_lpI2 t (fun j k σ' => k = nI j ∧ (∀ a, a ≠ 8 → σ' a = σ1 a) ∧ (∀ q, q < j → σ' 8 q = nI (4 ^ (c q + f * P q) % 47)) ∧ (∀ q, j ≤ q → σ' 8 q = σ 8 q)) 0 (by omega) ⟨rfl, fun _ _ => rfl, fun q b => absurd b (by omega), fun q _ => by rw [f1 8 (by decide)]⟩ ?_
    rintro j hj k σ2 ⟨rfl, g1, g2, g3⟩ B2 hB2
    rcases Nat.lt_or_ge j t with hlt | hge2
    · refine br_f (nI_ge hlt (by omega)) (br_f (nI_ge (b := 5) (by omega) (by omega)) ?_)
      rw [k_l5, pk_mul, nI_add, show m * 5 + j = 5 * m + j by omega, nI_clamp (by omega), nI_clamp (by omega), nI_clamp (by omega), g1 15 (by decide), f1 15 (by decide), hp j hlt, g1 17 (by decide), f1 17 (by decide), hf, g3 j (by omega), he j hlt]
      have h4 := four_lt (P j)
      have h5 := four_lt (c j)
      refine ⟨vp_in_nI (by omega) (by omega), s_sealOf (Nat.lt_trans (hP j) (by omega)) ⟨vp_in_nI (by omega) (by omega), s_raised (by omega) (by omega) ⟨vp_in_nI (by omega) (by omega), ?_⟩⟩⟩
      rw [four_pow]
      have h6 := four_lt (P j * f)
      refine s_joined (by omega) (by omega) ⟨vp_in_nI (by omega) (by omega), hB2 hlt _ _ ⟨by rw [k_l1, nI_add], fun a ha => by rw [put_cell ha]; exact g1 a ha, fun q hq2 => ?_, fun q hq2 => by rw [put_slot (by omega)]; exact g3 q (by omega)⟩⟩
      rw [put_if]
      by_cases e : q = j
      · rw [if_pos e, four_mul, e, Nat.mul_comm (P j) f]
      · rw [if_neg e]
        exact g2 q (by omega)
    · have e : j = t := by omega
      subst e
      refine br_t (nI_le (Nat.le_refl _) (by omega)) (hq σ2 (fun a a1 a2 => by rw [g1 a a2]; exact f1 a a1) (fun q a b d => by rw [g1 7 (by decide)]; exact f2 q a b d) g2)
theorem s_pourTaken {σ : k_M} {H T t : Nat} {c0 f : Nat → Nat} {P : Nat → Nat → Nat} (h46 : σ 4 6 = nI H) (hH : H < 256) (h35 : σ 3 5 = nI T) (hT : T < 256) (ht : t ≤ 5) (hp : ∀ m, 1 ≤ m → m ≤ 7 → T.testBit m = true → ∀ j, j < t → σ 15 (5 * m + j) = nI (P m j)) (hP : ∀ m, 1 ≤ m → m ≤ 7 → ∀ j, P m j < 23) (hf : ∀ m, 1 ≤ m → m ≤ 7 → T.testBit m = true → σ 17 m = nI (f m)) (hf2 : ∀ m, f m < 23) (hs : ∀ i, 1 ≤ i → i ≤ 7 → H.testBit i = true → σ 7 i = nI (pe c0 t i)) (he : ∀ j, j < t → σ 8 j = nI (4 ^ c0 j % 47)) {Q : k_M → Prop} (hq : ∀ σ', (∀ a, a ≠ 7 → a ≠ 8 → σ' a = σ a) → (∀ i, 1 ≤ i → i ≤ 7 → H.testBit i = true → σ' 7 i = nI (pe (acf c0 f P T 7) t i)) → (∀ j, j < t → σ' 8 j = nI (4 ^ acf c0 f P T 7 j % 47)) → Q σ') : wp_X2_pourTaken σ (nI t) Q := by
  unfold wp_X2_pourTaken
  refine k_lpI2 7 (fun k x σ' => x = nI (k + 1) ∧ (∀ a, a ≠ 7 → a ≠ 8 → σ' a = σ a) ∧ (∀ i, 1 ≤ i → i ≤ 7 → H.testBit i = true → σ' 7 i = nI (pe (acf c0 f P T k) t i)) ∧ (∀ j, j < t → σ' 8 j = nI (4 ^ acf c0 f P T k j % 47))) 0 (by omega) ⟨rfl, fun _ _ _ => rfl, hs, he⟩ ?_
  rintro k hk x σ1 ⟨rfl, f1, f2, f3⟩ B hB
  have hn1 : nI (k + 1) + (1 : Int32) = nI (k + 1 + 1) := nI_add (k + 1) 1
  rcases Nat.lt_or_ge k 7 with hlt | hge
  · refine br_f (nI_nlt (a := 7) (b := k + 1) (by omega) (by omega)) ?_
    rw [f1 3 (by decide) (by decide), h35]
    refine s_has (by omega) (by omega) (b_if ?_)
    by_cases hb : T.testBit (k + 1) = true
    · rw [if_pos hb]
      refine s_pour (H := H) (f := f (k + 1)) (c := acf c0 f P T k) (P := P (k + 1)) (by rw [f1 4 (by decide) (by decide)]; exact h46) hH (by omega) (by omega) ht (fun j hj => by rw [f1 15 (by decide) (by decide)]; exact hp (k + 1) (by omega) (by omega) hb j hj) (hP (k + 1) (by omega) (by omega)) (by rw [f1 17 (by decide) (by decide)]; exact hf (k + 1) (by omega) (by omega) hb) (hf2 _) f2 f3 (fun σ' g1 g2 g3 => hB hlt _ _ ⟨hn1, fun a a1 a2 => by rw [g1 a a1 a2]; exact f1 a a1 a2, ?_, ?_⟩)
      · rw [acf_ye hb]; exact g2
      · rw [acf_ye hb]; exact g3
    · rw [if_neg hb]
      refine hB hlt _ _ ⟨hn1, f1, ?_, ?_⟩
      · rw [acf_no hb]; exact f2
      · rw [acf_no hb]; exact f3
  · have hk7 : k = 7 := by omega
    subst hk7
    exact br_t (by decide) (hq σ1 f1 f2 f3)
