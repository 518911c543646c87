/-! losing, opening, rebuilding, stealing -/
def aHS (A : aM) (H : Nat) (sh : Nat → Nat) : aM := fun a k => if a = 2 then sh k else if a = 8 then (if k = 0 then H else A 8 k) else A a k
section
variable {κ κ' : k_M} {s s' : Nat → Int32} {A : aM}
theorem CRc.hs {H : Nat} {sh : Nat → Nat} (h : CRc κ A) (e : ∀ a, 1 ≤ a → a ≤ 9 → a ≠ 3 → κ' a = κ a) (e0 : ∀ k, k ≠ 6 → κ' 0 k = κ 0 k) (e6 : κ' 0 6 = nI H) (e3 : ∀ m, 1 ≤ m → m ≤ 7 → H.testBit m = true → κ' 3 m = nI (sh m)) : CRc κ' (aHS A H sh) := by
  refine ⟨?_, ?_, e3, ?_, ?_, e6, fun z => (e0 7 (by omega)).trans (h.thr z), (e0 8 (by omega)).trans h.ep, (e0 9 (by omega)).trans h.li, (e0 10 (by omega)).trans h.sk, (e0 11 (by omega)).trans h.dn, ?_, ?_⟩
  · rw [e 1 (by omega) (by omega) (by omega)]; exact h.rows
  · rw [e 2 (by omega) (by omega) (by omega)]; exact h.bends
  · rw [e 4 (by omega) (by omega) (by omega)]; exact h.seals
  · rw [e 5 (by omega) (by omega) (by omega)]; exact h.olds
  · rw [e 6 (by omega) (by omega) (by omega)]; exact h.lz
  · rw [e 7 (by omega) (by omega) (by omega), e 8 (by omega) (by omega) (by omega), e 9 (by omega) (by omega) (by omega)]; exact h.lo
theorem CRm.hs {H : Nat} {sh : Nat → Nat} (h : CRm s A) (hi : aInv A) (e : ∀ q, q < 371 → (q < 41 ∨ 48 ≤ q) → s' q = s q) (e3 : ∀ m, 1 ≤ m → m ≤ 7 → s' (40 + m) = if H.testBit m then nI (sh m) else -6) : CRm s' (aHS A H sh) := by
  have z := hi.z24
  have ze := hi.e200
  refine ⟨fun k hk => (e _ (by omega) (by omega)).trans (h.rows k hk), fun m w a b c => (e _ (by omega) (by omega)).trans (h.bends m w a b c), e3, fun j a b => ?_, fun k a => ?_, (e _ (by omega) (by omega)).trans h.thr, (e _ (by omega) (by omega)).trans h.ep, (e _ (by omega) (by omega)).trans h.lz, (e _ (by omega) (by omega)).trans h.dn, (e _ (by omega) (by omega)).trans h.li, (e _ (by omega) (by omega)).trans h.sk, fun i a => ?_⟩
  · have b' : j < A 8 1 := b
    have := (hi.cur a).2.1
    exact (e _ (by omega) (by omega)).trans (h.seals j a b)
  · have a' : k < A 8 2 := a
    exact (e _ (by omega) (by omega)).trans (h.olds k a)
  · have a' : i < A 8 6 := a
    have := h.lo i a
    exact ⟨(e _ (by omega) (by omega)).trans this.1, (e _ (by omega) (by omega)).trans this.2.1, (e _ (by omega) (by omega)).trans this.2.2⟩
theorem aInv.hs {H : Nat} {sh : Nat → Nat} (h : aInv A) (hd : 0 < A 8 2) (hH : H < 256) (hH0 : H.testBit 0 = false) (hsh : ∀ m, 1 ≤ m → m ≤ 7 → H.testBit m = true → sh m = pe (A 3) (A 8 1) m) : aInv (aHS A H sh) := ⟨h.rows, h.bends, hH, hH0, h.e200, h.l256, h.s256, h.z24, h.cur, h.olds, h.cf, fun z => absurd z (Nat.ne_of_gt hd), hsh, h.lo, h.srt, h.c9⟩
end
theorem K6.refl (σ : k_M) : K6 σ σ := ⟨rfl, rfl⟩
theorem K7.refl (σ : k_M) : K7 σ σ := ⟨rfl, rfl, rfl, rfl⟩
theorem K7.of1 {τ τ' : k_M} (h : ∀ a, a ≠ 1 → τ' a = τ a) : K7 τ τ' := ⟨by rw [h 0 (by decide)], h 2 (by decide), h 6 (by decide), h 7 (by decide)⟩
/-- losing -/
theorem bit_out {h m i : Nat} (hh : h < 256) : (mnus h (2 ^ m)).testBit i = true ↔ h.testBit i = true ∧ i ≠ m := by
  rw [mnus_bit hh, Nat.testBit_two_pow, Bool.and_eq_true, Bool.not_eq_true', decide_eq_false_iff_not]
  exact ⟨fun z => ⟨z.1, fun e => z.2 e.symm⟩, fun z => ⟨z.1, fun e => z.2 e.symm⟩⟩
theorem o6_lose {σ : k_M} {A : aM} {m : Nat} (hc : CRc (circ σ) A) (hi : aInv A) (hm : m ≤ 7) {Q : Int32 → k_M → Prop} (hq : ∀ σ', K6 σ σ' → CRc (circ σ') (aHS A (mnus (A 8 0) (2 ^ m)) (A 2)) → Q (nI (cnt (mnus (A 8 0) (2 ^ m)))) σ') : wp_X2_lose σ (nI m) Q := by
  unfold wp_X2_lose
  have e : σ 4 6 = nI (A 8 0) := hc.hold
  refine s_only (by omega) ?_
  rw [e, n_mnus, put_same]
  refine s_bitCount (mnus_lt hi.h256) (hq _ ⟨put_cell (by decide), put_cell (by decide)⟩ (hc.hs (fun a a1 a2 a3 => put_cell (by omega)) (fun k hk => put_slot hk) put_same (fun i i1 i2 i3 => ?_)))
  show k_put σ 4 6 _ 7 i = _
  rw [put_cell (by decide)]
  exact hc.shares i i1 i2 ((bit_out hi.h256).mp i3).1
theorem inv_lose {A : aM} {m : Nat} (hi : aInv A) (hd : 0 < A 8 2) : aInv (aHS A (mnus (A 8 0) (2 ^ m)) (A 2)) :=
  hi.hs hd (mnus_lt hi.h256) (by rw [mnus_bit hi.h256, hi.h0]; rfl) (fun i i1 i2 i3 => hi.sh i i1 i2 ((bit_out hi.h256).mp i3).1)
theorem o7_lose {τ : k_M} {A : aM} {m : Nat} (hm : CRm (τ 1) A) (hi : aInv A) (hd : 0 < A 8 2) (h1 : 1 ≤ m) (h7 : m ≤ 7) {Q : Int32 → k_M → Prop} (hq : ∀ τ', K7 τ τ' → CRm (τ' 1) (aHS A (mnus (A 8 0) (2 ^ m)) (A 2)) → Q (nI (cnt (mnus (A 8 0) (2 ^ m)))) τ') : wp_X7_forget τ (nI m) Q := by
  unfold wp_X7_forget
  rw [k_l40, nI_add, nI_clamp (by omega)]
  have hm' : CRm (k_put τ 1 (40 + m) (-6) 1) (aHS A (mnus (A 8 0) (2 ^ m)) (A 2)) := by
    refine hm.hs hi (fun q q1 q2 => put_slot (by omega)) (fun i i1 i2 => ?_)
    rw [put_if]
    by_cases e : i = m
    · rw [if_pos (by omega), if_neg (fun z => ((bit_out hi.h256).mp z).2 e)]
    · rw [if_neg (by omega), hm.shares i i1 i2]
      by_cases hb : (A 8 0).testBit i = true
      · rw [if_pos hb, if_pos ((bit_out hi.h256).mpr ⟨hb, e⟩)]
      · rw [if_neg hb, if_neg (fun z => hb ((bit_out hi.h256).mp z).1)]
  have hi' := inv_lose (m := m) hi hd
  refine ⟨vp_in_nI (by omega) (by omega), s_having hm' hi' (s_bits (Nat.lt_trans hi'.h256 (by omega)) (hq _ (K7.of1 (fun a ha => put_cell ha)) hm'))⟩
theorem pq1 {b : Bool} {c : Prop} [Decidable c] (h1 : b = true) (h2 : c) : (b && decide c) = true := by simp [h1, h2]
theorem pq1n {b : Bool} {c : Prop} [Decidable c] (h1 : b = true) (h2 : ¬ c) : (b && !decide c) = true := by simp [h1, h2]
theorem pq0 {b : Bool} {c : Prop} [Decidable c] (h2 : ¬ c) : ¬ (b && decide c) = true := by simp [h2]
theorem pq0n {b : Bool} {c : Prop} [Decidable c] (h2 : c) : ¬ (b && !decide c) = true := by simp [h2]
theorem pqb {b c : Bool} (h : ¬ b = true) : ¬ (b && c) = true := by simp [h]
/-- who tells what fits -/
abbrev hon (A : aM) (m : Nat) : Prop := tellN A m = pe (A 3) (A 8 1) m
def teN (A : aM) (s : Nat) : Nat := s &&& A 8 0
def liaN (A : aM) (s k : Nat) : Nat := maskN (fun m => (teN A s).testBit m && !decide (hon A m)) k
def gooN (A : aM) (s k : Nat) : Nat := maskN (fun m => (teN A s).testBit m && decide (hon A m)) k
theorem te_lt {A : aM} {s : Nat} (hi : aInv A) : teN A s < 256 := and_lt hi.h256
theorem te_bit {A : aM} {s m : Nat} : (teN A s).testBit m = true ↔ s.testBit m = true ∧ (A 8 0).testBit m = true := by
  unfold teN
  rw [Nat.testBit_and, Bool.and_eq_true]
theorem h_mem {A : aM} {m : Nat} (hi : aInv A) (hb : (A 8 0).testBit m = true) : 1 ≤ m ∧ m ≤ 7 := by
  constructor
  · exact Nat.pos_of_ne_zero (fun z => by rw [z, hi.h0] at hb; exact absurd hb (by decide))
  · exact Nat.not_lt.mp (fun z => by
      rw [Nat.testBit_lt_two_pow (Nat.lt_of_lt_of_le hi.h256 (Nat.pow_le_pow_right (n := 2) (i := 8) (j := m) (by omega) (by omega)))] at hb
      exact absurd hb (by decide))
theorem goo_eq {A : aM} {s : Nat} (hi : aInv A) : mnus (teN A s) (liaN A s 7) = gooN A s 7 := by
  apply Nat.eq_of_testBit_eq
  intro i
  rw [mnus_bit (te_lt hi)]
  unfold liaN gooN
  rw [maskN_bit, maskN_bit]
  by_cases hb : (teN A s).testBit i = true
  · have hr := h_mem hi (te_bit.mp hb).2
    rw [hb]
    by_cases hh : hon A i
    · simp [hh, hr.1, hr.2]
    · simp [hh, hr.1, hr.2]
  · have : (teN A s).testBit i = false := by simpa using hb
    rw [this]
    simp
theorem s_hear {σ : k_M} {A : aM} (hc : CRc (circ σ) A) (hi : aInv A) {m : Nat} (h1 : 1 ≤ m) (h7 : m ≤ 7) (hb : (A 8 0).testBit m = true) {Q : Int32 → k_M → Prop} (hy : hon A m → Q 1 (k_put σ 14 m (nI (tellN A m)))) (hn : ¬ hon A m → Q 0 (k_put (k_put σ 14 m (nI (tellN A m))) 4 9 (nI (A 8 3 ||| 2 ^ m)))) : wp_X2_hear σ (nI m) Q := by
  unfold wp_X2_hear
  refine s_tells hc hi h1 h7 hb ⟨vp_in_nI (by omega) (by omega), vp_in_nI (by omega) (by omega), ?_⟩
  rw [nI_clamp (by omega), put_same, put_cell (by decide), put_cell (by decide)]
  refine fitC hc hi (hi.dealt hb) (tellN_lt A m) (by omega) (b_if ?_)
  by_cases h : hon A m
  · rw [if_pos h]; exact hy h
  · rw [if_neg h]
    refine s_only (by omega) ?_
    have e : σ 4 9 = nI (A 8 3) := hc.li
    rw [e, n_or]
    exact hn h
theorem o6_opened {σ : k_M} {A : aM} {s x : Nat} (hc : CRc (circ σ) A) (hi : aInv A) (hd : 0 < A 8 2) (hL : A 8 3 = 0) (hx : x < 23) {Q : Int32 → k_M → Prop} (hy : A 8 1 ≤ cnt (gooN A s 7) → ∀ σ', K6 σ σ' → CRc (circ σ') (aLS A (liaN A s 7) (A 8 4)) → Q (nI (wsum (tellN A) (lowN (gooN A s 7) (A 8 1) 7) x 7 % 23)) σ') (hn : ¬ A 8 1 ≤ cnt (gooN A s 7) → ∀ σ', K6 σ σ' → CRc (circ σ') (aLS A (liaN A s 7) (A 8 4)) → Q (-5) σ') : wp_X2_openedByThose σ (nI s) (nI x) Q := by
  unfold wp_X2_openedByThose
  have e6 : σ 4 6 = nI (A 8 0) := hc.hold
  have hte := te_lt (s := s) hi
  rw [e6, n_and]
  refine k_lpI2 7 (fun j k σ' => k = nI (j + 1) ∧ K6 σ σ' ∧ CRc (circ σ') (aLS A (liaN A s j) (A 8 4)) ∧ (∀ m, 1 ≤ m → m ≤ j → (teN A s).testBit m = true → σ' 14 m = nI (tellN A m))) 0 (by omega) ⟨rfl, K6.refl σ, hc.ls (fun _ _ _ => rfl) (fun _ _ _ => rfl) (by rw [hc.li, hL]; rfl) hc.sk, fun m a b => absurd b (by omega)⟩ ?_
  rintro j hj k σ1 ⟨rfl, h1, h2, h3⟩ B hB
  have hn1 : nI (j + 1) + (1 : Int32) = nI (j + 1 + 1) := nI_add (j + 1) 1
  have hLj : liaN A s j < 256 := maskN_lt _ (by omega)
  rcases Nat.lt_or_ge j 7 with hlt | hge
  · refine br_f (nI_nlt (a := 7) (b := j + 1) (by omega) (by omega)) (s_has (Nat.lt_trans hte (by omega)) (by omega) (b_if ?_))
    by_cases hb : (teN A s).testBit (j + 1) = true
    · rw [if_pos hb]
      refine s_hear h2 (hi.ls hLj hi.s256) (by omega) (by omega) (te_bit.mp hb).2 (fun hh => hB hlt _ _ ⟨hn1, ?_, ?_, ?_⟩) (fun hh => hB hlt _ _ ⟨hn1, ?_, ?_, ?_⟩)
      · exact ⟨by rw [put_cell (by decide)]; exact h1.1, by rw [put_cell (by decide)]; exact h1.2⟩
      · have e : liaN A s (j + 1) = liaN A s j := by
          exact if_neg (pq0n (c := hon A (j + 1)) hh)
        rw [e]
        exact h2.ls (fun a a1 a2 => put_cell (by omega)) (fun _ _ _ => rfl) h2.li h2.sk
      · intro m a b c
        rw [put_if]
        by_cases e : m = j + 1
        · rw [if_pos e, e]; rfl
        · rw [if_neg e]
          exact h3 m a (by omega) c
      · exact ⟨by rw [put_cell (by decide), put_cell (by decide)]; exact h1.1, by rw [put_cell (by decide), put_cell (by decide)]; exact h1.2⟩
      · have e : liaN A s (j + 1) = liaN A s j ||| 2 ^ (j + 1) := by
          exact if_pos (pq1n (c := hon A (j + 1)) hb hh)
        rw [e]
        refine h2.ls (fun a a1 a2 => ?_) (fun q q1 q2 => ?_) ?_ ?_
        · show k_put (k_put _ _ _ _) 4 9 _ (a + 4) = _
          rw [put_cell (by omega), put_cell (by omega)]
        · show k_put (k_put _ _ _ _) 4 9 _ 4 q = _
          rw [put_slot q1, put_cell (by decide)]
        · exact put_same
        · show k_put (k_put _ _ _ _) 4 9 _ 4 10 = _
          rw [put_slot (by decide), put_cell (by decide)]
          exact h2.sk
      · intro m a b c
        rw [put_cell (by decide), put_if]
        by_cases e : m = j + 1
        · rw [if_pos e, e]; rfl
        · rw [if_neg e]
          exact h3 m a (by omega) c
    · rw [if_neg hb]
      have e : liaN A s (j + 1) = liaN A s j := by
        exact if_neg (pqb hb)
      refine hB hlt _ _ ⟨hn1, h1, by rw [e]; exact h2, fun m a b c => h3 m a ?_ c⟩
      rcases Nat.lt_or_ge m (j + 1) with q | q
      · omega
      · have : m = j + 1 := by omega
        rw [this] at c
        exact absurd c hb
  · have hj7 : j = 7 := by omega
    subst hj7
    have e9 : σ1 4 9 = nI (liaN A s 7) := h2.li
    have e7 : σ1 4 7 = nI (A 8 1) := h2.thr hd
    have hg : gooN A s 7 < 256 := maskN_lt _ (by omega)
    refine br_t (by decide) ?_
    rw [e9, show s &&& A 8 0 = teN A s from rfl, n_mnus, goo_eq hi, e7]
    have hcl := cnt_le (gooN A s 7)
    have ht5 := (hi.cur hd).2.1
    refine s_bitCount hg (pk_le (A 8 1) (cnt (gooN A s 7)) (fun z => s_lowest hg (by omega) (s_weighed (g := tellN A) (fun m m1 m2 m3 => h3 m m1 m2 ?_) (tellN_lt A) (lowN_lt _ _ (by omega)) hx (hy z σ1 h1 h2))) (fun z => hn (by omega) σ1 h1 h2))
    have := lowN_sub _ _ _ _ m3
    unfold gooN at this
    rw [maskN_bit] at this
    simp at this
    exact this.2.1
/-- the reference's -/
def gset (p : Nat → Bool) (w : Nat → Nat) (lo : Nat) : Nat → Nat
  | 0 => 0
  | i + 1 => if lo ≤ i ∧ p (w i - 48) = true then gset p w lo i ||| 2 ^ (w i - 48) else gset p w lo i
theorem gset_0 (p : Nat → Bool) (w : Nat → Nat) (lo : Nat) : ∀ n, n ≤ lo → gset p w lo n = 0
  | 0, _ => rfl
  | n + 1, h => by
    simp only [gset]
    rw [if_neg (fun z => by omega)]
    exact gset_0 p w lo n (by omega)
theorem gset_bit (p : Nat → Bool) (w : Nat → Nat) (lo : Nat) : ∀ n m, (gset p w lo n).testBit m = true ↔ ∃ i, lo ≤ i ∧ i < n ∧ p (w i - 48) = true ∧ w i - 48 = m
  | 0, m => by
    simp only [gset, Nat.zero_testBit]
    constructor
    · intro h; exact absurd h (by decide)
    · rintro ⟨i, -, h, -⟩; omega
  | n + 1, m => by
    simp only [gset]
    split
    · rename_i h
      rw [Nat.testBit_or, Nat.testBit_two_pow, Bool.or_eq_true, gset_bit p w lo n m, decide_eq_true_eq]
      constructor
      · rintro (⟨i, a, b, c⟩ | e)
        · exact ⟨i, a, by omega, c⟩
        · exact ⟨n, h.1, by omega, h.2, e⟩
      · rintro ⟨i, a, b, c, e⟩
        by_cases hi : i = n
        · subst hi; exact Or.inr e
        · exact Or.inl ⟨i, a, by omega, c, e⟩
    · rename_i h
      rw [gset_bit p w lo n m]
      constructor
      · rintro ⟨i, a, b, c⟩
        exact ⟨i, a, by omega, c⟩
      · rintro ⟨i, a, b, c, e⟩
        by_cases hi : i = n
        · subst hi; exact absurd ⟨a, c⟩ h
        · exact ⟨i, a, by omega, c, e⟩
theorem gset_lt {p : Nat → Bool} {w : Nat → Nat} {lo n : Nat} (hf : ∀ i, lo ≤ i → i < n → w i ≤ 55) : gset p w lo n < 256 := by
  refine Nat.lt_pow_two_of_testBit (n := 8) _ (fun i hi => ?_)
  cases hb : (gset p w lo n).testBit i with
  | false => rfl
  | true =>
    obtain ⟨k, a, b, -, d⟩ := (gset_bit p w lo n i).mp hb
    have := hf k a b
    omega
theorem gset_mask {A : aM} {w : Nat → Nat} {lo n : Nat} (q : Nat → Bool) (hf : ∀ i, lo ≤ i → i < n → 49 ≤ w i ∧ w i ≤ 55) : gset (fun m => (A 8 0).testBit m && q m) w lo n = maskN (fun m => (teN A (fset w lo n)).testBit m && q m) 7 := by
  apply Nat.eq_of_testBit_eq
  intro m
  rw [maskN_bit, Bool.eq_iff_iff, gset_bit]
  rw [Bool.and_eq_true, Bool.and_eq_true, Bool.and_eq_true, te_bit, fset_bit, decide_eq_true_eq, decide_eq_true_eq]
  constructor
  · rintro ⟨i, a, b, c, d⟩
    have := hf i a b
    rw [Bool.and_eq_true, d] at c
    exact ⟨⟨by omega, by omega⟩, ⟨⟨i, a, b, this.1, this.2, d⟩, c.1⟩, c.2⟩
  · rintro ⟨-, ⟨⟨i, a, b, -, -, d⟩, c1⟩, c2⟩
    refine ⟨i, a, b, ?_, d⟩
    rw [Bool.and_eq_true, d]
    exact ⟨c1, c2⟩
theorem TW.m {σ τ τ' : k_M} {w : Nat → Nat} {n : Nat} (h : TW σ τ w n) (h0 : τ' 0 2 = τ 0 2) (h2 : τ' 2 = τ 2) : TW σ τ' w n := ⟨h.1, h.2.1, h0.trans h.2.2.1, fun i hi => by rw [h2]; exact h.2.2.2 i hi⟩
theorem s_honest {σ τ : k_M} {A : aM} {w : Nat → Nat} {n lo : Nat} (hT : TW σ τ w n) (hm : CRm (τ 1) A) (hi : aInv A) (hL : A 8 3 = 0) (hlo : lo ≤ n) (hf : ∀ i, lo ≤ i → i < n → 49 ≤ w i ∧ w i ≤ 55) {Q : Int32 → k_M → Prop} (hq : ∀ τ', (∀ a, a ≠ 1 → τ' a = τ a) → CRm (τ' 1) (aLS A (liaN A (fset w lo n) 7) (A 8 4)) → Q (nI (gooN A (fset w lo n) 7)) τ') : wp_X7_honest τ (nI lo) Q := by
  have hn10 := hT.1
  unfold wp_X7_honest
  refine k_lpI3 n (fun j p k τ' => p = nI (gset (fun m => (A 8 0).testBit m && decide (hon A m)) w lo j) ∧ k = nI j ∧ lo ≤ j ∧ (∀ a, a ≠ 1 → τ' a = τ a) ∧ CRm (τ' 1) (aLS A (gset (fun m => (A 8 0).testBit m && !decide (hon A m)) w lo j) (A 8 4))) lo hlo ⟨by rw [gset_0 _ _ _ _ (Nat.le_refl _)]; rfl, rfl, Nat.le_refl _, fun _ _ => rfl, hm.ls hi (fun _ _ _ _ => rfl) (by rw [hm.li, hL, gset_0 _ _ _ _ (Nat.le_refl _)]) hm.sk⟩ ?_
  rintro j hj p k τ1 ⟨rfl, rfl, hlj, h1, h2⟩ B hB
  have hT1 : TW σ τ1 w n := hT.m (by rw [h1 0 (by decide)]) (h1 2 (by decide))
  have hlj2 : ∀ q : Nat → Bool, gset q w lo j < 256 := fun q => gset_lt (fun i a b => (hf i a (by omega)).2)
  rw [hT1.2.2.1]
  rcases Nat.lt_or_ge j n with hlt | hge
  · have hn1 : nI j + (1 : Int32) = nI (j + 1) := nI_add j 1
    have hwj := hf j hlj hlt
    have hi1 := hi.ls (L := gset (fun m => (A 8 0).testBit m && !decide (hon A m)) w lo j) (S := A 8 4) (hlj2 _) hi.s256
    refine br_f (nI_ge hlt (by omega)) (s_fig7 hT1 hlt ?_)
    rw [fg_in (by omega)]
    refine s_hasShare h2 hi1 (by omega) (by omega) (b_if ?_)
    by_cases hb : (A 8 0).testBit (w j - 48) = true
    · rw [if_pos (show (aLS A _ _ 8 0).testBit (w j - 48) = true from hb)]
      refine s_told h2 hi1 (by omega) (by omega) hb (fitM h2 hi1 (hi1.dealt (m := w j - 48) hb) (tellN_lt _ _) (by omega) ?_)
      rw [k_only (by omega), kcl_369]
      have e9 : τ1 1 369 = nI (gset (fun m => (A 8 0).testBit m && !decide (hon A m)) w lo j) := h2.li
      rw [e9, n_or, n_or0]
      by_cases hh : hon A (w j - 48)
      · rw [if_pos (show tellN (aLS A _ _) (w j - 48) = pe (aLS A _ _ 3) (aLS A _ _ 8 1) (w j - 48) from hh)]
        refine ⟨fun y => y = nI (2 ^ (w j - 48)), ?_, b1 rfl⟩
        rintro y rfl
        refine b1 (hB hlt _ _ _ ⟨?_, hn1, by omega, fun a ha => by rw [put_cell ha]; exact h1 a ha, ?_⟩)
        · rw [n_or]
          simp only [gset]
          rw [if_pos ⟨hlj, pq1 (c := hon A (w j - 48)) hb hh⟩]
        · have e : gset (fun m => (A 8 0).testBit m && !decide (hon A m)) w lo (j + 1) = gset (fun m => (A 8 0).testBit m && !decide (hon A m)) w lo j := by
            rw [gset, if_neg (fun z => pq0n (c := hon A (w j - 48)) hh z.2)]
          rw [e]
          exact h2.ls hi1 (fun q _ q1 _ => put_slot q1) put_same ((put_slot (by decide)).trans h2.sk)
      · rw [if_neg (show ¬ tellN (aLS A _ _) (w j - 48) = pe (aLS A _ _ 3) (aLS A _ _ 8 1) (w j - 48) from hh)]
        refine ⟨fun y => y = 0, ?_, b0 rfl⟩
        rintro y rfl
        refine b0 (hB hlt _ _ _ ⟨?_, hn1, by omega, fun a ha => by rw [put_cell ha]; exact h1 a ha, ?_⟩)
        · rw [n_or0]
          simp only [gset]
          rw [if_neg (fun z => pq0 (c := hon A (w j - 48)) hh z.2)]
        · have e : gset (fun m => (A 8 0).testBit m && !decide (hon A m)) w lo (j + 1) = gset (fun m => (A 8 0).testBit m && !decide (hon A m)) w lo j ||| 2 ^ (w j - 48) := by
            rw [gset, if_pos ⟨hlj, pq1n (c := hon A (w j - 48)) hb hh⟩]
          rw [e]
          exact h2.ls hi1 (fun q _ q1 _ => put_slot q1) put_same ((put_slot (by decide)).trans h2.sk)
    · rw [if_neg (show ¬ (aLS A _ _ 8 0).testBit (w j - 48) = true from hb)]
      have hbf : (A 8 0).testBit (w j - 48) = false := by simpa using hb
      have e : ∀ q : Nat → Bool, gset (fun m => (A 8 0).testBit m && q m) w lo (j + 1) = gset (fun m => (A 8 0).testBit m && q m) w lo j := fun q => by
        rw [gset, if_neg (fun z => by have := z.2; rw [hbf] at this; simp at this)]
      refine hB hlt _ _ _ ⟨?_, hn1, by omega, h1, ?_⟩
      · rw [e]
      · rw [e]; exact h2
  · have e : j = n := by omega
    subst e
    refine br_t (nI_le (Nat.le_refl _) (by omega)) ?_
    rw [gset_mask _ hf]
    refine hq τ1 h1 ?_
    have h2' := h2
    rw [gset_mask _ hf] at h2'
    exact h2'
