/-! loot: who was robbed, and of what -/
def fltB (A : aM) : Option Nat → Nat → Bool
  | none, _ => true
  | some e, i => decide (A 6 i = e)
abbrev flt (A : aM) (o : Option Nat) (i : Nat) : Prop := fltB A o i = true
theorem flt_none {A : aM} {i : Nat} : flt A none i := rfl
theorem flt_some {A : aM} {i e : Nat} : flt A (some e) i ↔ A 6 i = e := decide_eq_true_iff
def c6 : Option Nat → Int32
  | none => -1
  | some e => nI e
def c7 : Option Nat → Int32
  | none => -6
  | some e => nI e
def vicN (A : aM) (o : Option Nat) : Nat → Nat
  | 0 => 0
  | i + 1 => if flt A o i then vicN A o i ||| 2 ^ A 5 i else vicN A o i
theorem vic_bit (A : aM) (o : Option Nat) : ∀ z m, (vicN A o z).testBit m = true ↔ ∃ i, i < z ∧ flt A o i ∧ A 5 i = m
  | 0, m => by
    simp only [vicN, Nat.zero_testBit]
    constructor
    · intro h; exact absurd h (by decide)
    · rintro ⟨i, h, -⟩; omega
  | z + 1, m => by
    simp only [vicN]
    split
    · rename_i h
      rw [bit_in, vic_bit A o z m]
      constructor
      · rintro (⟨i, a, b⟩ | e)
        · exact ⟨i, by omega, b⟩
        · exact ⟨z, by omega, h, e.symm⟩
      · rintro ⟨i, a, b, c⟩
        by_cases hi : i = z
        · subst hi; exact Or.inr c.symm
        · exact Or.inl ⟨i, by omega, b, c⟩
    · rename_i h
      rw [vic_bit A o z m]
      constructor
      · rintro ⟨i, a, b⟩
        exact ⟨i, by omega, b⟩
      · rintro ⟨i, a, b, c⟩
        by_cases hi : i = z
        · subst hi; exact absurd b h
        · exact ⟨i, by omega, b, c⟩
theorem vic_lt {A : aM} (hi : aInv A) (o : Option Nat) {z : Nat} (hz : z ≤ A 8 6) : vicN A o z < 256 := by
  refine Nat.lt_pow_two_of_testBit (n := 8) _ (fun i hi2 => ?_)
  cases hb : (vicN A o z).testBit i with
  | false => rfl
  | true =>
    obtain ⟨k, a, -, d⟩ := (vic_bit A o z i).mp hb
    have := (hi.lo k (by omega)).2.1
    omega
theorem vic_0 {A : aM} (hi : aInv A) (o : Option Nat) {z : Nat} (hz : z ≤ A 8 6) : (vicN A o z).testBit 0 = false := by
  cases hb : (vicN A o z).testBit 0 with
  | false => rfl
  | true =>
    obtain ⟨k, a, -, d⟩ := (vic_bit A o z 0).mp hb
    have := (hi.lo k (by omega)).1
    omega
abbrev vic (A : aM) (o : Option Nat) : Nat := vicN A o (A 8 6)
theorem s_victims {σ : k_M} {A : aM} {o : Option Nat} (hc : CRc (circ σ) A) (hi : aInv A) (ho : ∀ e, o = some e → e < 1000) {Q : Int32 → Prop} (hq : Q (nI (vic A o))) : wp_X1_victims σ (c6 o) Q := by
  unfold wp_X1_victims
  have e3 : σ 10 3 = nI (A 8 6) := hc.lz
  have hz := hi.z24
  rw [e3]
  refine k_lpI2 (A 8 6) (fun j p k => p = nI (vicN A o j) ∧ k = nI j) 0 (by omega) ⟨rfl, rfl⟩ ?_
  rintro j hj p k ⟨rfl, rfl⟩ B hB
  have hn1 : nI j + (1 : Int32) = nI (j + 1) := nI_add j 1
  rcases Nat.lt_or_ge j (A 8 6) with hlt | hge
  · have hlo := hc.lo j hlt
    have e1 : σ 11 j = nI (A 5 j) := hlo.1
    have e2 : σ 12 j = nI (A 6 j) := hlo.2.1
    have hil := hi.lo j hlt
    have hE := hi.e200
    refine br_f (nI_ge hlt (by omega)) (br_f (nI_ge (b := 24) (by omega) (by omega)) ?_)
    rw [nI_clamp (by omega), e1, e2]
    refine ⟨flt A o j, fun hf => ⟨vp_in_nI (by omega) (by omega), s_only (by omega) (hB hlt _ _ ⟨?_, hn1⟩)⟩, ?_⟩
    · rw [n_or]
      simp only [vicN]
      rw [if_pos hf]
    · cases o with
      | none => exact br_t rfl flt_none
      | some e =>
        have he := ho e rfl
        refine br_f (fun z => ?_) ⟨vp_in_nI (by omega) (by omega), pk_eq (A 6 j) e (fun h => flt_some.mpr h) (fun h => hB hlt _ _ ⟨?_, hn1⟩)⟩
        · have := nI_pos (n := e) (by omega)
          rw [show nI e = -1 from z] at this
          exact this (by decide)
        · simp only [vicN]
          rw [if_neg (fun z => h (flt_some.mp z))]
  · have e : j = A 8 6 := by omega
    rw [e]
    exact br_t (nI_le (Nat.le_refl _) (by omega)) hq
/-- the first loot of a member -/
abbrev lP (A : aM) (o : Option Nat) (m i : Nat) : Prop := A 5 i = m ∧ flt A o i
def fst' (A : aM) (o : Option Nat) (m : Nat) : Nat → Option Nat
  | 0 => none
  | k + 1 => match fst' A o m k with
    | some i => some i
    | none => if lP A o m k then some k else none
section
variable {A : aM} {o : Option Nat} {m : Nat}
theorem fst_some {k i : Nat} (h : fst' A o m k = some i) : fst' A o m (k + 1) = some i := by simp only [fst', h]
theorem fst_hit {k : Nat} (h : fst' A o m k = none) (hp : lP A o m k) : fst' A o m (k + 1) = some k := by simp only [fst', h]; rw [if_pos hp]
theorem fst_miss {k : Nat} (h : fst' A o m k = none) (hp : ¬ lP A o m k) : fst' A o m (k + 1) = none := by simp only [fst', h]; rw [if_neg hp]
theorem fst_keep {k i : Nat} (h : fst' A o m k = some i) : ∀ d, fst' A o m (k + d) = some i
  | 0 => h
  | d + 1 => fst_some (fst_keep h d)
theorem fst_spec : ∀ k i, fst' A o m k = some i → i < k ∧ lP A o m i
  | 0, i, h => absurd h (by simp [fst'])
  | k + 1, i, h => by
    cases hk : fst' A o m k with
    | some j =>
      rw [fst_some hk] at h
      have := fst_spec k i (by rw [hk]; exact h)
      exact ⟨by omega, this.2⟩
    | none =>
      by_cases hp : lP A o m k
      · rw [fst_hit hk hp] at h
        cases h
        exact ⟨by omega, hp⟩
      · rw [fst_miss hk hp] at h
        exact absurd h (by simp)
theorem fst_no : ∀ k, fst' A o m k = none → ∀ i, i < k → ¬ lP A o m i
  | 0, _, i, hi => absurd hi (by omega)
  | k + 1, h, i, hi => by
    cases hk : fst' A o m k with
    | some j => rw [fst_some hk] at h; exact absurd h (by simp)
    | none =>
      by_cases hp : lP A o m k
      · rw [fst_hit hk hp] at h; exact absurd h (by simp)
      · by_cases e : i = k
        · rw [e]; exact hp
        · exact fst_no k hk i (by omega)
end
abbrev fsx (A : aM) (o : Option Nat) (m : Nat) : Option Nat := fst' A o m (A 8 6)
def shN (A : aM) (o : Option Nat) (m : Nat) : Nat := match fsx A o m with
  | some i => A 7 i
  | none => 0
theorem shN_some {A : aM} {o : Option Nat} {m i : Nat} (h : fsx A o m = some i) : shN A o m = A 7 i := by unfold shN; rw [h]
theorem shN_none {A : aM} {o : Option Nat} {m : Nat} (h : fsx A o m = none) : shN A o m = 0 := by unfold shN; rw [h]
theorem shN_lt {A : aM} (hi : aInv A) (o : Option Nat) (m : Nat) : shN A o m < 23 := by
  cases h : fsx A o m with
  | some i => rw [shN_some h, (hi.lo i (fst_spec _ _ h).1).2.2.2]; exact pe_lt _ _ _
  | none => rw [shN_none h]; omega
theorem s_firstShare {σ : k_M} {A : aM} {o : Option Nat} {m : Nat} (hc : CRc (circ σ) A) (hi : aInv A) (ho : ∀ e, o = some e → e < 1000) (hm : m < 100) {Q : Int32 → Prop} (hq : Q (nI (shN A o m))) : wp_X1_firstShare σ (nI m) (c6 o) Q := by
  unfold wp_X1_firstShare
  have e3 : σ 10 3 = nI (A 8 6) := hc.lz
  have hz := hi.z24
  rw [e3]
  refine k_lpI1 (A 8 6) (fun j k => k = nI j ∧ fst' A o m j = none) 0 (by omega) ⟨rfl, rfl⟩ ?_
  rintro j hj k ⟨rfl, hf⟩ B hB
  have hn1 : nI j + (1 : Int32) = nI (j + 1) := nI_add j 1
  rcases Nat.lt_or_ge j (A 8 6) with hlt | hge
  · have hlo := hc.lo j hlt
    have e1 : σ 11 j = nI (A 5 j) := hlo.1
    have e2 : σ 12 j = nI (A 6 j) := hlo.2.1
    have e4 : σ 13 j = nI (A 7 j) := hlo.2.2
    have hil := hi.lo j hlt
    have hE := hi.e200
    have hit : lP A o m j → Q (nI (A 7 j)) := fun hp => by
      have := fst_keep (fst_hit hf hp) (A 8 6 - (j + 1))
      rw [show j + 1 + (A 8 6 - (j + 1)) = A 8 6 by omega] at this
      rw [← shN_some this]
      exact hq
    refine br_f (nI_ge hlt (by omega)) (br_f (nI_ge (b := 24) (by omega) (by omega)) ⟨vp_in_nI (by omega) (by omega), ?_⟩)
    rw [nI_clamp (by omega), e1, e2, e4]
    refine pk_eq (A 5 j) m (fun h => ?_) (fun h => hB hlt _ ⟨hn1, fst_miss hf (fun z => h z.1)⟩)
    cases o with
    | none => exact br_t rfl ⟨vp_in_nI (by omega) (by omega), hit ⟨h, flt_none⟩⟩
    | some e =>
      have he := ho e rfl
      refine br_f (fun z => ?_) ⟨vp_in_nI (by omega) (by omega), pk_eq (A 6 j) e (fun h2 => ⟨vp_in_nI (by omega) (by omega), hit ⟨h, flt_some.mpr h2⟩⟩) (fun h2 => hB hlt _ ⟨hn1, fst_miss hf (fun z => h2 (flt_some.mp z.2))⟩)⟩
      have := nI_pos (n := e) (by omega)
      rw [show nI e = -1 from z] at this
      exact this (by decide)
  · have e : j = A 8 6 := by omega
    subst e
    rw [shN_none hf] at hq
    exact br_t (nI_le (Nat.le_refl _) (by omega)) hq
theorem s_opened {σ : k_M} {A : aM} {o : Option Nat} {t : Nat} (hc : CRc (circ σ) A) (hi : aInv A) (ho : ∀ e, o = some e → e < 1000) (ht : t ≤ 5) {Q : Int32 → k_M → Prop} (hn : ¬ t ≤ cnt (vic A o) → Q (-6) σ) (hy : t ≤ cnt (vic A o) → ∀ σ', (∀ a, a ≠ 14 → σ' a = σ a) → Q (nI (wsum (shN A o) (lowN (vic A o) t 7) 0 7 % 23)) σ') : wp_X2_opened σ (c6 o) (nI t) Q := by
  unfold wp_X2_opened
  have hv := vic_lt hi o (Nat.le_refl _)
  have hcl := cnt_le (vic A o)
  refine s_victims hc hi ho (s_bitCount hv (pk_le t (cnt (vic A o)) (fun h => s_lowest hv (by omega) ?_) (fun h => hn (by omega))))
  refine k_lpI2 7 (fun j x σ' => x = nI (j + 1) ∧ (∀ a, a ≠ 14 → σ' a = σ a) ∧ (∀ m, 1 ≤ m → m ≤ j → σ' 14 m = nI (shN A o m))) 0 (by omega) ⟨rfl, fun _ _ => rfl, fun m a b => absurd b (by omega)⟩ ?_
  rintro j hj x σ1 ⟨rfl, f1, f2⟩ B hB
  have hn1 : nI (j + 1) + (1 : Int32) = nI (j + 1 + 1) := nI_add (j + 1) 1
  have hc1 : CRc (circ σ1) A := hc.via (fun a ha => f1 _ (by omega)) rfl
  rcases Nat.lt_or_ge j 7 with hlt | hge
  · refine br_f (nI_nlt (a := 7) (b := j + 1) (by omega) (by omega)) (s_firstShare hc1 hi ho (by omega) ⟨vp_in_nI (by omega) (by omega), ?_⟩)
    rw [nI_clamp (by omega)]
    refine hB hlt _ _ ⟨hn1, fun a ha => by rw [put_cell ha]; exact f1 a ha, fun m a b => ?_⟩
    rw [put_if]
    by_cases e : m = j + 1
    · rw [if_pos e, e]
    · rw [if_neg e]; exact f2 m a (by omega)
  · have hj7 : j = 7 := by omega
    subst hj7
    exact br_t (by decide) (s_weighed (x := 0) (fun m a b _ => f2 m a b) (shN_lt hi o) (lowN_lt _ _ (by omega)) (by omega) (hy h σ1 f1))
/-! the reference -/
theorem s_lootOf {τ : k_M} {i q : Nat} (hi : i < 24) (hq : q < 3) {Q : Int32 → Prop} (h : Q (τ 1 (295 + 3 * i + q))) : wp_X7_lootOf τ (nI i) (nI q) Q := by
  unfold wp_X7_lootOf
  rw [k_l295, k_l3, pk_mul, nI_add, nI_add, nI_clamp (by omega)]
  exact ⟨vp_in_nI (by omega) (by omega), h⟩
theorem lo7 {s : Nat → Int32} {A : aM} (h : CRm s A) {i : Nat} (hi : i < A 8 6) : s (295 + 3 * i + 0) = nI (A 5 i) ∧ s (295 + 3 * i + 1) = nI (A 6 i) ∧ s (295 + 3 * i + 2) = nI (A 7 i) := by
  have := h.lo i hi
  rw [show 295 + 3 * i + 1 = 296 + 3 * i by omega, show 295 + 3 * i + 2 = 297 + 3 * i by omega]
  exact this
theorem s_lootFrom {τ : k_M} {A : aM} {o : Option Nat} {m : Nat} (hm : CRm (τ 1) A) (hi : aInv A) (ho : ∀ e, o = some e → e < 1000) (hm2 : m < 100) {Q : Int32 → Prop} (hn : fsx A o m = none → Q (-6)) (hy : ∀ i, fsx A o m = some i → i < A 8 6 → Q (nI i)) : wp_X7_lootFrom τ (nI m) (c7 o) Q := by
  unfold wp_X7_lootFrom
  have e3 : τ 1 367 = nI (A 8 6) := hm.lz
  have hz := hi.z24
  rw [kcl_367, e3]
  refine k_lpI1 (A 8 6) (fun j k => k = nI j ∧ fst' A o m j = none) 0 (by omega) ⟨rfl, rfl⟩ ?_
  rintro j hj k ⟨rfl, hf⟩ B hB
  have hn1 : nI j + (1 : Int32) = nI (j + 1) := nI_add j 1
  rcases Nat.lt_or_ge j (A 8 6) with hlt | hge
  · have hlo := lo7 hm hlt
    have hil := hi.lo j hlt
    have hE := hi.e200
    have hit : lP A o m j → Q (nI j) := fun hp => by
      have := fst_keep (fst_hit hf hp) (A 8 6 - (j + 1))
      rw [show j + 1 + (A 8 6 - (j + 1)) = A 8 6 by omega] at this
      exact hy j this hlt
    refine br_f (nI_ge hlt (by omega)) (s_lootOf (q := 0) (by omega) (by omega) ?_)
    rw [hlo.1]
    refine pk_eq (A 5 j) m (fun h => ?_) (fun h => hB hlt _ ⟨hn1, fst_miss hf (fun z => h z.1)⟩)
    cases o with
    | none => exact br_t (by decide) (hit ⟨h, flt_none⟩)
    | some e =>
      have he := ho e rfl
      refine br_f (nI_pos (by omega)) (s_lootOf (q := 1) (by omega) (by omega) ?_)
      rw [hlo.2.1]
      exact pk_eq (A 6 j) e (fun h2 => hit ⟨h, flt_some.mpr h2⟩) (fun h2 => hB hlt _ ⟨hn1, fst_miss hf (fun z => h2 (flt_some.mp z.2))⟩)
  · have e : j = A 8 6 := by omega
    subst e
    exact br_t (nI_le (Nat.le_refl _) (by omega)) (hn hf)
theorem vic_mask {A : aM} (hi : aInv A) (o : Option Nat) : vic A o = maskN (fun m => (fsx A o m).isSome) 7 := by
  apply Nat.eq_of_testBit_eq
  intro m
  rw [maskN_bit, Bool.eq_iff_iff, vic_bit, Bool.and_eq_true, Bool.and_eq_true, decide_eq_true_eq, decide_eq_true_eq]
  constructor
  · rintro ⟨i, a, b, c⟩
    have hl := hi.lo i a
    refine ⟨⟨by omega, by omega⟩, ?_⟩
    cases h : fsx A o m with
    | some j => rfl
    | none => exact absurd ⟨c, b⟩ (fst_no _ h i a)
  · rintro ⟨-, h⟩
    cases h2 : fsx A o m with
    | some j =>
      have := fst_spec _ _ h2
      exact ⟨j, this.1, this.2.2, this.2.1⟩
    | none => rw [h2] at h; exact absurd h (by decide)
theorem s_robbed {τ : k_M} {A : aM} {o : Option Nat} (hm : CRm (τ 1) A) (hi : aInv A) (ho : ∀ e, o = some e → e < 1000) {Q : Int32 → Prop} (hq : Q (nI (vic A o))) : wp_X7_robbed τ (c7 o) Q := by
  rw [vic_mask hi o] at hq
  have hz := hi.z24
  unfold wp_X7_robbed
  refine k_lpI2 7 (fun j p k => p = nI (maskN (fun m => (fsx A o m).isSome) j) ∧ k = nI (j + 1)) 0 (by omega) ⟨rfl, rfl⟩ ?_
  rintro j hj p k ⟨rfl, rfl⟩ B hB
  have hn1 : nI (j + 1) + (1 : Int32) = nI (j + 1 + 1) := nI_add (j + 1) 1
  rcases Nat.lt_or_ge j 7 with hlt | hge
  · refine br_f (nI_nlt (a := 7) (b := j + 1) (by omega) (by omega)) (s_lootFrom hm hi ho (by omega) (fun h => br_t (by decide) (hB hlt _ _ ⟨?_, hn1⟩)) (fun i h h2 => br_f (nI_pos (by omega)) (hB hlt _ _ ⟨?_, hn1⟩)))
    · rw [n_or0, maskN_no (by show ¬ (fsx A o (j + 1)).isSome = true; rw [h]; decide)]
    · rw [k_only (by omega), n_or, maskN_ye (by show (fsx A o (j + 1)).isSome = true; rw [h]; rfl)]
  · have hj7 : j = 7 := by omega
    subst hj7
    exact br_t (by decide) hq
theorem s_opened7 {τ : k_M} {A : aM} {o : Option Nat} {set : Nat} (hm : CRm (τ 1) A) (hi : aInv A) (ho : ∀ e, o = some e → e < 1000) (hs : set < 256) (hsub : ∀ m, set.testBit m = true → (vic A o).testBit m = true) {Q : Int32 → Prop} (hq : Q (nI (wsum (shN A o) set 0 7 % 23))) : wp_X7_opened τ (nI set) (c7 o) Q := by
  have hz := hi.z24
  unfold wp_X7_opened
  refine k_lpI2 7 (fun j p k => p = nI (wsum (shN A o) set 0 j) ∧ k = nI (j + 1)) 0 (by omega) ⟨rfl, rfl⟩ ?_
  rintro j hj p k ⟨rfl, rfl⟩ B hB
  have hn1 : nI (j + 1) + (1 : Int32) = nI (j + 1 + 1) := nI_add (j + 1) 1
  have hle := wsum_le (set := set) (x := 0) (shN_lt hi o) j
  rcases Nat.lt_or_ge j 7 with hlt | hge
  · refine br_f (nI_nlt (a := 7) (b := j + 1) (by omega) (by omega)) (s_has7 (by omega) (by omega) (b_if ?_))
    by_cases hb : set.testBit (j + 1) = true
    · rw [if_pos hb]
      refine s_lootFrom hm hi ho (by omega) (fun h => ?_) (fun i h h2 => s_lootOf (q := 2) (by omega) (by omega) ?_)
      · obtain ⟨i, a, b, c⟩ := (vic_bit A o (A 8 6) (j + 1)).mp (hsub _ hb)
        exact absurd ⟨c, b⟩ (fst_no _ h i a)
      · rw [(lo7 hm h2).2.2, ← shN_some h]
        refine s_weight7 (x := 0) (by omega) (by omega) hs (by omega) (hB hlt _ _ ⟨?_, hn1⟩)
        rw [pk_mul, nI_add]
        simp only [wsum]
        rw [if_pos hb]
    · rw [if_neg hb]
      refine hB hlt _ _ ⟨?_, hn1⟩
      simp only [wsum]
      rw [if_neg hb]
      exact nI_add _ 0
  · have hj7 : j = 7 := by omega
    subst hj7
    refine br_t (by decide) ?_
    rw [k_l23, k_rem_n (by omega) (by omega) (by omega)]
    exact hq
/-- the first lost epoch -/
abbrev lost (A : aM) (e : Nat) : Prop := A 4 e ≤ cnt (vic A (some e))
theorem s_firstLost {σ : k_M} {A : aM} (hc : CRc (circ σ) A) (hi : aInv A) {Q : Int32 → Prop} (hn : (∀ i, i < A 8 6 → ¬ lost A (A 6 i)) → Q (-6)) (hy : ∀ i, i < A 8 6 → lost A (A 6 i) → (∀ j, j < i → ¬ lost A (A 6 j)) → Q (nI (A 6 i))) : wp_X0_firstLostEpoch σ Q := by
  unfold wp_X0_firstLostEpoch
  have e3 : σ 10 3 = nI (A 8 6) := hc.lz
  have hz := hi.z24
  have hE := hi.e200
  rw [e3]
  refine k_lpI1 (A 8 6) (fun j k => k = nI j ∧ ∀ i, i < j → ¬ lost A (A 6 i)) 0 (by omega) ⟨rfl, fun i h => absurd h (by omega)⟩ ?_
  rintro j hj k ⟨rfl, hf⟩ B hB
  have hn1 : nI j + (1 : Int32) = nI (j + 1) := nI_add j 1
  rcases Nat.lt_or_ge j (A 8 6) with hlt | hge
  · have e2 : σ 12 j = nI (A 6 j) := (hc.lo j hlt).2.1
    have hil := hi.lo j hlt
    have hv := vic_lt hi (some (A 6 j)) (Nat.le_refl _)
    have hcl := cnt_le (vic A (some (A 6 j)))
    have ht := hi.olds _ hil.2.2.1
    refine br_f (nI_ge hlt (by omega)) (br_f (nI_ge (b := 24) (by omega) (by omega)) ⟨vp_in_nI (by omega) (by omega), ?_⟩)
    rw [nI_clamp (by omega), e2]
    refine s_victims (o := some (A 6 j)) hc hi (fun e he => by cases he; omega) (s_bitCount hv (s_thr hc hi hil.2.2.1 (pk_lt (cnt (vic A (some (A 6 j)))) (A 4 (A 6 j)) (fun h => hB hlt _ ⟨hn1, fun i hi2 => ?_⟩) (fun h => hy j hlt h hf))))
    by_cases e : i = j
    · rw [e]; exact fun z => absurd h (by omega)
    · exact hf i (by omega)
  · have e : j = A 8 6 := by omega
    rw [e] at hf ⊢
    exact br_t (nI_le (Nat.le_refl _) (by omega)) (hn hf)
theorem lost_in {A : aM} (hi : aInv A) {e : Nat} (he : e < A 8 2) (h : lost A e) : ∃ i, i < A 8 6 ∧ A 6 i = e := by
  have ht := hi.olds e he
  by_cases hx : ∃ i, i < A 8 6 ∧ A 6 i = e
  · exact hx
  · have : vic A (some e) = 0 := by
      apply Nat.eq_of_testBit_eq
      intro m
      rw [Nat.zero_testBit]
      cases hb : (vic A (some e)).testBit m with
      | false => rfl
      | true =>
        obtain ⟨i, a, b, -⟩ := (vic_bit A (some e) (A 8 6) m).mp hb
        exact absurd ⟨i, a, flt_some.mp b⟩ hx
    have h' : A 4 e ≤ cnt (vic A (some e)) := h
    rw [this, show cnt 0 = 0 from by decide] at h'
    omega
theorem k_m1 : (-1 : Int32) = c6 none := rfl
theorem sim_thief_ok : sim_thief RR := by
  rintro pr σ ρ τ p1 hR
  obtain ⟨⟨A, hc, hm, hi⟩, ht, him, hk⟩ := id hR
  have hE := hi.e200
  have hz := hi.z24
  have hkeep : ∀ σ', (∀ a, a ≠ 14 → σ' a = σ a) → RR pr σ' ρ τ := fun σ' h => fin_neg hR ⟨h 1 (by decide), h 2 (by decide)⟩ (K7.refl τ) (hc.via (fun a ha => h _ (by omega)) rfl) hm hi
  unfold wp_X6_thief
  rcases k_case p1 0 2 (by omega) (by omega) with ⟨q, -, hq, rfl⟩ | h1
  · refine br_f (nI_pos (by omega)) (br_t (nI_le (b := 2) hq (by omega)) (s_isDealt hc.ep hE ?_))
    have hin : ∀ {Q : Int32 → Prop}, Q 1 → wp_X7_in (nI q) 0 2 Q := fun h => s_in1 (lo := 0) (hi := 2) (by omega) hq (by omega) h
    by_cases h0 : A 8 2 = 0
    · rw [if_pos h0]
      refine b0 (hin (b1 (s_isDealt7 hm.ep hE ?_)))
      rw [if_pos h0]
      exact b0 ⟨rfl, hR⟩
    · rw [if_neg h0]
      refine b1 ?_
      have hd : 0 < A 8 2 := by omega
      have hcu := hi.cur hd
      have e7 : σ 4 7 = nI (A 8 1) := hc.thr hd
      have e88 : τ 1 88 = nI (A 8 1) := thr7 hm hd
      have e89 : τ 1 89 = nI (A 8 2 - 1) := by rw [hm.ep, if_neg h0]
      by_cases hq2 : q = 2
      · subst hq2
        refine br_t rfl ?_
        rw [e7]
        have hv := vic_lt hi none (Nat.le_refl _)
        have hcl := cnt_le (vic A none)
        have hno : ∀ e, (none : Option Nat) = some e → e < 1000 := fun e h => absurd h (by simp)
        refine s_opened (o := none) hc hi hno hcu.2.1 (fun hg => hin (b1 (s_isDealt7 hm.ep hE ?_))) (fun hg σ' hs' => hin (b1 (s_isDealt7 hm.ep hE ?_)))
        · rw [if_neg h0]
          refine b1 (br_t rfl (s_robbed (o := none) hm hi hno (s_bits (Nat.lt_trans hv (by omega)) ?_)))
          rw [kcl_88, e88]
          exact br_f (nI_ge (Nat.lt_of_not_le hg) (by omega)) ⟨rfl, hR⟩
        · rw [if_neg h0]
          refine b1 (br_t rfl (s_robbed (o := none) hm hi hno (s_bits (Nat.lt_trans hv (by omega)) ?_)))
          rw [kcl_88, e88]
          exact br_t (nI_le hg (Nat.lt_of_le_of_lt hcl (by omega))) (s_firstOf hv (by omega) (s_opened7 (o := none) hm hi hno (lowN_lt _ _ (by omega)) (fun m hb => lowN_sub _ _ _ _ hb) ⟨rfl, hkeep σ' hs'⟩))
      · have hq2' : ¬ nI q = 2 := fun z => hq2 ((nI_eq (b := 2) (by omega) (by omega)).mp z)
        -- the reference's walk over the epochs
        have walk : ∀ {Q : Int32 → Prop}, ((∀ e, e < A 8 2 → ¬ lost A e) → Q (-6)) → (∀ e, e < A 8 2 → lost A e → (∀ e', e' < e → ¬ lost A e') → (if q = 0 then Q (nI e) else Q (nI (wsum (shN A (some e)) (lowN (vic A (some e)) (A 4 e) 7) 0 7 % 23)))) → wp_X7_thief τ (nI q) Q := by
          intro Q w1 w2
          unfold wp_X7_thief
          refine hin (b1 (s_isDealt7 hm.ep hE ?_))
          rw [if_neg h0]
          refine b1 (br_f hq2' ?_)
          rw [kcl_89, e89]
          refine k_lpI1 (A 8 2) (fun j k => k = nI j ∧ ∀ e, e < j → ¬ lost A e) 0 (by omega) ⟨rfl, fun e h => absurd h (by omega)⟩ ?_
          rintro j hj k ⟨rfl, hf⟩ B hB
          have hn1 : nI j + (1 : Int32) = nI (j + 1) := nI_add j 1
          rcases Nat.lt_or_ge j (A 8 2) with hlt | hge
          · have hv := vic_lt hi (some j) (Nat.le_refl _)
            have hcl := cnt_le (vic A (some j))
            have hto := hi.olds j hlt
            have hso : ∀ e, some j = some e → e < 1000 := fun e h => by cases h; omega
            have e95 : τ 1 (95 + j) = nI (A 4 j) := hm.olds j hlt
            refine br_f (nI_nlt (by omega) (by omega)) (s_robbed (o := some j) hm hi hso (s_bits (Nat.lt_trans hv (by omega)) ?_))
            rw [k_l95, nI_add, nI_clamp (by omega), e95]
            refine ⟨vp_in_nI (by omega) (by omega), pk_lt (cnt (vic A (some j))) (A 4 j) (fun h => hB hlt _ ⟨hn1, fun e he => ?_⟩) (fun h => ?_)⟩
            · by_cases ee : e = j
              · rw [ee]; exact fun z => absurd h (by omega)
              · exact hf e (by omega)
            · have hw := w2 j hlt h hf
              refine pk_eq q 0 (fun z => ?_) (fun z => ⟨vp_in_nI (by omega) (by omega), s_firstOf hv (by omega) (s_opened7 (o := some j) hm hi hso (lowN_lt _ _ (by omega)) (fun m hb => lowN_sub _ _ _ _ hb) ?_)⟩)
              · rw [if_pos z] at hw; exact hw
              · rw [if_neg z] at hw; exact hw
          · exact br_t (nI_lt (by omega) (by omega)) (w1 (fun e he => hf e (by omega)))
        refine br_f hq2' (s_firstLost hc hi (fun hno => ?_) (fun i hi2 hl hmin => ?_))
        · have hnone : ∀ e, e < A 8 2 → ¬ lost A e := fun e he hl => by
            obtain ⟨i, i1, i2⟩ := lost_in hi he hl
            exact hno i i1 (by rw [i2]; exact hl)
          have hend : wp_X7_thief τ (nI q) (fun r' => (-6 : Int32) = r' ∧ RR pr σ ρ τ) := walk (fun _ => ⟨rfl, hR⟩) (fun e he hl _ => absurd hl (hnone e he))
          exact br_c (fun _ => hend) (fun _ => br_t rfl hend)
        · have hil := hi.lo i hi2
          have hfst : ∀ e, e < A 8 2 → lost A e → (∀ e', e' < e → ¬ lost A e') → e = A 6 i := fun e he hl2 hm2 => by
            obtain ⟨k, k1, k2⟩ := lost_in hi he hl2
            have a1 : ¬ A 6 i < e := fun z => hm2 _ z hl
            have a2 : i ≤ k := Nat.not_lt.mp (fun z => hmin k z (by rw [k2]; exact hl2))
            have a3 := hi.srt i k a2 k1
            omega
          have hto := hi.olds _ hil.2.2.1
          refine br_c (fun hq0 => ?_) (fun hq0 => br_f (fun z => ?_) (s_thr hc hi hil.2.2.1 ?_))
          · have hq00 : q = 0 := (nI_eq (b := 0) (by omega) (by omega)).mp hq0
            refine walk (fun hno => absurd hl (hno _ hil.2.2.1)) (fun e he hl2 hm2 => ?_)
            rw [if_pos hq00, hfst e he hl2 hm2]
            exact ⟨rfl, hR⟩
          · have := nI_pos (n := A 6 i) (by omega)
            rw [z] at this
            exact this (by decide)
          · have hq00 : ¬ q = 0 := fun z => hq0 (by rw [z]; rfl)
            have hso : ∀ e, some (A 6 i) = some e → e < 1000 := fun e h => by cases h; omega
            refine s_opened (o := some (A 6 i)) hc hi hso hto.2 (fun hg => absurd hl hg) (fun hg σ' hs' => walk (fun hno => absurd hl (hno _ hil.2.2.1)) (fun e he hl2 hm2 => ?_))
            rw [if_neg hq00, hfst e he hl2 hm2]
            exact ⟨rfl, hkeep σ' hs'⟩
  · rcases h1 with h1 | h1
    · exact br_t h1 (s_in0 (Or.inl h1) (b0 ⟨rfl, hR⟩))
    · exact br_c (fun _ => s_in0 (Or.inr h1) (b0 ⟨rfl, hR⟩)) (fun _ => br_f (k_not_le h1) (s_in0 (Or.inr h1) (b0 ⟨rfl, hR⟩)))
