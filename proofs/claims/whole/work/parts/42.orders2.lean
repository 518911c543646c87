theorem thr7 {s : Nat → Int32} {A : aM} (h : CRm s A) (hd : 0 < A 8 2) : s 88 = nI (A 8 1) := by rw [h.thr, if_neg (by omega)]
theorem goo_sub {A : aM} {s m : Nat} (h : (gooN A s 7).testBit m = true) : (A 8 0).testBit m = true ∧ hon A m := by
  unfold gooN at h
  rw [maskN_bit, Bool.and_eq_true, Bool.and_eq_true, Bool.and_eq_true, te_bit] at h
  exact ⟨h.2.1.2, of_decide_eq_true h.2.2⟩
theorem goo_lt (A : aM) (s : Nat) : gooN A s 7 < 256 := maskN_lt _ (by omega)
theorem lia_lt (A : aM) (s k : Nat) (hk : k ≤ 7) : liaN A s k < 256 := maskN_lt _ hk
theorem o7_open {σ τ : k_M} {A : aM} {w : Nat → Nat} {n : Nat} (hT : TW σ τ w n) (hm : CRm (τ 1) A) (hi : aInv A) (hd : 0 < A 8 2) (hL : A 8 3 = 0) (hlo : 1 ≤ n) (hf : ∀ i, 1 ≤ i → i < n → 49 ≤ w i ∧ w i ≤ 55) {Q : Int32 → k_M → Prop} (hy : A 8 1 ≤ cnt (gooN A (fset w 1 n) 7) → ∀ τ', K7 τ τ' → CRm (τ' 1) (aLS A (liaN A (fset w 1 n) 7) (A 8 4)) → Q (nI (wsum (tellN A) (lowN (gooN A (fset w 1 n) 7) (A 8 1) 7) 0 7 % 23)) τ') (hn : ¬ A 8 1 ≤ cnt (gooN A (fset w 1 n) 7) → ∀ τ', K7 τ τ' → CRm (τ' 1) (aLS A (liaN A (fset w 1 n) 7) (A 8 4)) → Q (-5) τ') : wp_X7_open τ Q := by
  unfold wp_X7_open
  refine s_honest (lo := 1) hT hm hi hL hlo hf (fun τ1 h1 h2 => ?_)
  have hg := goo_lt A (fset w 1 n)
  have hcl := cnt_le (gooN A (fset w 1 n) 7)
  have ht5 := (hi.cur hd).2.1
  have e8 : τ1 1 88 = nI (A 8 1) := by have z := thr7 h2 hd; exact z
  have hi1 := hi.ls (L := liaN A (fset w 1 n) 7) (S := A 8 4) (lia_lt A _ 7 (by omega)) hi.s256
  refine s_bits (Nat.lt_trans hg (by omega)) ?_
  rw [kcl_88, e8]
  refine pk_le (A 8 1) (cnt (gooN A (fset w 1 n) 7)) (fun z => s_firstOf hg (by omega) (s_together (g := tellN A) (x := 0) (fun m m1 m2 m3 Q hQ => s_told h2 hi1 m1 m2 (goo_sub (lowN_sub _ _ _ _ m3)).1 hQ) (tellN_lt A) (lowN_lt _ _ (by omega)) (by omega) (hy z τ1 (K7.of1 h1) h2))) (fun z => hn (by omega) τ1 (K7.of1 h1) h2)
/-! weights and polynomials: Lagrange -/
theorem wsum_congr {g g' : Nat → Nat} {set x : Nat} : ∀ n, (∀ m, 1 ≤ m → m ≤ n → set.testBit m = true → g m = g' m) → wsum g set x n = wsum g' set x n
  | 0, _ => rfl
  | n + 1, h => by
    simp only [wsum]
    rw [wsum_congr n (fun m a b c => h m a (by omega) c)]
    by_cases hb : set.testBit (n + 1) = true
    · rw [if_pos hb, if_pos hb, h (n + 1) (by omega) (by omega) hb]
    · rw [if_neg hb, if_neg hb]
theorem wsum_mod {g g' : Nat → Nat} {set x : Nat} (h : ∀ m, g m % 23 = g' m % 23) : ∀ n, wsum g set x n % 23 = wsum g' set x n % 23
  | 0 => rfl
  | n + 1 => by
    simp only [wsum]
    rw [Nat.add_mod, wsum_mod h n, Nat.add_mod (wsum g' set x n)]
    congr 2
    split
    · rw [Nat.mul_mod, h, ← Nat.mul_mod]
    · rfl
theorem wsum_add (g g' : Nat → Nat) (set x : Nat) : ∀ n, wsum (fun m => g m + g' m) set x n = wsum g set x n + wsum g' set x n
  | 0 => rfl
  | n + 1 => by
    simp only [wsum]
    rw [wsum_add g g' set x n]
    split
    · rw [Nat.add_mul]; omega
    · omega
theorem wsum_smul (k : Nat) (g : Nat → Nat) (set x : Nat) : ∀ n, wsum (fun m => k * g m) set x n = k * wsum g set x n
  | 0 => rfl
  | n + 1 => by
    simp only [wsum]
    rw [wsum_smul k g set x n, Nat.mul_add]
    split
    · rw [Nat.mul_assoc]
    · rfl
theorem wsum_0 (set x : Nat) : ∀ n, wsum (fun _ => 0) set x n = 0
  | 0 => rfl
  | n + 1 => by
    simp only [wsum]
    rw [wsum_0 set x n]
    split
    · rw [Nat.zero_mul]
    · rfl
theorem wsum_psum {c : Nat → Nat} {set x : Nat} : ∀ t, (∀ j, j < t → wsum (fun m => m ^ j) set x 7 % 23 = x ^ j % 23) → wsum (fun m => psum c m t) set x 7 % 23 = psum c x t % 23
  | 0, _ => by
    show wsum (fun _ => 0) set x 7 % 23 = 0 % 23
    rw [wsum_0]
  | t + 1, h => by
    show wsum (fun m => psum c m t + c t * m ^ t) set x 7 % 23 = (psum c x t + c t * x ^ t) % 23
    rw [wsum_add, wsum_smul, Nat.add_mod, wsum_psum t (fun j hj => h j (by omega)), Nat.mul_mod, h t (by omega), ← Nat.mul_mod, ← Nat.add_mod]
theorem lag_pow : ∀ S, S < 256 → S.testBit 0 = false → ∀ x, x < 8 → ∀ j, j < 5 → j < cnt S → wsum (fun m => m ^ j) S x 7 % 23 = x ^ j % 23 := by decide +kernel
theorem lagr {c g : Nat → Nat} {S x t : Nat} (hS : S < 256) (hS0 : S.testBit 0 = false) (ht : cnt S = t) (ht5 : t ≤ 5) (hx : x < 8) (hg : ∀ m, 1 ≤ m → m ≤ 7 → S.testBit m = true → g m = pe c t m) : wsum g S x 7 % 23 = pe c t x := by
  rw [wsum_congr (g' := fun m => pe c t m) 7 hg, wsum_mod (g := fun m => pe c t m) (g' := fun m => psum c m t) (fun m => Nat.mod_mod _ _) 7]
  exact wsum_psum t (fun j hj => lag_pow S hS hS0 x hx j (by omega) (by omega))
/-! rebuilding -/
def rebV (A : aM) (s m : Nat) : Nat := wsum (tellN A) (lowN (gooN A s 7) (A 8 1) 7) m 7 % 23
def rebA (A : aM) (s m : Nat) : aM := aHS (aLS A (liaN A s 7) (A 8 4)) (A 8 0 ||| 2 ^ m) (fun q => if q = m then rebV A s m else A 2 q)
theorem bit_in {h m i : Nat} : (h ||| 2 ^ m).testBit i = true ↔ h.testBit i = true ∨ i = m := by
  rw [Nat.testBit_or, Nat.testBit_two_pow, Bool.or_eq_true, decide_eq_true_eq]
  exact ⟨fun z => z.imp id Eq.symm, fun z => z.imp id Eq.symm⟩
theorem o6_rebuild {σ : k_M} {A : aM} {s m : Nat} (hc : CRc (circ σ) A) (hi : aInv A) (hd : 0 < A 8 2) (hL : A 8 3 = 0) (h1 : 1 ≤ m) (h7 : m ≤ 7) {Q : Int32 → k_M → Prop} (hb : (A 8 0).testBit m = true → Q (-5) σ) (hn : ¬ (A 8 0).testBit m = true → ¬ A 8 1 ≤ cnt (gooN A s 7) → ∀ σ', K6 σ σ' → CRc (circ σ') (aLS A (liaN A s 7) (A 8 4)) → Q (-5) σ') (hy : ¬ (A 8 0).testBit m = true → A 8 1 ≤ cnt (gooN A s 7) → ∀ σ', K6 σ σ' → CRc (circ σ') (rebA A s m) → Q 1 σ') : wp_X2_rebuild σ (nI m) (nI s) Q := by
  unfold wp_X2_rebuild
  have e6 : σ 4 6 = nI (A 8 0) := hc.hold
  refine s_mem1 h1 h7 (b1 ?_)
  rw [e6]
  refine s_has (Nat.lt_trans hi.h256 (by omega)) (by omega) (b_if ?_)
  by_cases hbm : (A 8 0).testBit m = true
  · rw [if_pos hbm]; exact hb hbm
  · rw [if_neg hbm]
    refine o6_opened hc hi hd hL (by omega) (fun hg σ1 k1 k2 => br_t (nI_pos' ?_) ⟨vp_in_nI (by omega) (by omega), s_only (by omega) ?_⟩) (fun hg σ1 k1 k2 => br_f (by decide) (hn hbm hg σ1 k1 k2))
    · exact Nat.lt_trans (Nat.mod_lt _ (by omega)) (by omega)
    · rw [nI_clamp (by omega)]
      have e : k_put σ1 7 m (nI (wsum (tellN A) (lowN (gooN A s 7) (A 8 1) 7) m 7 % 23)) 4 6 = nI (A 8 0) := by
        rw [put_cell (by decide)]
        exact k2.hold
      rw [e, n_or]
      refine hy hbm hg _ ⟨?_, ?_⟩ (k2.hs (fun a a1 a2 a3 => ?_) (fun q hq => ?_) put_same (fun i i1 i2 i3 => ?_))
      · rw [put_cell (by decide), put_cell (by decide)]; exact k1.1
      · rw [put_cell (by decide), put_cell (by decide)]; exact k1.2
      · show k_put (k_put _ _ _ _) 4 6 _ (a + 4) = _
        rw [put_cell (by omega), put_cell (by omega)]
      · show k_put (k_put _ _ _ _) 4 6 _ 4 q = _
        rw [put_slot hq, put_cell (by decide)]
      · show k_put (k_put _ _ _ _) 4 6 _ 7 i = nI (if i = m then rebV A s m else A 2 i)
        rw [put_cell (by decide), put_if]
        by_cases e : i = m
        · rw [if_pos e, if_pos e]; rfl
        · rw [if_neg e, if_neg e]
          rcases bit_in.mp i3 with z | z
          · exact k2.shares i i1 i2 z
          · exact absurd z e
theorem o7_rebuild {σ τ : k_M} {A : aM} {w : Nat → Nat} {n m : Nat} (hT : TW σ τ w n) (hm : CRm (τ 1) A) (hi : aInv A) (hd : 0 < A 8 2) (hL : A 8 3 = 0) (hlo : 2 ≤ n) (hwm : w 1 = m + 48) (h1 : 1 ≤ m) (h7 : m ≤ 7) (hf : ∀ i, 2 ≤ i → i < n → 49 ≤ w i ∧ w i ≤ 55) {Q : Int32 → k_M → Prop} (hb : (A 8 0).testBit m = true → Q (-5) τ) (hn : ¬ (A 8 0).testBit m = true → ¬ A 8 1 ≤ cnt (gooN A (fset w 2 n) 7) → ∀ τ', K7 τ τ' → CRm (τ' 1) (aLS A (liaN A (fset w 2 n) 7) (A 8 4)) → Q (-5) τ') (hy : ¬ (A 8 0).testBit m = true → A 8 1 ≤ cnt (gooN A (fset w 2 n) 7) → ∀ τ', K7 τ τ' → CRm (τ' 1) (rebA A (fset w 2 n) m) → Q 1 τ') : wp_X7_rebuild τ Q := by
  unfold wp_X7_rebuild
  refine s_fig7 hT (i := 1) (by omega) ?_
  rw [fg_in (by omega), hwm, show m + 48 - 48 = m by omega]
  refine s_hasShare hm hi h1 h7 (b_if ?_)
  by_cases hbm : (A 8 0).testBit m = true
  · rw [if_pos hbm]; exact hb hbm
  · rw [if_neg hbm]
    refine s_honest (lo := 2) hT hm hi hL hlo hf (fun τ1 k1 k2 => ?_)
    have hg := goo_lt A (fset w 2 n)
    have hcl := cnt_le (gooN A (fset w 2 n) 7)
    have ht5 := (hi.cur hd).2.1
    have e8 : τ1 1 88 = nI (A 8 1) := by have z := thr7 k2 hd; exact z
    have hi1 := hi.ls (L := liaN A (fset w 2 n) 7) (S := A 8 4) (lia_lt A _ 7 (by omega)) hi.s256
    refine s_bits (Nat.lt_trans hg (by omega)) ?_
    rw [kcl_88, e8]
    refine pk_le (A 8 1) (cnt (gooN A (fset w 2 n) 7)) (fun z => s_firstOf hg (by omega) (s_together (g := tellN A) (x := m) (fun i m1 m2 m3 Q hQ => s_told k2 hi1 m1 m2 (goo_sub (lowN_sub _ _ _ _ m3)).1 hQ) (tellN_lt A) (lowN_lt _ _ (by omega)) (by omega) ?_)) (fun z => hn hbm (by omega) τ1 (K7.of1 k1) k2)
    rw [k_l40, nI_add, nI_clamp (by omega)]
    refine ⟨vp_in_nI (by omega) (by omega), hy hbm z _ (K7.of1 (fun a ha => by rw [put_cell ha]; exact k1 a ha)) (k2.hs hi1 (fun q q1 q2 => put_slot (by omega)) (fun i i1 i2 => ?_))⟩
    rw [put_if]
    by_cases e : i = m
    · rw [if_pos (by omega), if_pos (bit_in.mpr (Or.inr e)), if_pos e]
      rfl
    · rw [if_neg (by omega), if_neg e, k2.shares i i1 i2]
      by_cases hbi : (A 8 0).testBit i = true
      · rw [if_pos (show (aLS A _ _ 8 0).testBit i = true from hbi), if_pos (bit_in.mpr (Or.inl hbi))]
        rfl
      · rw [if_neg (show ¬ (aLS A _ _ 8 0).testBit i = true from hbi), if_neg (fun z => (bit_in.mp z).elim hbi e)]
theorem inv_rebuild {A : aM} {s m : Nat} (hi : aInv A) (hd : 0 < A 8 2) (h1 : 1 ≤ m) (h7 : m ≤ 7) (hg : A 8 1 ≤ cnt (gooN A s 7)) : aInv (rebA A s m) := by
  have ht := hi.cur hd
  refine (hi.ls (L := liaN A s 7) (S := A 8 4) (lia_lt A _ 7 (by omega)) hi.s256).hs hd (or_lt hi.h256 h7) ?_ (fun i i1 i2 i3 => ?_)
  · have := hi.h0
    cases hb : (A 8 0 ||| 2 ^ m).testBit 0 with
    | false => rfl
    | true =>
      rcases bit_in.mp hb with z | z
      · rw [this] at z; exact absurd z (by decide)
      · omega
  · show (if i = m then rebV A s m else A 2 i) = pe (A 3) (A 8 1) i
    by_cases e : i = m
    · rw [if_pos e, e]
      refine lagr (lowN_lt _ _ (by omega)) (lowN_0 _ _ _) (lowN_cnt _ (goo_lt A s) (maskN0 _ _) _ (by omega) hg) ht.2.1 (by omega) (fun q q1 q2 q3 => (goo_sub (lowN_sub _ _ _ _ q3)).2)
    · rw [if_neg e]
      rcases bit_in.mp i3 with z | z
      · exact hi.sh i i1 i2 z
      · exact absurd z e
/-! stealing -/
def stA (A : aM) (m : Nat) : aM := fun a k => if a = 5 then (if k = A 8 6 then m else A 5 k) else if a = 6 then (if k = A 8 6 then A 8 2 - 1 else A 6 k) else if a = 7 then (if k = A 8 6 then A 2 m else A 7 k) else if a = 8 then (if k = 6 then A 8 6 + 1 else A 8 k) else A a k
theorem o6_steal {σ : k_M} {A : aM} {m : Nat} (hc : CRc (circ σ) A) (hi : aInv A) (hz : A 8 6 < 24) (h1 : 1 ≤ m) (h7 : m ≤ 7) {Q : Int32 → k_M → Prop} (hn : ¬ (A 8 0).testBit m = true → Q (-5) σ) (hy : (A 8 0).testBit m = true → ∀ σ', K6 σ σ' → CRc (circ σ') (stA A m) → Q (nI (A 8 6 + 1)) σ') : wp_X2_steal σ (nI m) Q := by
  unfold wp_X2_steal
  have e6 : σ 4 6 = nI (A 8 0) := hc.hold
  refine s_mem1 h1 h7 (b1 ?_)
  rw [e6]
  refine s_has (Nat.lt_trans hi.h256 (by omega)) (by omega) (b_if ?_)
  by_cases hbm : (A 8 0).testBit m = true
  · rw [if_pos hbm]
    have hd := hi.dealt hbm
    refine ⟨vp_in_nI (by omega) (by omega), ?_⟩
    rw [nI_clamp (by omega)]
    have e103 : σ 10 3 = nI (A 8 6) := hc.lz
    have e7 : σ 7 m = nI (A 2 m) := hc.shares m h1 h7 hbm
    have e8 : σ 4 8 = nI (A 8 2 - 1) := hc.ep.trans (k_sub_n (b := 1) (by omega))
    rw [e7, e8]
    unfold wp_X1_add wp_X1_isFull
    rw [e103, nI_clamp (by omega)]
    refine br_f (nI_pos (by omega)) (br_t (nI_lt (b := 24) hz (by omega)) (b0 ⟨vp_in_nI hz (by omega), ?_⟩))
    have f1 : k_put σ 11 (A 8 6) (nI m) 10 3 = nI (A 8 6) := by rw [put_cell (by decide)]; exact e103
    rw [f1, nI_clamp (by omega)]
    refine ⟨vp_in_nI hz (by omega), ?_⟩
    have f2 : k_put (k_put σ 11 (A 8 6) (nI m)) 12 (A 8 6) (nI (A 8 2 - 1)) 10 3 = nI (A 8 6) := by rw [put_cell (by decide)]; exact f1
    rw [f2, nI_clamp (by omega)]
    refine ⟨vp_in_nI hz (by omega), ?_⟩
    have f3 : k_put (k_put (k_put σ 11 (A 8 6) (nI m)) 12 (A 8 6) (nI (A 8 2 - 1))) 13 (A 8 6) (nI (A 2 m)) 10 3 = nI (A 8 6) := by rw [put_cell (by decide)]; exact f2
    rw [f3, nI_1]
    dsimp only
    rw [put_same]
    refine hy hbm _ ⟨rfl, rfl⟩ ⟨hc.rows, hc.bends, hc.shares, hc.seals, hc.olds, hc.hold, hc.thr, hc.ep, hc.li, hc.sk, hc.dn, put_same, fun i hi2 => ?_⟩
    have hi' : i < A 8 6 + 1 := hi2
    show k_put (k_put (k_put (k_put σ 11 (A 8 6) (nI m)) 12 (A 8 6) (nI (A 8 2 - 1))) 13 (A 8 6) (nI (A 2 m))) 10 3 (nI (A 8 6 + 1)) 11 i = nI (if i = A 8 6 then m else A 5 i) ∧ k_put (k_put (k_put (k_put σ 11 (A 8 6) (nI m)) 12 (A 8 6) (nI (A 8 2 - 1))) 13 (A 8 6) (nI (A 2 m))) 10 3 (nI (A 8 6 + 1)) 12 i = nI (if i = A 8 6 then A 8 2 - 1 else A 6 i) ∧ k_put (k_put (k_put (k_put σ 11 (A 8 6) (nI m)) 12 (A 8 6) (nI (A 8 2 - 1))) 13 (A 8 6) (nI (A 2 m))) 10 3 (nI (A 8 6 + 1)) 13 i = nI (if i = A 8 6 then A 2 m else A 7 i)
    have g1 : k_put (k_put (k_put (k_put σ 11 (A 8 6) (nI m)) 12 (A 8 6) (nI (A 8 2 - 1))) 13 (A 8 6) (nI (A 2 m))) 10 3 (nI (A 8 6 + 1)) 11 i = if i = A 8 6 then nI m else σ 11 i := by rw [put_cell (by decide), put_cell (by decide), put_cell (by decide), put_if]
    have g2 : k_put (k_put (k_put (k_put σ 11 (A 8 6) (nI m)) 12 (A 8 6) (nI (A 8 2 - 1))) 13 (A 8 6) (nI (A 2 m))) 10 3 (nI (A 8 6 + 1)) 12 i = if i = A 8 6 then nI (A 8 2 - 1) else σ 12 i := by rw [put_cell (by decide), put_cell (by decide), put_if, put_cell (by decide)]
    have g3 : k_put (k_put (k_put (k_put σ 11 (A 8 6) (nI m)) 12 (A 8 6) (nI (A 8 2 - 1))) 13 (A 8 6) (nI (A 2 m))) 10 3 (nI (A 8 6 + 1)) 13 i = if i = A 8 6 then nI (A 2 m) else σ 13 i := by rw [put_cell (by decide), put_if, put_cell (by decide), put_cell (by decide)]
    rw [g1, g2, g3]
    by_cases e : i = A 8 6
    · rw [if_pos e, if_pos e, if_pos e, if_pos e, if_pos e, if_pos e]
      exact ⟨rfl, rfl, rfl⟩
    · rw [if_neg e, if_neg e, if_neg e, if_neg e, if_neg e, if_neg e]
      exact hc.lo i (by omega)
  · rw [if_neg hbm]; exact hn hbm
theorem o7_steal {τ : k_M} {A : aM} {m : Nat} (hm : CRm (τ 1) A) (hi : aInv A) (hz : A 8 6 < 24) (h1 : 1 ≤ m) (h7 : m ≤ 7) {Q : Int32 → k_M → Prop} (hn : ¬ (A 8 0).testBit m = true → Q (-5) τ) (hy : (A 8 0).testBit m = true → ∀ τ', K7 τ τ' → CRm (τ' 1) (stA A m) → Q (nI (A 8 6 + 1)) τ') : wp_X7_steal τ (nI m) Q := by
  unfold wp_X7_steal
  refine s_hasShare hm hi h1 h7 (b_if ?_)
  by_cases hbm : (A 8 0).testBit m = true
  · rw [if_pos hbm]
    have hd := hi.dealt hbm
    have hE := hi.e200
    have e367 : τ 1 367 = nI (A 8 6) := hm.lz
    have e89 : τ 1 89 = nI (A 8 2 - 1) := by rw [hm.ep, if_neg (by omega)]
    have esh : τ 1 (40 + m) = nI (A 2 m) := by rw [hm.shares m h1 h7, if_pos hbm]
    rw [kcl_367, kcl_89, e367, k_l295, k_l3, pk_mul, nI_add, k_l1, nI_add, k_l2, nI_add, k_l40, nI_add, nI_clamp (show 295 + 3 * A 8 6 < 2 ^ 31 by omega), nI_clamp (show 295 + 3 * A 8 6 + 1 < 2 ^ 31 by omega), nI_clamp (show 295 + 3 * A 8 6 + 2 < 2 ^ 31 by omega), nI_clamp (show 40 + m < 2 ^ 31 by omega)]
    refine ⟨vp_in_nI (by omega) (by omega), vp_in_nI (by omega) (by omega), vp_in_nI (by omega) (by omega), vp_in_nI (by omega) (by omega), ?_⟩
    have f1 : k_put τ 1 (295 + 3 * A 8 6) (nI m) 1 89 = nI (A 8 2 - 1) := by rw [put_slot (by omega)]; exact e89
    rw [f1]
    have f2 : k_put (k_put τ 1 (295 + 3 * A 8 6) (nI m)) 1 (295 + 3 * A 8 6 + 1) (nI (A 8 2 - 1)) 1 (40 + m) = nI (A 2 m) := by rw [put_slot (by omega), put_slot (by omega)]; exact esh
    rw [f2]
    have f3 : k_put (k_put (k_put τ 1 (295 + 3 * A 8 6) (nI m)) 1 (295 + 3 * A 8 6 + 1) (nI (A 8 2 - 1))) 1 (295 + 3 * A 8 6 + 2) (nI (A 2 m)) 1 367 = nI (A 8 6) := by rw [put_slot (by omega), put_slot (by omega), put_slot (by omega)]; exact e367
    rw [f3, put_same, nI_add]
    have hs : ∀ q, q < 371 → (q < 295 ∨ 295 + 3 * A 8 6 + 2 < q) → q ≠ 367 → k_put (k_put (k_put (k_put τ 1 (295 + 3 * A 8 6) (nI m)) 1 (295 + 3 * A 8 6 + 1) (nI (A 8 2 - 1))) 1 (295 + 3 * A 8 6 + 2) (nI (A 2 m))) 1 367 (nI (A 8 6 + 1)) 1 q = τ 1 q := fun q q0 q1 q2 => by rw [put_slot q2, put_slot (by omega), put_slot (by omega), put_slot (by omega)]
    refine hy hbm _ (K7.of1 (fun a ha => by rw [put_cell ha, put_cell ha, put_cell ha, put_cell ha])) ⟨fun k hk => (hs _ (by omega) (by omega) (by omega)).trans (hm.rows k hk), fun a b c d e => (hs _ (by omega) (by omega) (by omega)).trans (hm.bends a b c d e), fun a b c => (hs _ (by omega) (by omega) (by omega)).trans (hm.shares a b c), fun j a b => ?_, fun k a => ?_, (hs _ (by omega) (by omega) (by omega)).trans hm.thr, (hs _ (by omega) (by omega) (by omega)).trans hm.ep, put_same, (hs _ (by omega) (by omega) (by omega)).trans hm.dn, (hs _ (by omega) (by omega) (by omega)).trans hm.li, (hs _ (by omega) (by omega) (by omega)).trans hm.sk, fun i hi2 => ?_⟩
    · have b' : j < A 8 1 := b
      have := (hi.cur a).2.1
      exact (hs _ (by omega) (by omega) (by omega)).trans (hm.seals j a b)
    · have a' : k < A 8 2 := a
      exact (hs _ (by omega) (by omega) (by omega)).trans (hm.olds k a)
    · have hi' : i < A 8 6 + 1 := hi2
      show _ = nI (if i = A 8 6 then m else A 5 i) ∧ _ = nI (if i = A 8 6 then A 8 2 - 1 else A 6 i) ∧ _ = nI (if i = A 8 6 then A 2 m else A 7 i)
      by_cases e : i = A 8 6
      · rw [if_pos e, if_pos e, if_pos e, e]
        refine ⟨?_, ?_, ?_⟩
        · rw [put_slot (by omega), put_slot (by omega), put_slot (by omega), put_same]
        · rw [put_slot (by omega), put_slot (by omega), put_if, if_pos (by omega)]
        · rw [put_slot (by omega), put_if, if_pos (by omega)]
      · rw [if_neg e, if_neg e, if_neg e]
        have := hm.lo i (by omega)
        refine ⟨?_, ?_, ?_⟩
        · rw [put_slot (by omega), put_slot (by omega), put_slot (by omega), put_slot (by omega)]; exact this.1
        · rw [put_slot (by omega), put_slot (by omega), put_slot (by omega), put_slot (by omega)]; exact this.2.1
        · rw [put_slot (by omega), put_slot (by omega), put_slot (by omega), put_slot (by omega)]; exact this.2.2
  · rw [if_neg hbm]; exact hn hbm
theorem inv_steal {A : aM} {m : Nat} (hi : aInv A) (hz : A 8 6 < 24) (h1 : 1 ≤ m) (h7 : m ≤ 7) (hb : (A 8 0).testBit m = true) : aInv (stA A m) := by
  have hd := hi.dealt hb
  have ht := hi.cur hd
  refine ⟨hi.rows, hi.bends, hi.h256, hi.h0, hi.e200, hi.l256, hi.s256, hz, hi.cur, hi.olds, hi.cf, fun z => absurd z (Nat.ne_of_gt hd), hi.sh, fun i hi2 => ?_, fun i j hij hj => ?_, hi.c9⟩
  · have hi' : i < A 8 6 + 1 := hi2
    show 1 ≤ (if i = A 8 6 then m else A 5 i) ∧ (if i = A 8 6 then m else A 5 i) ≤ 7 ∧ (if i = A 8 6 then A 8 2 - 1 else A 6 i) < A 8 2 ∧ (if i = A 8 6 then A 2 m else A 7 i) = pe (fun j => A 9 (5 * (if i = A 8 6 then A 8 2 - 1 else A 6 i) + j)) (A 4 (if i = A 8 6 then A 8 2 - 1 else A 6 i)) (if i = A 8 6 then m else A 5 i)
    by_cases e : i = A 8 6
    · rw [if_pos e, if_pos e, if_pos e]
      refine ⟨h1, h7, by omega, ?_⟩
      rw [hi.sh m h1 h7 hb, ht.2.2.1]
      exact pe_congr (fun j hj => (ht.2.2.2 j hj).symm)
    · rw [if_neg e, if_neg e, if_neg e]
      exact hi.lo i (by omega)
  · have hj' : j < A 8 6 + 1 := hj
    show (if i = A 8 6 then A 8 2 - 1 else A 6 i) ≤ (if j = A 8 6 then A 8 2 - 1 else A 6 j)
    by_cases e : j = A 8 6
    · rw [if_pos e]
      by_cases e2 : i = A 8 6
      · rw [if_pos e2]; omega
      · rw [if_neg e2]
        have := (hi.lo i (by omega)).2.2.1
        omega
    · rw [if_neg e, if_neg (by omega)]
      exact hi.srt i j hij (by omega)
