/-! a fresh epoch -/
def frL (A : aM) : Nat → Nat
  | 0 => 0
  | k + 1 => if (A 8 0).testBit (k + 1) then offL A (k + 1) (frL A k) else frL A k
def frS (A : aM) (k : Nat) : Nat := maskN (fun m => (A 8 0).testBit m && decide (skN A m)) k
def frT (A : aM) (k : Nat) : Nat := maskN (fun m => (A 8 0).testBit m && !decide (skN A m)) k
theorem mis_lt (A : aM) (m : Nat) : misN A m 7 < 256 := maskN_lt _ (by omega)
theorem or_lt2 {x y : Nat} (hx : x < 256) (hy : y < 256) : x ||| y < 256 := Nat.or_lt_two_pow (n := 8) hx hy
theorem offL_lt {A : aM} {m L : Nat} (h : L < 256) : offL A m L < 256 := by
  unfold offL
  split
  · exact h
  · exact or_lt2 h (mis_lt A m)
theorem offS_lt {A : aM} {m S : Nat} (h : S < 256) (hm : m ≤ 7) : offS A m S < 256 := by
  unfold offS
  split
  · exact or_lt h hm
  · exact h
theorem offT_lt {A : aM} {m S : Nat} (h : S < 256) (hm : m ≤ 7) : offT A m S < 256 := by
  unfold offT
  split
  · exact h
  · exact or_lt h hm
theorem frL_lt (A : aM) : ∀ k, frL A k < 256
  | 0 => by show 0 < 256; omega
  | k + 1 => by
    simp only [frL]
    split
    · exact offL_lt (frL_lt A k)
    · exact frL_lt A k
theorem frS_lt (A : aM) {k : Nat} (hk : k ≤ 7) : frS A k < 256 := maskN_lt _ hk
theorem frT_lt (A : aM) {k : Nat} (hk : k ≤ 7) : frT A k < 256 := maskN_lt _ hk
theorem frL_ye {A : aM} {k : Nat} (h : (A 8 0).testBit (k + 1) = true) : frL A (k + 1) = offL A (k + 1) (frL A k) := if_pos h
theorem frL_no {A : aM} {k : Nat} (h : ¬ (A 8 0).testBit (k + 1) = true) : frL A (k + 1) = frL A k := if_neg h
theorem frS_ye {A : aM} {k : Nat} (h : (A 8 0).testBit (k + 1) = true) : frS A (k + 1) = offS A (k + 1) (frS A k) := by
  unfold offS
  by_cases hs : skN A (k + 1)
  · rw [if_pos hs]; exact maskN_ye (pq1 (c := skN A (k + 1)) h hs)
  · rw [if_neg hs]; exact maskN_no (pq0 (c := skN A (k + 1)) hs)
theorem frS_no {A : aM} {k : Nat} (h : ¬ (A 8 0).testBit (k + 1) = true) : frS A (k + 1) = frS A k := maskN_no (pqb h)
theorem frT_ye {A : aM} {k : Nat} (h : (A 8 0).testBit (k + 1) = true) : frT A (k + 1) = offT A (k + 1) (frT A k) := by
  unfold offT
  by_cases hs : skN A (k + 1)
  · rw [if_pos hs]; exact maskN_no (pq0n (c := skN A (k + 1)) hs)
  · rw [if_neg hs]; exact maskN_ye (pq1n (c := skN A (k + 1)) h hs)
theorem frT_no {A : aM} {k : Nat} (h : ¬ (A 8 0).testBit (k + 1) = true) : frT A (k + 1) = frT A k := maskN_no (pqb h)
theorem frT_bit {A : aM} {m : Nat} (h1 : 1 ≤ m) (h7 : m ≤ 7) : (frT A 7).testBit m = true ↔ (A 8 0).testBit m = true ∧ ¬ skN A m := by
  unfold frT
  rw [maskN_bit, Bool.and_eq_true, Bool.and_eq_true, Bool.and_eq_true, decide_eq_true_eq, decide_eq_true_eq, Bool.not_eq_true', decide_eq_false_iff_not]
  exact ⟨fun z => z.2, fun z => ⟨⟨h1, h7⟩, z⟩⟩
def frP (A : aM) : Nat → Nat → Nat := fun m => polyOf A m 0
def frC (A : aM) : Nat → Nat := acf (A 3) (fun _ => 1) (frP A) (frT A 7) 7
def freA (A : aM) : aM := nxtA (aLS A (frL A 7) (frS A 7)) (mnus (A 8 0) (frS A 7)) (A 8 1) (fun j => frC A j % 23) (fun m => pe (frC A) (A 8 1) m) (frL A 7) (frS A 7)
theorem pe_mod (c : Nat → Nat) (t x : Nat) : pe (fun j => c j % 23) t x = pe c t x := psum_mod (fun j _ => Nat.mod_mod _ _)
/-- the class closes an epoch -/
theorem s_close {σ : k_M} {A : aM} {H t L S : Nat} {cf sh : Nat → Nat} {κ : k_M} (hc : CRc κ A) (hH : H < 256) (hE : A 8 2 < 200) (e : ∀ a, a = 1 ∨ a = 2 ∨ a = 5 ∨ 6 ≤ a → a ≤ 9 → circ σ a = κ a) (e3 : ∀ m, 1 ≤ m → m ≤ 7 → H.testBit m = true → σ 7 m = nI (sh m)) (e4 : ∀ j, j < t → σ 8 j = nI (4 ^ cf j % 47)) (f6 : σ 4 6 = nI H) (f8 : σ 4 8 = κ 0 8) (f9 : σ 4 9 = nI L) (f10 : σ 4 10 = nI S) (f11 : σ 4 11 = κ 0 11) {Q : Int32 → k_M → Prop} (hq : ∀ σ', K6 σ σ' → CRc (circ σ') (nxtA A (mnus H S) t cf sh L S) → Q (nI (cnt (mnus H S))) σ') : wp_X2_closeEpoch σ (nI t) Q := by
  unfold wp_X2_closeEpoch
  refine s_begin (n := A 8 2) (f8.trans hc.ep) hE (fun σ1 k1 k2 k3 k4 k5 => ?_)
  have g6 : σ1 4 6 = nI H := (k2 6 (by decide) (by decide)).trans f6
  have g10 : σ1 4 10 = nI S := (k2 10 (by decide) (by decide)).trans f10
  rw [g6, g10, n_mnus, put_same]
  refine s_bitCount (mnus_lt hH) (hq _ ⟨?_, ?_⟩ (hc.nxt (fun a a1 a2 => ?_) (fun m a b c => ?_) (fun j hj => ?_) (fun k => ?_) put_same ?_ ?_ ?_ ?_ ?_))
  · rw [put_cell (by decide), k1 1 (by decide) (by decide)]
  · rw [put_cell (by decide), k1 2 (by decide) (by decide)]
  · show k_put σ1 4 6 _ (a + 4) = _
    rw [put_cell (by omega), k1 _ (by omega) (by omega)]
    exact e a (by omega) a2
  · show k_put σ1 4 6 _ 7 m = _
    rw [put_cell (by decide), k1 7 (by decide) (by decide)]
    rw [mnus_bit hH, Bool.and_eq_true] at c
    exact e3 m a b c.1
  · show k_put σ1 4 6 _ 8 j = _
    rw [put_cell (by decide), k1 8 (by decide) (by decide)]
    exact e4 j hj
  · show k_put σ1 4 6 _ 9 k = _
    rw [put_cell (by decide), k5, ← e 5 (by omega) (by omega)]
  · show k_put σ1 4 6 _ 4 7 = _
    rw [put_slot (by decide)]; exact k3
  · show k_put σ1 4 6 _ 4 8 = _
    rw [put_slot (by decide)]; exact k4
  · show k_put σ1 4 6 _ 4 9 = _
    rw [put_slot (by decide), k2 9 (by decide) (by decide)]; exact f9
  · show k_put σ1 4 6 _ 4 10 = _
    rw [put_slot (by decide)]; exact g10
  · show k_put σ1 4 6 _ 4 11 = _
    rw [put_slot (by decide), k2 11 (by decide) (by decide)]; exact f11
theorem o6_fresh {σ : k_M} {A : aM} (hc : CRc (circ σ) A) (hi : aInv A) (hd : 0 < A 8 2) (hE : A 8 2 < 200) (hL : A 8 3 = 0) (hS : A 8 4 = 0) {Q : Int32 → k_M → Prop} (hq : ∀ σ', K6 σ σ' → CRc (circ σ') (freA A) → Q (nI (cnt (mnus (A 8 0) (frS A 7)))) σ') : wp_X2_fresh σ Q := by
  unfold wp_X2_fresh
  have ht := hi.cur hd
  have e7 : σ 4 7 = nI (A 8 1) := hc.thr hd
  rw [e7]
  refine k_lpI2 7 (fun k x σ' => x = nI (k + 1) ∧ K6 σ σ' ∧ CRc (circ σ') (aLS A (frL A k) (frS A k)) ∧ σ' 3 5 = nI (frT A k) ∧ (∀ m, 1 ≤ m → m ≤ k → (A 8 0).testBit m = true → ∀ j, j < A 8 1 → σ' 15 (5 * m + j) = nI (polyOf A m 0 j)) ∧ (∀ m, 1 ≤ m → m ≤ k → (A 8 0).testBit m = true → σ' 17 m = 1)) 0 (by omega) ⟨rfl, ⟨rfl, rfl⟩, hc.ls (fun _ _ _ => rfl) (fun _ _ _ => rfl) (by have := hc.li; rw [hL] at this; exact this) (by have := hc.sk; rw [hS] at this; exact this), put_same, fun m a b => absurd b (by omega), fun m a b => absurd b (by omega)⟩ ?_
  rintro k hk x σ1 ⟨rfl, f1, f2, f3, f4, f5⟩ B hB
  have hn1 : nI (k + 1) + (1 : Int32) = nI (k + 1 + 1) := nI_add (k + 1) 1
  have hi1 := hi.ls (L := frL A k) (S := frS A k) (frL_lt A k) (frS_lt A hk)
  have e6 : σ1 4 6 = nI (A 8 0) := f2.hold
  rcases Nat.lt_or_ge k 7 with hlt | hge
  · refine br_f (nI_nlt (a := 7) (b := k + 1) (by omega) (by omega)) ?_
    rw [e6]
    refine s_has (Nat.lt_trans hi.h256 (by omega)) (by omega) (b_if ?_)
    by_cases hb : (A 8 0).testBit (k + 1) = true
    · rw [if_pos hb]
      refine s_offer (v := 0) (T := frT A k) f2 hi1 (by omega) (by omega) ht.1 ht.2.1 (by omega) f3 (fun σ2 g1 g2 g3 g4 g5 => ⟨vp_in_nI (by omega) (by omega), ?_⟩)
      rw [nI_clamp (by omega)]
      refine hB hlt _ _ ⟨hn1, ⟨?_, ?_⟩, ?_, ?_, fun m a b c j hj => ?_, fun m a b c => ?_⟩
      · rw [put_cell (by decide), g1 1 (by decide) (by decide) (by decide) (by decide)]; exact f1.1
      · rw [put_cell (by decide), g1 2 (by decide) (by decide) (by decide) (by decide)]; exact f1.2
      · rw [frL_ye hb, frS_ye hb]
        have g4' : CRc (circ (k_put σ2 17 (k + 1) 1)) (aLS (aLS A (frL A k) (frS A k)) (offL A (k + 1) (frL A k)) (offS A (k + 1) (frS A k))) := g4.ls (κ' := circ (k_put σ2 17 (k + 1) 1)) (fun a a1 a2 => put_cell (by omega)) (fun _ _ _ => rfl) g4.li g4.sk
        exact ⟨g4'.rows, g4'.bends, g4'.shares, g4'.seals, g4'.olds, g4'.hold, g4'.thr, g4'.ep, g4'.li, g4'.sk, g4'.dn, g4'.lz, g4'.lo⟩
      · rw [put_cell (by decide), g5, frT_ye hb]
        rfl
      · rw [put_cell (by decide)]
        by_cases e : m = k + 1
        · rw [e]; exact g3 j hj
        · rw [g2 _ (by omega)]
          exact f4 m a (by omega) c j hj
      · rw [put_if]
        by_cases e : m = k + 1
        · rw [if_pos e]
        · rw [if_neg e, g1 17 (by decide) (by decide) (by decide) (by decide)]
          exact f5 m a (by omega) c
    · rw [if_neg hb]
      refine hB hlt _ _ ⟨hn1, f1, ?_, ?_, fun m a b c => f4 m a ?_ c, fun m a b c => f5 m a ?_ c⟩
      · rw [frL_no hb, frS_no hb]; exact f2
      · rw [frT_no hb]; exact f3
      · rcases Nat.lt_or_ge k m with z | z
        · have : m = k + 1 := by omega
          rw [this] at c; exact absurd c hb
        · exact z
      · rcases Nat.lt_or_ge k m with z | z
        · have : m = k + 1 := by omega
          rw [this] at c; exact absurd c hb
        · exact z
  · have hk7 : k = 7 := by omega
    subst hk7
    refine br_t (by decide) (s_pourTaken (H := A 8 0) (T := frT A 7) (t := A 8 1) (c0 := A 3) (f := fun _ => 1) (P := frP A) e6 hi.h256 f3 (frT_lt A (by omega)) ht.2.1 (fun m a b c j hj => f4 m a b ((frT_bit a b).mp c).1 j hj) (fun m a b j => polyOf_lt hi b (by omega) j) (fun m a b c => f5 m a b ((frT_bit a b).mp c).1) (fun m => by omega) (fun i a b c => ?_) (fun j hj => f2.seals j hd hj) (fun σ2 g1 g2 g3 => ?_))
    · rw [show σ1 7 i = nI (A 2 i) from f2.shares i a b c, hi.sh i a b c]
    · refine s_close (κ := circ σ1) (cf := fun j => frC A j % 23) (sh := fun m => pe (frC A) (A 8 1) m) (L := frL A 7) (S := frS A 7) f2 hi.h256 hE (fun a a1 a2 => g1 _ (by omega) (by omega)) g2 (fun j hj => ?_) ?_ ?_ ?_ ?_ ?_ (fun σ3 k1 k2 => hq σ3 ⟨?_, ?_⟩ k2)
      · rw [g3 j hj]
        show _ = nI (4 ^ (frC A j % 23) % 47)
        rw [← four_mod]
        rfl
      · rw [g1 4 (by decide) (by decide)]; exact e6
      · rw [g1 4 (by decide) (by decide)]
      · rw [g1 4 (by decide) (by decide)]; exact f2.li
      · rw [g1 4 (by decide) (by decide)]; exact f2.sk
      · rw [g1 4 (by decide) (by decide)]
      · rw [k1.1, g1 1 (by decide) (by decide)]; exact f1.1
      · rw [k1.2, g1 2 (by decide) (by decide)]; exact f1.2
theorem inv_fresh {A : aM} (hi : aInv A) (hd : 0 < A 8 2) (hE : A 8 2 < 200) : aInv (freA A) := by
  have ht := hi.cur hd
  refine (hi.ls (L := frL A 7) (S := frS A 7) (frL_lt A 7) (frS_lt A (by omega))).nxt hE (mnus_lt hi.h256) ?_ ht.1 ht.2.1 (fun j => Nat.mod_lt _ (by omega)) (fun m _ _ _ => (pe_mod _ _ _).symm) (frL_lt A 7) (frS_lt A (by omega))
  rw [mnus_bit hi.h256, hi.h0]
  rfl
