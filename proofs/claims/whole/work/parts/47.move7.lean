/-! the reference's move -/
theorem CRm.h {s : Nat → Int32} {A : aM} (h : CRm s A) : CRh s A := ⟨h.shares, h.bends⟩
theorem asc_lt {w : Nat → Nat} {n : Nat} (h : ∀ i, 3 ≤ i → i < n → w (i - 1) < w i) {i : Nat} (hi : 2 ≤ i) : ∀ d, i + d < n → w i ≤ w (i + d)
  | 0, _ => Nat.le_refl _
  | d + 1, hd => by
    have h1 := asc_lt h hi d (by omega)
    have h2 := h (i + d + 1) (by omega) (by omega)
    rw [show i + d + 1 - 1 = i + d by omega] at h2
    rw [show i + (d + 1) = i + d + 1 by omega]
    omega
theorem asc_le {w : Nat → Nat} {n : Nat} (h : ∀ i, 3 ≤ i → i < n → w (i - 1) < w i) {i j : Nat} (hi : 2 ≤ i) (hij : i ≤ j) (hj : j < n) : w i ≤ w j := by
  have := asc_lt h hi (j - i) (by omega)
  rw [show i + (j - i) = j by omega] at this
  exact this
def pvF (w : Nat → Nat) (j : Nat) : Nat := if j ≤ 2 then 0 else w (j - 1) - 48
theorem s_taken {σ τ : k_M} {A : aM} {w : Nat → Nat} {n t : Nat} (hT : TW σ τ w n) (hm : CRm (τ 1) A) (hi : aInv A) (hd : 0 < A 8 2) (hL : A 8 3 = 0) (hS : A 8 4 = 0) (hlo : 2 ≤ n) (hf : ∀ i, 2 ≤ i → i < n → 49 ≤ w i ∧ w i ≤ 55) (hasc : ∀ i, 3 ≤ i → i < n → w (i - 1) < w i) (ht1 : 1 ≤ t) (ht5 : t ≤ 5) {Q : Int32 → k_M → Prop} (hq : ∀ τ', (∀ a, a ≠ 0 → a ≠ 1 → a ≠ 3 → τ' a = τ a) → (∀ k, k ≠ 4 → τ' 0 k = τ 0 k) → CRm (τ' 1) (aLS A (mv A (fset w 2 n) 7).2.1 (mv A (fset w 2 n) 7).2.2) → Q (nI (mv A (fset w 2 n) 7).1) τ') : wp_X7_takenFor τ (nI t) Q := by
  have hn10 := hT.1
  have hcu := hi.cur hd
  unfold wp_X7_takenFor
  have hfin : ∀ j, 2 ≤ j → j ≤ n → (j = n ∨ ¬ cnt (mv A (fset w 2 n) (pvF w j)).1 < A 8 1) → mv A (fset w 2 n) 7 = mv A (fset w 2 n) (pvF w j) := by
    intro j hj1 hj2 hx
    have hp7 : pvF w j ≤ 7 := by
      unfold pvF
      split
      · omega
      · have := hf (j - 1) (by omega) (by omega)
        omega
    rcases hx with hx | hx
    · have hg := mv_gap (A := A) (s := fset w 2 n) (k := pvF w j) (7 - pvF w j) (fun q q1 q2 hb => ?_)
      · rw [show pvF w j + (7 - pvF w j) = 7 by omega] at hg
        exact hg
      · obtain ⟨i, i1, i2, i3, i4, i5⟩ := (fset_bit w 2 n q).mp (te_bit.mp hb).1
        unfold pvF at q1
        rw [if_neg (by omega)] at q1
        have := asc_le hasc i1 (show i ≤ j - 1 by omega) (by omega)
        omega
    · have hg := mv_stable (A := A) (s := fset w 2 n) (k := pvF w j) hx (7 - pvF w j)
      rw [show pvF w j + (7 - pvF w j) = 7 by omega] at hg
      exact hg
  refine k_lpI3 n (fun j p k τ' => p = nI (mv A (fset w 2 n) (pvF w j)).1 ∧ k = nI j ∧ 2 ≤ j ∧ (∀ a, a ≠ 0 → a ≠ 1 → a ≠ 3 → τ' a = τ a) ∧ (∀ k, k ≠ 4 → τ' 0 k = τ 0 k) ∧ CRm (τ' 1) (aLS A (mv A (fset w 2 n) (pvF w j)).2.1 (mv A (fset w 2 n) (pvF w j)).2.2)) 2 hlo ⟨rfl, rfl, Nat.le_refl _, fun _ _ _ _ => rfl, fun _ _ => rfl, hm.ls hi (fun _ _ _ _ => rfl) (by have := hm.li; rw [hL] at this; exact this) (by have := hm.sk; rw [hS] at this; exact this)⟩ ?_
  rintro j hj p k τ1 ⟨rfl, rfl, hj2, h1, h2, h3⟩ B hB
  have hT1 : TW σ τ1 w n := hT.m (h2 2 (by decide)) (h1 2 (by decide) (by decide) (by decide))
  have hp7 : pvF w j ≤ 7 := by
    unfold pvF
    split
    · omega
    · have := hf (j - 1) (by omega) (by omega)
      omega
  have hlt3 := mv_lt (A := A) (s := fset w 2 n) (pvF w j) hp7
  have hi1 := hi.ls hlt3.2.1 hlt3.2.2
  rw [hT1.2.2.1]
  rcases Nat.lt_or_ge j n with hlt | hge
  · have hcl := cnt_le (mv A (fset w 2 n) (pvF w j)).1
    have e88 : τ1 1 88 = nI (A 8 1) := by have z := thr7 h3 hd; exact z
    refine br_f (nI_ge hlt (by omega)) (s_bits (Nat.lt_trans hlt3.1 (by omega)) ?_)
    rw [kcl_88, e88]
    refine pk_le (A 8 1) (cnt (mv A (fset w 2 n) (pvF w j)).1) (fun hg => ?_) (fun hg => ?_)
    · have e := hfin j hj2 hj (Or.inr (by omega))
      rw [e] at hq
      exact hq τ1 h1 h2 h3
    · have hwj := hf j hj2 hlt
      have hn1 : nI j + (1 : Int32) = nI (j + 1) := nI_add j 1
      have hpv1 : pvF w (j + 1) = w j - 48 := by
        unfold pvF
        rw [if_neg (by omega), show j + 1 - 1 = j by omega]
      have hgap : mv A (fset w 2 n) (w j - 48 - 1) = mv A (fset w 2 n) (pvF w j) := by
        have hle : pvF w j ≤ w j - 48 - 1 := by
          unfold pvF
          split
          · omega
          · have := hasc j (by omega) hlt
            have := hf (j - 1) (by omega) (by omega)
            omega
        have hg2 := mv_gap (A := A) (s := fset w 2 n) (k := pvF w j) (w j - 48 - 1 - pvF w j) (fun q q1 q2 hb => ?_)
        · rw [show pvF w j + (w j - 48 - 1 - pvF w j) = w j - 48 - 1 by omega] at hg2
          exact hg2
        · obtain ⟨i, i1, i2, i3, i4, i5⟩ := (fset_bit w 2 n q).mp (te_bit.mp hb).1
          rcases Nat.lt_or_ge i j with z | z
          · unfold pvF at q1
            rw [if_neg (by omega)] at q1
            have := asc_le hasc i1 (show i ≤ j - 1 by omega) (by omega)
            omega
          · have := asc_le hasc hj2 z i2
            omega
      have hfs : (fset w 2 n).testBit (w j - 48) = true := (fset_bit w 2 n _).mpr ⟨j, hj2, hlt, hwj.1, hwj.2, rfl⟩
      obtain ⟨m, hmj⟩ : ∃ m, w j - 48 = m + 1 := ⟨w j - 48 - 1, by omega⟩
      rw [hmj] at hfs hpv1 hgap
      rw [show m + 1 - 1 = m by omega] at hgap
      rw [hpv1] at hB
      rw [← hgap] at hg hlt3 hi1 h3 ⊢
      refine s_fig7 hT1 hlt ?_
      rw [fg_in (by omega), hmj]
      refine s_hasShare h3 hi1 (by omega) (by omega) (b_if ?_)
      by_cases hb : (A 8 0).testBit (m + 1) = true
      · have hteb : (teN A (fset w 2 n)).testBit (m + 1) = true := te_bit.mpr ⟨hfs, hb⟩
        rw [if_pos (show (aLS A _ _ 8 0).testBit (m + 1) = true from hb)]
        refine s_told h3 hi1 (by omega) (by omega) hb (fitM h3 hi1 (hi1.dealt (m := m + 1) hb) (tellN_lt _ _) (by omega) (b_if ?_))
        by_cases hh : hon A (m + 1)
        · rw [if_pos (show tellN (aLS A _ _) (m + 1) = pe (aLS A _ _ 3) (aLS A _ _ 8 1) (m + 1) from hh)]
          refine s_told h3 hi1 (by omega) (by omega) hb (s_layPoly (m := m + 1) (by omega) ht1 ht5 (fun τ2 d1 d2 d3 d4 d5 => ?_))
          have hP2 : ∀ q, mvP A (m + 1) q < 23 := fun q => polyOf_lt hi (by omega) (tellN_lt A _) q
          have hp2 : ∀ q, q < t → τ2 3 q = nI (mvP A (m + 1) q) := by
            intro q hq2
            unfold mvP polyOf
            by_cases e : q = 0
            · rw [if_pos e, e]; exact d4
            · rw [if_neg e, if_pos (by omega), d5 q (by omega) hq2]
              exact h3.rows _ (by omega)
          have d1' : τ2 1 = τ1 1 := d1 1 (by decide) (by decide)
          have hstep := mv_ho (by omega) hteb hh
          rw [hstep] at hB
          rw [k_only (by omega), n_or, n_or0]
          refine s_struck (A := A) (P := mvP A (m + 1)) (t := t) (L := (mv A (fset w 2 n) m).2.1) (S := (mv A (fset w 2 n) m).2.2) ⟨by rw [d1']; exact h3.shares, by rw [d1']; exact h3.bends⟩ hi (by omega) (by omega) ht5 d3 hp2 hP2 (by rw [d1']; exact h3.li) (by rw [d1']; exact h3.sk) (fun hs => b1 (hB hlt _ _ _ ⟨?_, hn1, by omega, fun a a0 a1 a3 => by rw [put_cell a1, d1 a a0 a3]; exact h1 a a0 a1 a3, fun q hq2 => by rw [put_cell (by decide), d2 q hq2]; exact h2 q hq2, ?_⟩)) (fun hs => b0 (hB hlt _ _ _ ⟨?_, hn1, by omega, fun a a0 a1 a3 => by rw [put_cell a1, d1 a a0 a3]; exact h1 a a0 a1 a3, fun q hq2 => by rw [put_cell (by decide), d2 q hq2]; exact h2 q hq2, ?_⟩))
          · unfold offT; rw [if_pos hs]
          · have g := h3.ls (s' := k_put τ2 1 370 (nI (offS A (m + 1) (mv A (fset w 2 n) m).2.2)) 1) (L := offL A (m + 1) (mv A (fset w 2 n) m).2.1) (S := offS A (m + 1) (mv A (fset w 2 n) m).2.2) hi1 (fun q _ _ q2 => by rw [put_slot q2, d1']) (by rw [put_slot (by decide), d1', show τ1 1 369 = nI (mv A (fset w 2 n) m).2.1 from h3.li]; unfold offL; rw [if_pos hs]) put_same
            rw [aLS2] at g
            exact g
          · unfold offT; rw [if_neg hs]
          · have g := h3.ls (s' := k_put τ2 1 369 (nI (offL A (m + 1) (mv A (fset w 2 n) m).2.1)) 1) (L := offL A (m + 1) (mv A (fset w 2 n) m).2.1) (S := offS A (m + 1) (mv A (fset w 2 n) m).2.2) hi1 (fun q _ q1 _ => by rw [put_slot q1, d1']) put_same (by rw [put_slot (by decide), d1', show τ1 1 370 = nI (mv A (fset w 2 n) m).2.2 from h3.sk]; unfold offS; rw [if_neg hs])
            rw [aLS2] at g
            exact g
        · rw [if_neg (show ¬ tellN (aLS A _ _) (m + 1) = pe (aLS A _ _ 3) (aLS A _ _ 8 1) (m + 1) from hh)]
          have hstep := mv_li (by omega) hteb hh
          rw [hstep] at hB
          rw [k_only (by omega), kcl_369, show τ1 1 369 = nI (mv A (fset w 2 n) m).2.1 from h3.li, n_or]
          refine hB hlt _ _ _ ⟨rfl, hn1, by omega, fun a a0 a1 a3 => by rw [put_cell a1]; exact h1 a a0 a1 a3, fun q hq2 => by rw [put_cell (by decide)]; exact h2 q hq2, ?_⟩
          have g := h3.ls (s' := k_put τ1 1 369 (nI ((mv A (fset w 2 n) m).2.1 ||| 2 ^ (m + 1))) 1) (L := (mv A (fset w 2 n) m).2.1 ||| 2 ^ (m + 1)) (S := (mv A (fset w 2 n) m).2.2) hi1 (fun q _ q1 _ => put_slot q1) put_same ((put_slot (by decide)).trans h3.sk)
          rw [aLS2] at g
          exact g
      · rw [if_neg (show ¬ (aLS A _ _ 8 0).testBit (m + 1) = true from hb)]
        have hstep : mv A (fset w 2 n) (m + 1) = mv A (fset w 2 n) m := mv_no (fun z => hb (te_bit.mp z.2).2)
        rw [hstep] at hB
        exact hB hlt _ _ _ ⟨rfl, hn1, by omega, h1, h2, h3⟩
  · have e : j = n := by omega
    subst e
    have e := hfin j hj2 hj (Or.inl rfl)
    rw [e] at hq
    exact br_t (nI_le (Nat.le_refl _) (by omega)) (hq τ1 h1 h2 h3)
theorem o7_move {σ τ : k_M} {A : aM} {w : Nat → Nat} {n t : Nat} (hT : TW σ τ w n) (hm : CRm (τ 1) A) (hi : aInv A) (hd : 0 < A 8 2) (hE : A 8 2 < 200) (hL : A 8 3 = 0) (hS : A 8 4 = 0) (hlo : 2 ≤ n) (hf : ∀ i, 2 ≤ i → i < n → 49 ≤ w i ∧ w i ≤ 55) (hasc : ∀ i, 3 ≤ i → i < n → w (i - 1) < w i) (ht1 : 1 ≤ t) (ht5 : t ≤ 5) {Q : Int32 → k_M → Prop} (hn : ¬ A 8 1 ≤ cnt (mv A (fset w 2 n) 7).1 → ∀ τ', K7 τ τ' → CRm (τ' 1) (aLS A (mv A (fset w 2 n) 7).2.1 (mv A (fset w 2 n) 7).2.2) → Q (-5) τ') (hy : A 8 1 ≤ cnt (mv A (fset w 2 n) 7).1 → ∀ τ', K7 τ τ' → CRm (τ' 1) (movA A (fset w 2 n) t) → Q (nI (cnt (mnus (A 8 0) (mv A (fset w 2 n) 7).2.2))) τ') : wp_X7_move τ (nI t) Q := by
  have hcu := hi.cur hd
  have hlt3 := mv_lt (A := A) (s := fset w 2 n) 7 (by omega)
  have hi1 := hi.ls hlt3.2.1 hlt3.2.2
  unfold wp_X7_move
  refine s_taken hT hm hi hd hL hS hlo hf hasc ht1 ht5 (fun τ1 a1 a2 a3 => ?_)
  have hK1 : K7 τ τ1 := ⟨a2 2 (by decide), a1 2 (by decide) (by decide) (by decide), a1 6 (by decide) (by decide) (by decide), a1 7 (by decide) (by decide) (by decide)⟩
  have hinv := inv_move (s := fset w 2 n) hi hE ht1 ht5
  unfold movA at hy hinv
  unfold mvC at hy hinv
  generalize hs : mv A (fset w 2 n) 7 = M at hlt3 hi1 a3 hy hinv hn ⊢
  obtain ⟨T, L, S⟩ := M
  replace a3 : CRm (τ1 1) (aLS A L S) := a3
  replace hi1 : aInv (aLS A L S) := hi1
  have hcl := cnt_le T
  have e88 : τ1 1 88 = nI (A 8 1) := by have z := thr7 a3 hd; exact z
  have hTl : T < 256 := hlt3.1
  have hSl : S < 256 := hlt3.2.2
  have hTm : ∀ m, T.testBit m = true → 1 ≤ m ∧ m ≤ 7 ∧ (A 8 0).testBit m = true := by
    intro m hb
    have := mv_bit (A := A) (s := fset w 2 n) 7 m (by rw [hs]; exact hb)
    exact ⟨this.1, this.2.1, (te_bit.mp this.2.2.1).2⟩
  refine s_bits (Nat.lt_trans hTl (by omega)) ?_
  rw [kcl_88, e88]
  refine pk_le (A 8 1) (cnt T) (fun hg => ?_) (fun hg => hn (show ¬ A 8 1 ≤ cnt T by omega) τ1 hK1 a3)
  refine k_lpI2 8 (fun j x τ' => x = nI j ∧ (∀ a, a ≠ 4 → τ' a = τ1 a) ∧ (∀ i, i < j → τ' 4 i = 0)) 0 (by omega) ⟨rfl, fun _ _ => rfl, fun i h => absurd h (by omega)⟩ ?_
  rintro j hj x τ2 ⟨rfl, b1', b2⟩ B hB
  rcases Nat.lt_or_ge j 8 with hlt | hge
  · refine br_f (nI_ge (b := 8) hlt (by omega)) ⟨vp_in_nI hlt (by omega), ?_⟩
    rw [nI_clamp (by omega)]
    refine hB hlt _ _ ⟨by rw [k_l1, nI_add], fun a ha => by rw [put_cell ha]; exact b1' a ha, fun i hi2 => ?_⟩
    rw [put_if]
    by_cases e : i = j
    · rw [if_pos e]
    · rw [if_neg e]; exact b2 i (by omega)
  have hj8 : j = 8 := by omega
  subst hj8
  refine br_t (by decide) ?_
  refine k_lpI2 t (fun j x τ' => x = nI j ∧ (∀ a, a ≠ 5 → τ' a = τ2 a) ∧ (∀ i, i < j → τ' 5 i = 1)) 0 (by omega) ⟨rfl, fun _ _ => rfl, fun i h => absurd h (by omega)⟩ ?_
  rintro j hj x τ3 ⟨rfl, c1, c2⟩ B2 hB2
  rcases Nat.lt_or_ge j t with hlt | hge2
  · refine br_f (nI_ge hlt (by omega)) ⟨vp_in_nI (by omega) (by omega), ?_⟩
    rw [nI_clamp (by omega)]
    refine hB2 hlt _ _ ⟨by rw [k_l1, nI_add], fun a ha => by rw [put_cell ha]; exact c1 a ha, fun i hi2 => ?_⟩
    rw [put_if]
    by_cases e : i = j
    · rw [if_pos e]
    · rw [if_neg e]; exact c2 i (by omega)
  have hjt : j = t := by omega
  subst hjt
  refine br_t (nI_le (Nat.le_refl _) (by omega)) ?_
  have hall3 : ∀ a, a ≠ 4 → a ≠ 5 → τ3 a = τ1 a := fun a h4 h5 => by rw [c1 a h5, b1' a h4]
  refine k_lpI2 7 (fun k x τ' => x = nI (k + 1) ∧ (∀ a, a ≠ 0 → a ≠ 3 → a ≠ 4 → a ≠ 5 → τ' a = τ1 a) ∧ (∀ q, q ≠ 4 → τ' 0 q = τ1 0 q) ∧ (∀ i, 1 ≤ i → i ≤ 7 → τ' 4 i = nI (adN (fun m => wgt m T 0) (mvP A) T j k i)) ∧ (∀ i, i < j → τ' 5 i = nI (4 ^ acf (fun _ => 0) (fun m => wgt m T 0) (mvP A) T k i % 47))) 0 (by omega) ⟨rfl, fun a _ _ h4 h5 => hall3 a h4 h5, fun q _ => by rw [hall3 0 (by decide) (by decide)], fun i i1 i2 => by rw [c1 4 (by decide)]; exact b2 i (by omega), fun i hi2 => by rw [c2 i hi2]; rfl⟩ ?_
  rintro k hk x τ4 ⟨rfl, d1, d2, d3, d4⟩ B3 hB3
  have hn1 : nI (k + 1) + (1 : Int32) = nI (k + 1 + 1) := nI_add (k + 1) 1
  have hc4 : CRm (τ4 1) (aLS A L S) := by rw [d1 1 (by decide) (by decide) (by decide) (by decide)]; exact a3
  rcases Nat.lt_or_ge k 7 with hlt | hge3
  · refine br_f (nI_nlt (a := 7) (b := k + 1) (by omega) (by omega)) (s_has7 (by omega) (by omega) (b_if ?_))
    by_cases hb : T.testBit (k + 1) = true
    · rw [if_pos hb]
      have hTk := hTm _ hb
      refine s_weight7 (x := 0) (by omega) (by omega) hTl (by omega) (s_told hc4 hi1 (by omega) (by omega) hTk.2.2 (s_layPoly (m := k + 1) (by omega) ht1 ht5 (fun τ5 e1 e2 e3 e4 e5 => ?_)))
      have hP5 : ∀ q, mvP A (k + 1) q < 23 := fun q => polyOf_lt hi (by omega) (tellN_lt A _) q
      have hp5 : ∀ q, q < j → τ5 3 q = nI (mvP A (k + 1) q) := by
        intro q hq2
        unfold mvP polyOf
        by_cases e : q = 0
        · rw [if_pos e, e]; exact e4
        · rw [if_neg e, if_pos (by omega), e5 q (by omega) hq2]
          exact hc4.rows _ (by omega)
      have hw := wgt_lt (k + 1) T 0
      refine k_lpI2 7 (fun i x τ' => x = nI (i + 1) ∧ (∀ a, a ≠ 4 → τ' a = τ5 a) ∧ (∀ q, 1 ≤ q → q ≤ i → τ' 4 q = nI (adN (fun m => wgt m T 0) (mvP A) T j (k + 1) q)) ∧ (∀ q, i < q → τ' 4 q = τ4 4 q)) 0 (by omega) ⟨rfl, fun _ _ => rfl, fun q u v => absurd v (by omega), fun q _ => by rw [e1 4 (by decide) (by decide)]⟩ ?_
      rintro i hi7 x τ6 ⟨rfl, f1, f2, f3⟩ B4 hB4
      have hn2 : nI (i + 1) + (1 : Int32) = nI (i + 1 + 1) := nI_add (i + 1) 1
      rcases Nat.lt_or_ge i 7 with hlt4 | hge4
      · refine br_f (nI_nlt (a := 7) (b := i + 1) (by omega) (by omega)) ⟨vp_in_nI (by omega) (by omega), s_polyAt7 (c := mvP A (k + 1)) (by rw [f1 0 (by decide)]; exact e3) (fun q hq2 => by rw [f1 3 (by decide)]; exact hp5 q hq2) hP5 (by omega) ht5 ⟨vp_in_nI (by omega) (by omega), ?_⟩⟩
        rw [nI_clamp (by omega), f3 _ (by omega), d3 (i + 1) (by omega) (by omega), pk_mul, nI_add]
        refine hB4 hlt4 _ _ ⟨hn2, fun a ha => by rw [put_cell ha]; exact f1 a ha, fun q u v => ?_, fun q u => by rw [put_slot (by omega)]; exact f3 q (by omega)⟩
        rw [put_if]
        by_cases e : q = i + 1
        · rw [if_pos e, e, adN_ye hb]
        · rw [if_neg e]; exact f2 q u (by omega)
      · have hi77 : i = 7 := by omega
        subst hi77
        refine br_t (by decide) ?_
        refine k_lpI2 j (fun q x τ' => x = nI q ∧ (∀ a, a ≠ 5 → τ' a = τ6 a) ∧ (∀ r, r < q → τ' 5 r = nI (4 ^ acf (fun _ => 0) (fun m => wgt m T 0) (mvP A) T (k + 1) r % 47)) ∧ (∀ r, q ≤ r → τ' 5 r = τ4 5 r)) 0 (by omega) ⟨rfl, fun _ _ => rfl, fun q u => absurd u (by omega), fun q _ => by rw [f1 5 (by decide), e1 5 (by decide) (by decide)]⟩ ?_
        rintro q hq0 x τ7 ⟨rfl, l1, l2, l3⟩ B5 hB5
        rcases Nat.lt_or_ge q j with hlt5 | hge5
        · have hfj := four_lt (acf (fun _ => 0) (fun m => wgt m T 0) (mvP A) T k q)
          have hfp := four_lt (mvP A (k + 1) q)
          have hfq := four_lt (mvP A (k + 1) q * wgt (k + 1) T 0)
          have hmul : 4 ^ acf (fun _ => 0) (fun m => wgt m T 0) (mvP A) T k q % 47 * (4 ^ (mvP A (k + 1) q * wgt (k + 1) T 0) % 47) ≤ 47 * 47 := Nat.mul_le_mul (by omega) (by omega)
          refine br_f (nI_ge hlt5 (by omega)) ⟨vp_in_nI (by omega) (by omega), vp_in_nI (by omega) (by omega), ?_⟩
          rw [nI_clamp (by omega), l1 3 (by decide), f1 3 (by decide), hp5 q hlt5, l3 q (by omega), d4 q hlt5, k_l47]
          refine s_sealOf7 (Nat.lt_trans (hP5 q) (by omega)) (s_power (by omega) (by omega) (by omega) (by omega) ⟨vp_in_nI (by omega) (by omega), ?_⟩)
          rw [four_pow, pk_mul, k_rem_n (by omega) (by omega) (by omega), four_mul]
          refine hB5 hlt5 _ _ ⟨by rw [k_l1, nI_add], fun a ha => by rw [put_cell ha]; exact l1 a ha, fun r u => ?_, fun r u => by rw [put_slot (by omega)]; exact l3 r (by omega)⟩
          rw [put_if]
          by_cases e : r = q
          · rw [if_pos e, acf_ye hb, e]
            dsimp only
            rw [Nat.mul_comm (mvP A (k + 1) q)]
          · rw [if_neg e]; exact l2 r (by omega)
        · refine br_t (nI_le hge5 (by omega)) (hB3 hlt _ _ ⟨hn1, fun a h0 h3 h4 h5 => ?_, fun r hr => ?_, fun r r1 r2 => ?_, fun r hr => l2 r (by omega)⟩)
          · rw [l1 a h5, f1 a h4, e1 a h0 h3]; exact d1 a h0 h3 h4 h5
          · rw [l1 0 (by decide), f1 0 (by decide), e2 r hr]; exact d2 r hr
          · rw [l1 4 (by decide)]; exact f2 r r1 r2
    · rw [if_neg hb]
      exact hB3 hlt _ _ ⟨hn1, d1, d2, fun i i1 i2 => by rw [adN_no hb]; exact d3 i i1 i2, by rw [acf_no hb]; exact d4⟩
  · have hk7 : k = 7 := by omega
    subst hk7
    refine br_t (by decide) ?_
    refine k_lpI2 7 (fun i x τ' => x = nI (i + 1) ∧ (∀ a, a ≠ 1 → τ' a = τ4 a) ∧ (∀ q, (q < 41 ∨ 41 + i ≤ q) → τ' 1 q = τ4 1 q) ∧ (∀ m, 1 ≤ m → m ≤ i → τ' 1 (40 + m) = if (A 8 0).testBit m then nI (pe (acf (fun _ => 0) (fun m => wgt m T 0) (mvP A) T 7) j m) else -6)) 0 (by omega) ⟨rfl, fun _ _ => rfl, fun _ _ => rfl, fun m u v => absurd v (by omega)⟩ ?_
    rintro i hi7 x τ5 ⟨rfl, e1, e2, e3⟩ B4 hB4
    have hn2 : nI (i + 1) + (1 : Int32) = nI (i + 1 + 1) := nI_add (i + 1) 1
    rcases Nat.lt_or_ge i 7 with hlt4 | hge4
    · have hsl : τ5 1 (40 + (i + 1)) = if (A 8 0).testBit (i + 1) then nI (A 2 (i + 1)) else -6 := by rw [e2 _ (by omega)]; exact hc4.shares _ (by omega) (by omega)
      refine br_f (nI_nlt (a := 7) (b := i + 1) (by omega) (by omega)) (s_hasSh hsl (by omega) (fun hb => Nat.lt_trans (share_lt hi (by omega) (by omega) hb) (by omega)) (b_if ?_))
      rw [k_l40, nI_add, nI_clamp (by omega), nI_clamp (by omega)]
      by_cases hb : (A 8 0).testBit (i + 1) = true
      · rw [if_pos hb, e1 4 (by decide), d3 (i + 1) (by omega) (by omega)]
        have hle := adN_le (f := fun m => wgt m T 0) (P := mvP A) (T := T) (t := j) (fun m => wgt_lt _ _ _) (i + 1) 7
        refine ⟨vp_in_nI (by omega) (by omega), s_mod7 (by omega) ⟨vp_in_nI (by omega) (by omega), hB4 hlt4 _ _ ⟨hn2, fun a ha => by rw [put_cell ha]; exact e1 a ha, fun q u => by rw [put_slot (by omega)]; exact e2 q (by omega), fun m u v => ?_⟩⟩⟩
        rw [put_if]
        by_cases e : m = i + 1
        · have := adN_acf (c0 := fun _ => 0) (f := fun m => wgt m T 0) (P := mvP A) (T := T) (t := j) (i + 1) 7
          rw [pe_z, Nat.zero_add] at this
          rw [if_pos (by omega), e, if_pos hb, this]
        · rw [if_neg (by omega)]; exact e3 m u (by omega)
      · rw [if_neg hb]
        refine ⟨vp_in_nI (by omega) (by omega), hB4 hlt4 _ _ ⟨hn2, fun a ha => by rw [put_cell ha]; exact e1 a ha, fun q u => by rw [put_slot (by omega)]; exact e2 q (by omega), fun m u v => ?_⟩⟩
        rw [put_if]
        by_cases e : m = i + 1
        · rw [if_pos (by omega), e, if_neg hb]
        · rw [if_neg (by omega)]; exact e3 m u (by omega)
    · have hi77 : i = 7 := by omega
      subst hi77
      refine br_t (by decide) ?_
      refine k_lpI2 j (fun q x τ' => x = nI q ∧ (∀ a, a ≠ 1 → τ' a = τ5 a) ∧ (∀ r, (r < 90 ∨ 95 ≤ r) → τ' 1 r = τ5 1 r) ∧ (∀ r, r < q → τ' 1 (90 + r) = nI (4 ^ acf (fun _ => 0) (fun m => wgt m T 0) (mvP A) T 7 r % 47))) 0 (by omega) ⟨rfl, fun _ _ => rfl, fun _ _ => rfl, fun q u => absurd u (by omega)⟩ ?_
      rintro q hq0 x τ6 ⟨rfl, l1, l2, l3⟩ B5 hB5
      rcases Nat.lt_or_ge q j with hlt5 | hge5
      · refine br_f (nI_ge hlt5 (by omega)) ⟨vp_in_nI (by omega) (by omega), ?_⟩
        rw [k_l90, nI_add, nI_clamp (by omega), nI_clamp (by omega), l1 5 (by decide), e1 5 (by decide), d4 q hlt5]
        refine ⟨vp_in_nI (by omega) (by omega), hB5 hlt5 _ _ ⟨by rw [k_l1, nI_add], fun a ha => by rw [put_cell ha]; exact l1 a ha, fun r hr => by rw [put_slot (by omega)]; exact l2 r hr, fun r u => ?_⟩⟩
        rw [put_if]
        by_cases e : r = q
        · rw [if_pos (by omega), e]
        · rw [if_neg (by omega)]; exact l3 r (by omega)
      · refine br_t (nI_le hge5 (by omega)) ?_
        have hsq : ∀ r, r ≠ 88 → (r < 90 ∨ 95 ≤ r) → (r < 41 ∨ 48 ≤ r) → k_put τ6 1 88 (nI j) 1 r = τ1 1 r := fun r r0 r1 r2 => by
          rw [put_slot r0, l2 r r1, e2 r (by omega), d1 1 (by decide) (by decide) (by decide) (by decide)]
        refine s_end7 (H := A 8 0) (t := j) (L := L) (S := S) (cf := fun r => acf (fun _ => 0) (fun m => wgt m T 0) (mvP A) T 7 r % 23) (sh := fun m => pe (acf (fun _ => 0) (fun m => wgt m T 0) (mvP A) T 7) j m) a3 hi1 hd hE hi.h256 hSl hinv (fun r hr => hsq r (by omega) (by omega) (by omega)) (fun m u v => ?_) (fun r hr => ?_) ht5 (fun r hr => hsq _ (by omega) (by omega) (by omega)) put_same (hsq 89 (by omega) (by omega) (by omega)) ?_ ?_ (fun τ' k1 k2 => hy hg τ' (hK1.trans (K7.trans ⟨?_, ?_, ?_, ?_⟩ k1)) k2)
        · rw [put_slot (by omega), l2 _ (by omega)]; exact e3 m u v
        · rw [put_slot (by omega), l3 r (by omega), ← four_mod]
        · rw [hsq 369 (by omega) (by omega) (by omega)]; exact a3.li
        · rw [hsq 370 (by omega) (by omega) (by omega)]; exact a3.sk
        · rw [put_cell (by decide), l1 0 (by decide), e1 0 (by decide), d2 2 (by decide)]
        · rw [put_cell (by decide), l1 2 (by decide), e1 2 (by decide), d1 2 (by decide) (by decide) (by decide) (by decide)]
        · rw [put_cell (by decide), l1 6 (by decide), e1 6 (by decide), d1 6 (by decide) (by decide) (by decide) (by decide)]
        · rw [put_cell (by decide), l1 7 (by decide), e1 7 (by decide), d1 7 (by decide) (by decide) (by decide) (by decide)]
