/-! the reference's spreading -/
def CRh (s : Nat → Int32) (A : aM) : Prop := (∀ m, 1 ≤ m → m ≤ 7 → s (40 + m) = if (A 8 0).testBit m then nI (A 2 m) else -6) ∧ (∀ m w, 1 ≤ m → m ≤ 7 → w < 5 → s (48 + 8 * w + m) = nI (A 1 (5 * m + w)))
theorem s_hasSh {τ : k_M} {m H v : Nat} (h : τ 1 (40 + m) = if H.testBit m then nI v else -6) (h7 : m ≤ 7) (hv : H.testBit m = true → v < 1000) {Q : Int32 → Prop} (hq : Q (if H.testBit m then 1 else 0)) : wp_X7_hasShare τ (nI m) Q := by
  unfold wp_X7_hasShare
  rw [k_l40, nI_add]
  refine ⟨vp_in_nI (by omega) (by omega), ?_⟩
  rw [nI_clamp (by omega), h]
  by_cases hb : H.testBit m = true
  · have := hv hb
    rw [if_pos hb] at hq ⊢
    exact br_f (nI_pos (by omega)) hq
  · rw [if_neg hb] at hq ⊢
    exact br_t (by decide) hq
theorem s_bentA {τ : k_M} {A : aM} (hh : CRh (τ 1) A) {m w : Nat} (h1 : 1 ≤ m) (h7 : m ≤ 7) (hw : w < 5) {Q : Int32 → Prop} (hq : Q (nI (A 1 (5 * m + w)))) : wp_X7_bentOf τ (nI m) (nI w) Q := s_bentOf h7 hw (by rw [hh.2 m w h1 h7 hw]; exact hq)
theorem s_struck {τ : k_M} {A : aM} {P : Nat → Nat} {m t L S : Nat} (hh : CRh (τ 1) A) (hi : aInv A) (h1 : 1 ≤ m) (h7 : m ≤ 7) (ht : t ≤ 5) (h04 : τ 0 4 = nI t) (hp : ∀ j, j < t → τ 3 j = nI (P j)) (hP : ∀ j, P j < 23) (h369 : τ 1 369 = nI L) (h370 : τ 1 370 = nI S) {Q : Int32 → k_M → Prop} (hy : skN A m → Q 1 (k_put τ 1 370 (nI (offS A m S)))) (hn : ¬ skN A m → Q 0 (k_put τ 1 369 (nI (offL A m L)))) : wp_X7_isStruck τ (nI m) Q := by
  unfold wp_X7_isStruck
  refine k_lpI3 7 (fun i x y k => x = (if cmpN A m i ≠ 0 then 1 else 0) ∧ y = nI (misN A m i) ∧ k = nI (i + 1)) 0 (by omega) ⟨rfl, rfl, rfl⟩ ?_
  rintro i hi7 x y k ⟨rfl, rfl, rfl⟩ B hB
  have hn1 : nI (i + 1) + (1 : Int32) = nI (i + 1 + 1) := nI_add (i + 1) 1
  rcases Nat.lt_or_ge i 7 with hlt | hge
  · refine br_f (nI_nlt (a := 7) (b := i + 1) (by omega) (by omega)) (s_hasSh (hh.1 (i + 1) (by omega) (by omega)) (by omega) (fun hb => Nat.lt_trans (share_lt hi (by omega) (by omega) hb) (by omega)) (b_if ?_))
    by_cases hb : (A 8 0).testBit (i + 1) = true
    · rw [if_pos hb]
      have hsl := slip_le hi (i := i + 1) h1 h7
      have hpe := pe_lt P t (i + 1)
      refine s_polyAt7 h04 hp hP (by omega) ht (s_bentA hh h1 h7 (w := 2) (by omega) ⟨fun y => y = nI (slipN A m (i + 1)), ?_, pk_eq (A 1 (5 * m + 2)) (i + 1) (fun h => s_bentA hh h1 h7 (w := 1) (by omega) ?_) (fun h => ?_) rfl rfl (Nat.lt_trans (b_lt hi h1 h7 (by omega)) (by omega))⟩)
      · rintro y rfl
        rw [nI_add]
        refine s_mod7 (by omega) (s_fitsPoly h04 hp hP (Nat.mod_lt _ (by omega)) (by omega) ht (s_bentA hh (by omega) (by omega) (w := 3) (by omega) ⟨fun y => y = if grd A m (i + 1) then 1 else 0, ?_, pk_eq (A 1 (5 * (i + 1) + 3)) m (fun hg => ?_) (fun hg => ?_) rfl rfl (Nat.lt_trans (b_lt hi (by omega) (by omega) (by omega)) (by omega))⟩))
        · rintro y rfl
          refine ⟨fun y => y = if cmpN A m (i + 1) ≠ 0 then 1 else 0, ?_, cmpN A m (i + 1) ≠ 0, fun z => by rw [if_pos z], ?_⟩
          · rintro y rfl
            rw [n_or0, k_only (by omega), n_or]
            by_cases hw : wrg A m (i + 1)
            · rw [if_neg (fun z => slip_0.mp ((slip_fit hpe hsl).mp z) hw)]
              refine b0 (hB hlt _ _ _ ⟨rfl, ?_, hn1⟩)
              show _ = nI (maskN _ (i + 1))
              rw [maskN_no (by simp only [hb, Bool.true_and, Bool.and_eq_true, Bool.not_eq_true', decide_eq_false_iff_not]; exact fun z => z.1 hw)]
              rfl
            · rw [if_pos ((slip_fit hpe hsl).mpr (slip_0.mpr hw))]
              refine b1 ?_
              by_cases hg : grd A m (i + 1)
              · rw [if_pos hg]
                refine b1 (hB hlt _ _ _ ⟨rfl, ?_, hn1⟩)
                show _ = nI (maskN _ (i + 1))
                rw [maskN_ye (by simp only [hb, Bool.true_and, Bool.and_eq_true, Bool.not_eq_true', decide_eq_false_iff_not, decide_eq_true_eq]; exact ⟨hw, hg⟩)]
                rfl
              · rw [if_neg hg]
                refine b0 (hB hlt _ _ _ ⟨rfl, ?_, hn1⟩)
                show _ = nI (maskN _ (i + 1))
                rw [maskN_no (by simp only [hb, Bool.true_and, Bool.and_eq_true, Bool.not_eq_true', decide_eq_false_iff_not, decide_eq_true_eq]; exact fun z => hg z.2)]
                rfl
          · by_cases hcm : cmpN A m i ≠ 0
            · rw [if_pos hcm]
              refine b1 ?_
              by_cases hp2 : ((A 8 0).testBit (i + 1) && (decide (wrg A m (i + 1)) || decide (grd A m (i + 1)))) = true
              · exact maskN_ne hp2
              · have e : cmpN A m (i + 1) = cmpN A m i := maskN_no hp2
                rw [e]; exact hcm
            · rw [if_neg hcm]
              refine b0 ?_
              by_cases hw : wrg A m (i + 1)
              · rw [if_neg (fun z => slip_0.mp ((slip_fit hpe hsl).mp z) hw)]
                exact b0 (maskN_ne (by simp only [hb, Bool.true_and, Bool.or_eq_true, decide_eq_true_eq]; exact Or.inl hw))
              · rw [if_pos ((slip_fit hpe hsl).mpr (slip_0.mpr hw))]
                refine b1 ?_
                by_cases hg : grd A m (i + 1)
                · rw [if_pos hg]
                  exact b1 (maskN_ne (by simp only [hb, Bool.true_and, Bool.or_eq_true, decide_eq_true_eq]; exact Or.inr hg))
                · rw [if_neg hg]
                  have e : cmpN A m (i + 1) = cmpN A m i := maskN_no (by simp only [hb, Bool.true_and, Bool.or_eq_true, decide_eq_true_eq]; exact fun z => z.elim hw hg)
                  refine b0 ?_
                  rw [e, if_neg hcm]
        · rw [if_pos hg]
        · rw [if_neg hg]
      · unfold slipN; rw [if_pos h]
      · unfold slipN; rw [if_neg h]; rfl
    · rw [if_neg hb]
      have e : cmpN A m (i + 1) = cmpN A m i := maskN_no (pqb hb)
      have e2 : misN A m (i + 1) = misN A m i := maskN_no (pqb hb)
      refine hB hlt _ _ _ ⟨by rw [e], by rw [e2], hn1⟩
  · have hi2 : i = 7 := by omega
    subst hi2
    refine br_t (by decide) ⟨¬ skN A m, fun hs => ?_, ?_⟩
    · rw [kcl_369, h369, n_or]
      have := hn hs
      unfold offL at this
      rw [if_neg hs] at this
      exact this
    · by_cases hcm : cmpN A m 7 ≠ 0
      · rw [if_pos hcm]
        refine b1 (s_bentA hh h1 h7 (w := 4) (by omega) (pk_eq (A 1 (5 * m + 4)) 0 (fun g => ?_) (fun g => fun z => g z.2) rfl rfl (Nat.lt_trans (b_lt hi (by omega) (by omega) (by omega)) (by omega))))
        have hs : skN A m := ⟨hcm, g⟩
        rw [kcl_370, h370, k_only (by omega), n_or]
        have := hy hs
        unfold offS at this
        rw [if_pos hs] at this
        exact this
      · rw [if_neg hcm]
        exact b0 (fun z => hcm z.1)
/-- what is added -/
def adN (f : Nat → Nat) (P : Nat → Nat → Nat) (T t : Nat) : Nat → Nat → Nat
  | 0, _ => 0
  | k + 1, i => adN f P T t k i + (if T.testBit (k + 1) then pe (P (k + 1)) t i * f (k + 1) else 0)
theorem adN_ye {f : Nat → Nat} {P : Nat → Nat → Nat} {T t k : Nat} (h : T.testBit (k + 1) = true) (i : Nat) : adN f P T t (k + 1) i = adN f P T t k i + pe (P (k + 1)) t i * f (k + 1) := by
  simp only [adN]; rw [if_pos h]
theorem adN_no {f : Nat → Nat} {P : Nat → Nat → Nat} {T t k : Nat} (h : ¬ T.testBit (k + 1) = true) (i : Nat) : adN f P T t (k + 1) i = adN f P T t k i := by
  simp only [adN]; rw [if_neg h]; rfl
theorem adN_le {f : Nat → Nat} {P : Nat → Nat → Nat} {T t : Nat} (hf : ∀ m, f m < 23) (i : Nat) : ∀ k, adN f P T t k i ≤ 484 * k
  | 0 => Nat.le_refl _
  | k + 1 => by
    have h1 := adN_le (P := P) (T := T) (t := t) hf i k
    have h2 := pe_lt (P (k + 1)) t i
    have h3 := hf (k + 1)
    have h4 : pe (P (k + 1)) t i * f (k + 1) ≤ 22 * 22 := Nat.mul_le_mul (by omega) (by omega)
    simp only [adN]
    split <;> omega
theorem adN_acf {c0 f : Nat → Nat} {P : Nat → Nat → Nat} {T t : Nat} (i : Nat) : ∀ k, (pe c0 t i + adN f P T t k i) % 23 = pe (acf c0 f P T k) t i
  | 0 => Nat.mod_eq_of_lt (pe_lt _ _ _)
  | k + 1 => by
    by_cases h : T.testBit (k + 1) = true
    · rw [adN_ye h, acf_ye h, ← pe_step, ← adN_acf i k, Nat.mul_comm]
      generalize f (k + 1) * pe (P (k + 1)) t i = y
      generalize adN f P T t k i = d
      generalize pe c0 t i = a
      omega
    · rw [adN_no h, acf_no h]
      exact adN_acf i k
/-- striking -/
theorem s_strike {τ : k_M} {S : Nat} (h : τ 1 370 = nI S) (hS : S < 256) {Q : k_M → Prop} (hq : ∀ τ', (∀ a, a ≠ 1 → τ' a = τ a) → (∀ q, (q < 41 ∨ 48 ≤ q) → τ' 1 q = τ 1 q) → (∀ m, 1 ≤ m → m ≤ 7 → τ' 1 (40 + m) = if S.testBit m then -6 else τ 1 (40 + m)) → Q τ') : wp_X7_strike τ Q := by
  unfold wp_X7_strike
  refine k_lpI2 7 (fun k x τ' => x = nI (k + 1) ∧ (∀ a, a ≠ 1 → τ' a = τ a) ∧ (∀ q, (q < 41 ∨ 41 + k ≤ q) → τ' 1 q = τ 1 q) ∧ (∀ m, 1 ≤ m → m ≤ k → τ' 1 (40 + m) = if S.testBit m then -6 else τ 1 (40 + m))) 0 (by omega) ⟨rfl, fun _ _ => rfl, fun _ _ => rfl, fun m a b => absurd b (by omega)⟩ ?_
  rintro k hk x τ1 ⟨rfl, f1, f2, f3⟩ B hB
  have hn1 : nI (k + 1) + (1 : Int32) = nI (k + 1 + 1) := nI_add (k + 1) 1
  rcases Nat.lt_or_ge k 7 with hlt | hge
  · refine br_f (nI_nlt (a := 7) (b := k + 1) (by omega) (by omega)) ?_
    rw [kcl_370, f2 370 (by omega), h, k_l40, nI_add, nI_clamp (by omega)]
    refine s_has7 (by omega) (by omega) (b_if ?_)
    by_cases hb : S.testBit (k + 1) = true
    · rw [if_pos hb]
      refine ⟨vp_in_nI (by omega) (by omega), hB hlt _ _ ⟨hn1, fun a ha => by rw [put_cell ha]; exact f1 a ha, fun q hq2 => by rw [put_slot (by omega)]; exact f2 q (by omega), fun m a b => ?_⟩⟩
      rw [put_if]
      by_cases e : m = k + 1
      · rw [if_pos (by omega), e, if_pos hb]
      · rw [if_neg (by omega)]
        exact f3 m a (by omega)
    · rw [if_neg hb]
      refine ⟨vp_in_nI (by omega) (by omega), vp_in_nI (by omega) (by omega), hB hlt _ _ ⟨hn1, fun a ha => by rw [put_cell ha]; exact f1 a ha, fun q hq2 => by rw [put_slot (by omega)]; exact f2 q (by omega), fun m a b => ?_⟩⟩
      rw [put_if]
      by_cases e : m = k + 1
      · rw [if_pos (by omega), e, if_neg hb, f2 _ (by omega)]
      · rw [if_neg (by omega)]
        exact f3 m a (by omega)
  · have hk7 : k = 7 := by omega
    subst hk7
    exact br_t (by decide) (hq τ1 f1 (fun q hq2 => f2 q (by omega)) f3)
/-- the end of a reference's epoch: next, strike, count -/
theorem s_end7 {τ : k_M} {s : Nat → Int32} {A : aM} {H t L S : Nat} {cf sh : Nat → Nat} (hm : CRm s A) (hi : aInv A) (hd : 0 < A 8 2) (hE : A 8 2 < 200) (hH : H < 256) (hS : S < 256) (hin : aInv (nxtA A (mnus H S) t cf sh L S)) (e1 : ∀ q, (q < 40 ∨ (48 ≤ q ∧ q < 88) ∨ (295 ≤ q ∧ q < 369)) → τ 1 q = s q) (e3 : ∀ m, 1 ≤ m → m ≤ 7 → τ 1 (40 + m) = if H.testBit m then nI (sh m) else -6) (e4 : ∀ j, j < t → τ 1 (90 + j) = nI (4 ^ cf j % 47)) (ht : t ≤ 5) (e5 : ∀ k, k < 200 → τ 1 (95 + k) = s (95 + k)) (f7 : τ 1 88 = nI t) (f8 : τ 1 89 = s 89) (f9 : τ 1 369 = nI L) (f10 : τ 1 370 = nI S) {Q : Int32 → k_M → Prop} (hq : ∀ τ', K7 τ τ' → CRm (τ' 1) (nxtA A (mnus H S) t cf sh L S) → Q (nI (cnt (mnus H S))) τ') : wp_X7_nextEpoch τ (fun σ_195 => wp_X7_strike σ_195 (fun σ_199 => wp_X7_having σ_199 (fun r_203 => wp_X7_bits r_203 (fun r_206 => Q r_206 σ_199)))) := by
  have e89 : s 89 = nI (A 8 2) - 1 := by
    rw [hm.ep, if_neg (by omega)]
    exact (k_sub_n (b := 1) (by omega)).symm
  refine s_next (n := A 8 2) (f8.trans e89) f7 hE (fun τ1 g1 g2 g3 g4 => s_strike (S := S) (by rw [g2 370 (by omega) (by omega)]; exact f10) hS (fun τ2 k1 k2 k3 => ?_))
  have hm2 : CRm (τ2 1) (nxtA A (mnus H S) t cf sh L S) := by
    refine hm.nxt hi hE (fun q hq2 => ?_) (fun m a b => ?_) (fun j hj => ?_) (fun k hk => ?_) ?_ ?_ ?_ ?_
    · rw [k2 q (by omega), g2 q (by omega) (by omega)]; exact e1 q hq2
    · rw [k3 m a b, g2 _ (by omega) (by omega), e3 m a b]
      by_cases hb : S.testBit m = true
      · rw [if_pos hb, if_neg]
        rw [mnus_bit hH, hb]; simp
      · rw [if_neg hb]
        have hbf : S.testBit m = false := by simpa using hb
        by_cases hh : H.testBit m = true
        · rw [if_pos hh, if_pos]
          rw [mnus_bit hH, hbf, hh]; rfl
        · rw [if_neg hh, if_neg]
          rw [mnus_bit hH, Bool.and_eq_true]
          exact fun z => hh z.1
    · rw [k2 _ (by omega), g2 _ (by omega) (by omega)]; exact e4 j hj
    · rw [k2 _ (by omega), g4 k hk, e5 k hk]
    · rw [k2 _ (by omega), g2 _ (by omega) (by omega)]; exact f7
    · rw [k2 _ (by omega)]; exact g3
    · rw [k2 _ (by omega), g2 _ (by omega) (by omega)]; exact f9
    · rw [k2 _ (by omega), g2 _ (by omega) (by omega)]; exact f10
  refine s_having hm2 hin (s_bits (Nat.lt_trans hin.h256 (by omega)) (hq τ2 (K7.of1 (fun a ha => (k1 a ha).trans (g1 a ha))) hm2))
theorem K7.trans {a b c : k_M} (h1 : K7 a b) (h2 : K7 b c) : K7 a c := ⟨h2.1.trans h1.1, h2.2.1.trans h1.2.1, h2.2.2.1.trans h1.2.2.1, h2.2.2.2.trans h1.2.2.2⟩
theorem o7_fresh {τ : k_M} {A : aM} (hm : CRm (τ 1) A) (hi : aInv A) (hd : 0 < A 8 2) (hE : A 8 2 < 200) (hL : A 8 3 = 0) (hS : A 8 4 = 0) {Q : Int32 → k_M → Prop} (hq : ∀ τ', K7 τ τ' → CRm (τ' 1) (freA A) → Q (nI (cnt (mnus (A 8 0) (frS A 7)))) τ') : wp_X7_fresh τ Q := by
  unfold wp_X7_fresh
  have ht := hi.cur hd
  have e88 : τ 1 88 = nI (A 8 1) := thr7 hm hd
  have hz := hi.z24
  refine k_lpI2 8 (fun j x τ' => x = nI j ∧ (∀ a, a ≠ 4 → τ' a = τ a) ∧ (∀ i, i < j → τ' 4 i = 0)) 0 (by omega) ⟨rfl, fun _ _ => rfl, fun i h => absurd h (by omega)⟩ ?_
  rintro j hj x τ1 ⟨rfl, a1, a2⟩ B hB
  rcases Nat.lt_or_ge j 8 with hlt | hge
  · refine br_f (nI_ge (b := 8) hlt (by omega)) ⟨vp_in_nI hlt (by omega), ?_⟩
    rw [nI_clamp (by omega)]
    refine hB hlt _ _ ⟨by rw [k_l1, nI_add], fun a ha => by rw [put_cell ha]; exact a1 a ha, fun i hi2 => ?_⟩
    rw [put_if]
    by_cases e : i = j
    · rw [if_pos e]
    · rw [if_neg e]; exact a2 i (by omega)
  have hj8 : j = 8 := by omega
  subst hj8
  refine br_t (by decide) ?_
  refine k_lpI2 7 (fun k x τ' => x = nI (k + 1) ∧ K7 τ τ' ∧ (∀ q, q < 371 → (q < 90 ∨ 95 ≤ q) → q ≠ 369 → q ≠ 370 → τ' 1 q = τ 1 q) ∧ τ' 1 369 = nI (frL A k) ∧ τ' 1 370 = nI (frS A k) ∧ (∀ j, j < A 8 1 → τ' 1 (90 + j) = nI (4 ^ acf (A 3) (fun _ => 1) (frP A) (frT A 7) k j % 47)) ∧ (∀ i, 1 ≤ i → i ≤ 7 → τ' 4 i = nI (adN (fun _ => 1) (frP A) (frT A 7) (A 8 1) k i))) 0 (by omega) ⟨rfl, ⟨by rw [a1 0 (by decide)], a1 2 (by decide), a1 6 (by decide), a1 7 (by decide)⟩, fun q _ _ _ _ => by rw [a1 1 (by decide)], by rw [a1 1 (by decide)]; have := hm.li; rw [hL] at this; exact this, by rw [a1 1 (by decide)]; have := hm.sk; rw [hS] at this; exact this, fun j hj => by rw [a1 1 (by decide)]; exact hm.seals j hd hj, fun i i1 i2 => a2 i (by omega)⟩ ?_
  rintro k hk x τ2 ⟨rfl, c1, c2, c3, c4, c5, c6⟩ B2 hB2
  have hn1 : nI (k + 1) + (1 : Int32) = nI (k + 1 + 1) := nI_add (k + 1) 1
  have hsh2 : ∀ m, 1 ≤ m → m ≤ 7 → τ2 1 (40 + m) = if (A 8 0).testBit m then nI (A 2 m) else -6 := fun m b1 b2 => by rw [c2 _ (by omega) (by omega) (by omega) (by omega)]; exact hm.shares m b1 b2
  have hbe2 : ∀ m w, 1 ≤ m → m ≤ 7 → w < 5 → τ2 1 (48 + 8 * w + m) = nI (A 1 (5 * m + w)) := fun m w b1 b2 b3 => by rw [c2 _ (by omega) (by omega) (by omega) (by omega)]; exact hm.bends m w b1 b2 b3
  rcases Nat.lt_or_ge k 7 with hlt | hge2
  · refine br_f (nI_nlt (a := 7) (b := k + 1) (by omega) (by omega)) (s_hasSh (hsh2 (k + 1) (by omega) (by omega)) (by omega) (fun hb => Nat.lt_trans (share_lt hi (by omega) (by omega) hb) (by omega)) (b_if ?_))
    by_cases hb : (A 8 0).testBit (k + 1) = true
    · rw [if_pos hb, kcl_88, c2 88 (by omega) (by omega) (by omega) (by omega), e88, k_l0]
      refine s_layPoly (m := k + 1) (by omega) ht.1 ht.2.1 (fun τ3 d1 d2 d3 d4 d5 => ?_)
      have hp3 : ∀ j, j < A 8 1 → τ3 3 j = nI (frP A (k + 1) j) := by
        intro j hj
        unfold frP polyOf
        by_cases e : j = 0
        · rw [if_pos e, e]; exact d4
        · rw [if_neg e, if_pos (by omega), d5 j (by omega) hj, c2 _ (by omega) (by omega) (by omega) (by omega)]
          exact hm.rows _ (by omega)
      have hP3 : ∀ j, frP A (k + 1) j < 23 := fun j => polyOf_lt hi (by omega) (by omega) j
      have d1' : τ3 1 = τ2 1 := d1 1 (by decide) (by decide)
      refine s_struck (A := A) (P := frP A (k + 1)) (t := A 8 1) (L := frL A k) (S := frS A k) ⟨by rw [d1']; exact hsh2, by rw [d1']; exact hbe2⟩ hi (by omega) (by omega) ht.2.1 d3 hp3 hP3 (by rw [d1']; exact c3) (by rw [d1']; exact c4) (fun hs => b1 (hB2 hlt _ _ ⟨hn1, c1.trans ⟨?_, ?_, ?_, ?_⟩, fun q q0 q1 q2 q3 => ?_, ?_, ?_, fun j hj => ?_, fun i i1 i2 => ?_⟩)) (fun hs => b0 ?_)
      · rw [put_cell (by decide), d2 2 (by decide)]
      · rw [put_cell (by decide), d1 2 (by decide) (by decide)]
      · rw [put_cell (by decide), d1 6 (by decide) (by decide)]
      · rw [put_cell (by decide), d1 7 (by decide) (by decide)]
      · rw [put_slot q3, d1']; exact c2 q q0 q1 q2 q3
      · rw [put_slot (by decide), d1', c3, frL_ye hb]
        unfold offL; rw [if_pos hs]
      · rw [put_same, frS_ye hb]
      · rw [put_slot (by omega), d1', acf_no (fun z => ((frT_bit (by omega) (by omega)).mp z).2 hs)]
        exact c5 j hj
      · rw [put_cell (by decide), d1 4 (by decide) (by decide), adN_no (fun z => ((frT_bit (by omega) (by omega)).mp z).2 hs)]
        exact c6 i i1 i2
      · have hTk : (frT A 7).testBit (k + 1) = true := (frT_bit (by omega) (by omega)).mpr ⟨hb, hs⟩
        generalize hτ4 : k_put τ3 1 369 (nI (offL A (k + 1) (frL A k))) = τ4
        have g1 : ∀ a, a ≠ 1 → τ4 a = τ3 a := fun a ha => by rw [← hτ4, put_cell ha]
        have g2 : ∀ q, q ≠ 369 → τ4 1 q = τ2 1 q := fun q hq2 => by rw [← hτ4, put_slot hq2, d1']
        have g3 : τ4 1 369 = nI (frL A (k + 1)) := by rw [← hτ4, put_same, frL_ye hb]
        refine k_lpI2 7 (fun i x τ' => x = nI (i + 1) ∧ (∀ a, a ≠ 4 → τ' a = τ4 a) ∧ (∀ q, 1 ≤ q → q ≤ i → τ' 4 q = nI (adN (fun _ => 1) (frP A) (frT A 7) (A 8 1) (k + 1) q)) ∧ (∀ q, i < q → τ' 4 q = τ2 4 q)) 0 (by omega) ⟨rfl, fun _ _ => rfl, fun q u v => absurd v (by omega), fun q _ => by rw [g1 4 (by decide), d1 4 (by decide) (by decide)]⟩ ?_
        rintro i hi7 x τ5 ⟨rfl, e1, e2, e3⟩ B3 hB3
        have hn2 : nI (i + 1) + (1 : Int32) = nI (i + 1 + 1) := nI_add (i + 1) 1
        rcases Nat.lt_or_ge i 7 with hlt3 | hge3
        · refine br_f (nI_nlt (a := 7) (b := i + 1) (by omega) (by omega)) ⟨vp_in_nI (by omega) (by omega), s_polyAt7 (c := frP A (k + 1)) (by rw [e1 0 (by decide), g1 0 (by decide)]; exact d3) (fun j hj => by rw [e1 3 (by decide), g1 3 (by decide)]; exact hp3 j hj) hP3 (by omega) ht.2.1 ⟨vp_in_nI (by omega) (by omega), ?_⟩⟩
          rw [nI_clamp (by omega), e3 _ (by omega), c6 (i + 1) (by omega) (by omega), nI_add]
          refine hB3 hlt3 _ _ ⟨hn2, fun a ha => by rw [put_cell ha]; exact e1 a ha, fun q u v => ?_, fun q u => by rw [put_slot (by omega)]; exact e3 q (by omega)⟩
          rw [put_if]
          by_cases e : q = i + 1
          · rw [if_pos e, e, adN_ye hTk, Nat.mul_one]
          · rw [if_neg e]; exact e2 q u (by omega)
        · have hi77 : i = 7 := by omega
          subst hi77
          refine br_t (by decide) ?_
          refine k_lpI2 (A 8 1) (fun j x τ' => x = nI j ∧ (∀ a, a ≠ 1 → τ' a = τ5 a) ∧ (∀ q, q < 371 → (q < 90 ∨ 95 ≤ q) → τ' 1 q = τ5 1 q) ∧ (∀ q, q < j → τ' 1 (90 + q) = nI (4 ^ acf (A 3) (fun _ => 1) (frP A) (frT A 7) (k + 1) q % 47)) ∧ (∀ q, j ≤ q → q < 5 → τ' 1 (90 + q) = τ2 1 (90 + q))) 0 (by omega) ⟨rfl, fun _ _ => rfl, fun _ _ _ => rfl, fun q u => absurd u (by omega), fun q _ _ => by rw [e1 1 (by decide), g2 _ (by omega)]⟩ ?_
          rintro j hj x τ6 ⟨rfl, l1, l2, l3, l4⟩ B4 hB4
          have e04 : τ6 0 4 = nI (A 8 1) := by rw [l1 0 (by decide), e1 0 (by decide), g1 0 (by decide)]; exact d3
          rw [e04]
          rcases Nat.lt_or_ge j (A 8 1) with hlt4 | hge4
          · refine br_f (nI_ge hlt4 (by omega)) ?_
            have hfj := four_lt (acf (A 3) (fun _ => 1) (frP A) (frT A 7) k j)
            have hfp := four_lt (frP A (k + 1) j)
            have hmul : 4 ^ acf (A 3) (fun _ => 1) (frP A) (frT A 7) k j % 47 * (4 ^ frP A (k + 1) j % 47) ≤ 47 * 47 := Nat.mul_le_mul (by omega) (by omega)
            rw [k_l90, nI_add, nI_clamp (by omega), nI_clamp (by omega), l1 3 (by decide), e1 3 (by decide), g1 3 (by decide), hp3 j hlt4]
            refine ⟨vp_in_nI (by omega) (by omega), vp_in_nI (by omega) (by omega), s_sealOf7 (Nat.lt_trans (hP3 j) (by omega)) ⟨vp_in_nI (by omega) (by omega), ?_⟩⟩
            rw [l4 j (by omega) (by omega), c5 j hlt4, pk_mul, k_l47, k_rem_n (by omega) (by omega) (by omega), four_mul]
            refine hB4 hlt4 _ _ ⟨by rw [k_l1, nI_add], fun a ha => by rw [put_cell ha]; exact l1 a ha, fun q q0 q1 => by rw [put_slot (by omega)]; exact l2 q q0 q1, fun q u => ?_, fun q u v => by rw [put_slot (by omega)]; exact l4 q (by omega) v⟩
            rw [put_if]
            by_cases e : q = j
            · rw [if_pos (by omega), acf_ye hTk, e]
              dsimp only
              rw [Nat.one_mul]
            · rw [if_neg (by omega)]; exact l3 q (by omega)
          · have hjt : j = A 8 1 := by omega
            refine br_t (nI_le hge4 (by omega)) (hB2 hlt _ _ ⟨hn1, c1.trans ⟨?_, ?_, ?_, ?_⟩, fun q q0 q1 q2 q3 => ?_, ?_, ?_, fun q hq2 => l3 q (by omega), fun q q1 q2 => ?_⟩)
            · rw [l1 0 (by decide), e1 0 (by decide), g1 0 (by decide), d2 2 (by decide)]
            · rw [l1 2 (by decide), e1 2 (by decide), g1 2 (by decide), d1 2 (by decide) (by decide)]
            · rw [l1 6 (by decide), e1 6 (by decide), g1 6 (by decide), d1 6 (by decide) (by decide)]
            · rw [l1 7 (by decide), e1 7 (by decide), g1 7 (by decide), d1 7 (by decide) (by decide)]
            · rw [l2 q q0 q1, e1 1 (by decide), g2 q q2]; exact c2 q q0 q1 q2 q3
            · rw [l2 369 (by omega) (by omega), e1 1 (by decide)]; exact g3
            · rw [l2 370 (by omega) (by omega), e1 1 (by decide), g2 370 (by decide), c4, frS_ye hb]
              unfold offS; rw [if_neg hs]
            · rw [l1 4 (by decide)]; exact e2 q q1 q2
    · rw [if_neg hb]
      have hTk : ¬ (frT A 7).testBit (k + 1) = true := fun z => hb ((frT_bit (by omega) (by omega)).mp z).1
      refine hB2 hlt _ _ ⟨hn1, c1, c2, by rw [frL_no hb]; exact c3, by rw [frS_no hb]; exact c4, by rw [acf_no hTk]; exact c5, fun i i1 i2 => by rw [adN_no hTk]; exact c6 i i1 i2⟩
  · have hk7 : k = 7 := by omega
    subst hk7
    refine br_t (by decide) ?_
    refine k_lpI2 7 (fun i x τ' => x = nI (i + 1) ∧ (∀ a, a ≠ 1 → τ' a = τ2 a) ∧ (∀ q, (q < 41 ∨ 41 + i ≤ q) → τ' 1 q = τ2 1 q) ∧ (∀ m, 1 ≤ m → m ≤ i → τ' 1 (40 + m) = if (A 8 0).testBit m then nI (pe (frC A) (A 8 1) m) else -6)) 0 (by omega) ⟨rfl, fun _ _ => rfl, fun _ _ => rfl, fun m u v => absurd v (by omega)⟩ ?_
    rintro i hi7 x τ3 ⟨rfl, e1, e2, e3⟩ B3 hB3
    have hn2 : nI (i + 1) + (1 : Int32) = nI (i + 1 + 1) := nI_add (i + 1) 1
    rcases Nat.lt_or_ge i 7 with hlt3 | hge3
    · have hsl : τ3 1 (40 + (i + 1)) = if (A 8 0).testBit (i + 1) then nI (A 2 (i + 1)) else -6 := by rw [e2 _ (by omega)]; exact hsh2 _ (by omega) (by omega)
      refine br_f (nI_nlt (a := 7) (b := i + 1) (by omega) (by omega)) (s_hasSh hsl (by omega) (fun hb => Nat.lt_trans (share_lt hi (by omega) (by omega) hb) (by omega)) (b_if ?_))
      rw [k_l40, nI_add, nI_clamp (by omega), nI_clamp (by omega), hsl]
      by_cases hb : (A 8 0).testBit (i + 1) = true
      · rw [if_pos hb, if_pos hb, e1 4 (by decide), c6 (i + 1) (by omega) (by omega), nI_add]
        have hle := adN_le (f := fun _ => 1) (P := frP A) (T := frT A 7) (t := A 8 1) (fun _ => by omega) (i + 1) 7
        have hs2 := share_lt hi (m := i + 1) (by omega) (by omega) hb
        refine ⟨vp_in_nI (by omega) (by omega), vp_in_nI (by omega) (by omega), s_mod7 (by omega) ⟨vp_in_nI (by omega) (by omega), hB3 hlt3 _ _ ⟨hn2, fun a ha => by rw [put_cell ha]; exact e1 a ha, fun q u => by rw [put_slot (by omega)]; exact e2 q (by omega), fun m u v => ?_⟩⟩⟩
        rw [put_if]
        by_cases e : m = i + 1
        · rw [if_pos (by omega), e, if_pos hb, hi.sh (i + 1) (by omega) (by omega) hb, adN_acf]
          rfl
        · rw [if_neg (by omega)]; exact e3 m u (by omega)
      · rw [if_neg hb]
        refine ⟨vp_in_nI (by omega) (by omega), hB3 hlt3 _ _ ⟨hn2, fun a ha => by rw [put_cell ha]; exact e1 a ha, fun q u => by rw [put_slot (by omega)]; exact e2 q (by omega), fun m u v => ?_⟩⟩
        rw [put_if]
        by_cases e : m = i + 1
        · rw [if_pos (by omega), e, if_neg hb]
        · rw [if_neg (by omega)]; exact e3 m u (by omega)
    · have hi77 : i = 7 := by omega
      subst hi77
      have hm1 := hm.ls (s' := fun q => if q = 369 then nI (frL A 7) else if q = 370 then nI (frS A 7) else τ 1 q) (L := frL A 7) (S := frS A 7) hi (fun q _ q1 q2 => by rw [if_neg q1, if_neg q2]) (if_pos rfl) (by rw [if_neg (by decide), if_pos rfl])
      have hi1 := hi.ls (L := frL A 7) (S := frS A 7) (frL_lt A 7) (frS_lt A (by omega))
      have hsq : ∀ q, q < 371 → q ≠ 369 → q ≠ 370 → (q < 90 ∨ 95 ≤ q) → (q < 41 ∨ 48 ≤ q) → τ3 1 q = (if q = 369 then nI (frL A 7) else if q = 370 then nI (frS A 7) else τ 1 q) := fun q q0 q1 q2 q3 q4 => by
        rw [if_neg q1, if_neg q2, e2 q (by omega)]
        exact c2 q q0 q3 q1 q2
      refine br_t (by decide) (s_end7 (H := A 8 0) (t := A 8 1) (L := frL A 7) (S := frS A 7) (cf := fun j => frC A j % 23) (sh := fun m => pe (frC A) (A 8 1) m) hm1 hi1 hd hE hi.h256 (frS_lt A (by omega)) (inv_fresh hi hd hE) (fun q hq2 => hsq q (by omega) (by omega) (by omega) (by omega) (by omega)) e3 (fun j hj => ?_) ht.2.1 (fun q hq2 => hsq _ (by omega) (by omega) (by omega) (by omega) (by omega)) ?_ (hsq 89 (by omega) (by omega) (by omega) (by omega) (by omega)) ?_ ?_ (fun τ' k1 k2 => hq τ' (c1.trans ((K7.of1 e1).trans k1)) k2))
      · rw [e2 _ (by omega), c5 j hj]
        show _ = nI (4 ^ (frC A j % 23) % 47)
        rw [← four_mod]
        rfl
      · rw [e2 88 (by omega), c2 88 (by omega) (by omega) (by omega) (by omega)]; exact e88
      · rw [e2 369 (by omega)]; exact c3
      · rw [e2 370 (by omega)]; exact c4
