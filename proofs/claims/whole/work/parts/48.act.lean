/-! act -/
theorem s_last {σ : k_M} {n : Nat} (h : σ 4 8 = nI n - 1) (hn : n ≤ 200) {Q : Int32 → Prop} (hq : Q (if n < 200 then 0 else 1)) : wp_X0_isLastEpoch σ Q := by
  unfold wp_X0_isLastEpoch
  rw [h]
  cases n with
  | zero => exact br_t (by decide) hq
  | succ n =>
    rw [nI_pred]
    refine pk_lt n 199 (fun z => ?_) (fun z => ?_)
    · rw [if_pos (by omega)] at hq; exact hq
    · rw [if_neg (by omega)] at hq; exact hq
abbrev cl6 (σ : k_M) : k_M := k_put (k_put σ 4 9 0) 4 10 0
abbrev cl7 (τ : k_M) : k_M := k_put (k_put τ 1 369 0) 1 370 0
theorem cl6_c {σ : k_M} {A : aM} (hc : CRc (circ σ) A) : CRc (circ (cl6 σ)) (aLS A 0 0) := by
  refine hc.ls (fun a a1 a2 => ?_) (fun k k1 k2 => ?_) ?_ ?_
  · show k_put (k_put σ 4 9 0) 4 10 0 (a + 4) = _
    rw [put_cell (by omega), put_cell (by omega)]
  · show k_put (k_put σ 4 9 0) 4 10 0 4 k = _
    rw [put_slot k2, put_slot k1]
  · show k_put (k_put σ 4 9 0) 4 10 0 4 9 = _
    rw [put_slot (by decide), put_same]
    rfl
  · exact put_same
theorem cl7_c {τ : k_M} {A : aM} (hm : CRm (τ 1) A) (hi : aInv A) : CRm (cl7 τ 1) (aLS A 0 0) := by
  refine hm.ls hi (fun q _ q1 q2 => ?_) ?_ ?_
  · show k_put (k_put τ 1 369 0) 1 370 0 1 q = _
    rw [put_slot q2, put_slot q1]
  · show k_put (k_put τ 1 369 0) 1 370 0 1 369 = _
    rw [put_slot (by decide), put_same]
    rfl
  · exact put_same
theorem cl_t {σ τ : k_M} {w : Nat → Nat} {n : Nat} (h : TW σ τ w n) : TW (cl6 σ) (cl7 τ) w n := h
abbrev ac6 (Q : Int32 → k_M → Prop) : Int32 → k_M → Prop := fun r σ' => (r < 0 → Q r σ') ∧ (¬ r < 0 → Q r (k_put (k_put σ' 1 1 0) 4 11 ((k_put σ' 1 1 0) 4 11 + 1)))
abbrev ac7 (Q : Int32 → k_M → Prop) : Int32 → k_M → Prop := fun r τ' => (r < 0 → Q r τ') ∧ (¬ r < 0 → Q r (k_put (k_put τ' 0 2 0) 1 368 ((k_put τ' 0 2 0) 1 368 + 1)))
section
variable {σ τ : k_M} {A : aM} {w : Nat → Nat} {n : Nat}
theorem act6 (hT : TW σ τ w n) (hok : okT w n) (hc : CRc (circ σ) A) (hi : aInv A) {Q : Int32 → k_M → Prop} (h1 : w 0 ≠ 100 → A 8 2 = 0 → Q (-3) (cl6 σ)) (h2 : (w 0 = 100 ∨ w 0 = 102 ∨ w 0 = 116) → (w 0 = 100 ∨ A 8 2 ≠ 0) → ¬ A 8 2 < 200 → Q (-4) (cl6 σ)) (h3 : w 0 = 115 → A 8 2 ≠ 0 → ¬ A 8 6 < 24 → Q (-4) (cl6 σ)) (hb : w 0 = 98 → A 8 2 ≠ 0 → wp_X2_rebuild (cl6 σ) (nI (w 1) - 48) (nI (fset w 2 n)) (ac6 Q)) (hd : w 0 = 100 → A 8 2 < 200 → wp_X2_deal (cl6 σ) (nI (w 1) - 48) (ac6 Q)) (hf : w 0 = 102 → A 8 2 ≠ 0 → A 8 2 < 200 → wp_X2_fresh (cl6 σ) (ac6 Q)) (ho : w 0 = 111 → A 8 2 ≠ 0 → wp_X2_openedByThose (cl6 σ) (nI (fset w 1 n)) 0 (ac6 Q)) (hs : w 0 = 115 → A 8 2 ≠ 0 → A 8 6 < 24 → wp_X2_steal (cl6 σ) (nI (w 1) - 48) (ac6 Q)) (ht : w 0 = 116 → A 8 2 ≠ 0 → A 8 2 < 200 → wp_X2_move (cl6 σ) (nI (w 1) - 48) (nI (fset w 2 n)) (ac6 Q)) (hw : w 0 = 119 → A 8 2 ≠ 0 → wp_X2_lose (cl6 σ) (nI (w 1) - 48) (ac6 Q)) : wp_X2_perform σ (ac6 Q) := by
  have hT0 := cl_t hT
  have hc0 := cl6_c hc
  have hn10 := hT.1
  have hn0 := hok.1
  have hl0 := hok.2.1
  have hln := hok.2.2.1
  have hlc := lst_cases (w 0)
  have hfc := fos_cases (w 0)
  have hw0 := hT.2.2.2 0 (by omega)
  have hE := hi.e200
  unfold wp_X2_perform
  refine s_letter hT0 (by omega) ⟨w 0 = 100 ∨ A 8 2 ≠ 0, fun hde => ?_, pk_eq (w 0) 100 (fun h => Or.inl h) (fun h => s_isDealt (n := A 8 2) hc0.ep hE ?_)⟩
  · have hfull : ∀ (Q2 : Int32 → Prop), ((w 0 = 100 ∨ w 0 = 102 ∨ w 0 = 116) → ¬ A 8 2 < 200 → Q2 1) → (w 0 = 115 → ¬ A 8 6 < 24 → Q2 1) → (((w 0 = 100 ∨ w 0 = 102 ∨ w 0 = 116) → A 8 2 < 200) → (w 0 = 115 → A 8 6 < 24) → Q2 0) → wp_X2_isFull (cl6 σ) (nI (w 0)) Q2 := by
      intro Q2 g1 g2 g3
      unfold wp_X2_isFull
      have hla : (w 0 = 100 ∨ w 0 = 102 ∨ w 0 = 116) → wp_X0_isLastEpoch (cl6 σ) (fun r_48 => Q2 r_48) := fun hx => by
        refine s_last (n := A 8 2) hc0.ep hE ?_
        by_cases hlt : A 8 2 < 200
        · rw [if_pos hlt]; exact g3 (fun _ => hlt) (fun z => by omega)
        · rw [if_neg hlt]; exact g1 hx hlt
      refine pk_eq (w 0) 100 (fun h => hla (Or.inl h)) (fun n1 => pk_eq (w 0) 102 (fun h => hla (Or.inr (Or.inl h))) (fun n2 => pk_eq (w 0) 115 (fun h => ?_) (fun n3 => pk_eq (w 0) 116 (fun h => hla (Or.inr (Or.inr h))) (fun n4 => g3 (fun z => by omega) (fun z => by omega)))))
      unfold wp_X1_isFull
      have e103 : cl6 σ 10 3 = nI (A 8 6) := hc0.lz
      have hz := hi.z24
      rw [e103]
      exact br_f (nI_pos (by omega)) (pk_lt (A 8 6) 24 (fun z => g3 (fun y => by omega) (fun _ => z)) (fun z => g2 h (by omega)))
    refine hfull _ (fun hx hlt => b1 (br_t (by decide) (h2 hx hde hlt))) (fun hx hlt => b1 (br_t (by decide) (h3 hx (by omega) hlt))) (fun g1 g2 => b0 ?_)
    have hfig : ∃ x : Int32, (1 < n → x = nI (w 1) - 48) ∧ ∀ Q2 : Int32 → Prop, Q2 x → wp_X3_figureAt (cl6 σ) 1 Q2 := by
      rcases Nat.lt_or_ge 1 n with z | z
      · exact ⟨nI (w 1) - 48, fun _ => rfl, fun Q2 hq => s_fig hT0 (i := 1) z hq⟩
      · exact ⟨0 - 48, fun y => by omega, fun Q2 hq => s_sign0 hT0 (i := 1) z (by omega) hq⟩
    obtain ⟨x, hx, hx2⟩ := hfig
    refine hx2 _ (s_members hT0 (by omega) ?_)
    refine pk_eq (w 0) 98 (fun h98 => ?b) (fun h98 => pk_eq (w 0) 99 (fun h99 => absurd h99 (by omega)) (fun h99 => pk_eq (w 0) 100 (fun h100 => ?d) (fun h100 => pk_eq (w 0) 101 (fun h101 => absurd h101 (by omega)) (fun h101 => pk_eq (w 0) 102 (fun h102 => ?f) (fun h102 => pk_eq (w 0) 103 (fun h103 => absurd h103 (by omega)) (fun h103 => pk_eq (w 0) 104 (fun h104 => absurd h104 (by omega)) (fun h104 => pk_eq (w 0) 105 (fun h105 => absurd h105 (by omega)) (fun h105 => pk_eq (w 0) 106 (fun h106 => absurd h106 (by omega)) (fun h106 => pk_eq (w 0) 107 (fun h107 => absurd h107 (by omega)) (fun h107 => pk_eq (w 0) 108 (fun h108 => absurd h108 (by omega)) (fun h108 => pk_eq (w 0) 109 (fun h109 => absurd h109 (by omega)) (fun h109 => pk_eq (w 0) 110 (fun h110 => absurd h110 (by omega)) (fun h110 => pk_eq (w 0) 111 (fun h111 => ?o) (fun h111 => pk_eq (w 0) 112 (fun h112 => absurd h112 (by omega)) (fun h112 => pk_eq (w 0) 113 (fun h113 => absurd h113 (by omega)) (fun h113 => pk_eq (w 0) 114 (fun h114 => absurd h114 (by omega)) (fun h114 => pk_eq (w 0) 115 (fun h115 => ?s) (fun h115 => pk_eq (w 0) 116 (fun h116 => ?t) (fun h116 => pk_eq (w 0) 117 (fun h117 => absurd h117 (by omega)) (fun h117 => pk_eq (w 0) 118 (fun h118 => absurd h118 (by omega)) (fun h118 => pk_eq (w 0) 119 (fun h119 => ?w) (fun h119 => absurd h119 (by omega)))))))))))))))))))))))
    case b => rw [hx (by omega), show fos (w 0) = 2 by omega]; exact hb h98 (by omega)
    case d => rw [hx (by omega)]; exact hd h100 (g1 (by omega))
    case f => exact hf h102 (by omega) (g1 (by omega))
    case o => rw [show fos (w 0) = 1 by omega]; exact ho h111 (by omega)
    case s => rw [hx (by omega)]; exact hs h115 (by omega) (g2 h115)
    case t => rw [hx (by omega), show fos (w 0) = 2 by omega]; exact ht h116 (by omega) (g1 (by omega))
    case w => rw [hx (by omega)]; exact hw h119 (by omega)
  · by_cases h0 : A 8 2 = 0
    · rw [if_pos h0]; exact b0 (br_t (by decide) (h1 h h0))
    · rw [if_neg h0]; exact b1 (Or.inr h0)
theorem act7 (hT : TW σ τ w n) (hok : okT w n) (hm : CRm (τ 1) A) (hi : aInv A) {Q : Int32 → k_M → Prop} (h1 : w 0 ≠ 100 → A 8 2 = 0 → Q (-3) (cl7 τ)) (h2 : (w 0 = 100 ∨ w 0 = 102 ∨ w 0 = 116) → (w 0 = 100 ∨ A 8 2 ≠ 0) → ¬ A 8 2 < 200 → Q (-4) (cl7 τ)) (h3 : w 0 = 115 → A 8 2 ≠ 0 → ¬ A 8 6 < 24 → Q (-4) (cl7 τ)) (h4 : (w 0 = 100 ∨ A 8 2 ≠ 0) → ((w 0 = 100 ∨ w 0 = 102 ∨ w 0 = 116) → A 8 2 < 200) → (w 0 = 115 → A 8 6 < 24) → wp_X7_done (cl7 τ) (nI (w 0)) (ac7 Q)) : wp_X7_act τ Q := by
  have hm0 := cl7_c hm hi
  have hn10 := hT.1
  have hn0 := hok.1
  have hw0 := hT.2.2.2 0 (by omega)
  have hE := hi.e200
  have hz := hi.z24
  unfold wp_X7_act
  refine f7_any hT (fun _ => br_t (by decide) ?_) (fun r _ hbad => (bad_ok hok hbad).elim)
  rw [kcl_0, kcl_369, kcl_370, kcl_367, kcl_368, kcl_89, hw0.2.1]
  have e89 : k_put (k_put τ 1 369 0) 1 370 0 1 89 = if A 8 2 = 0 then -6 else nI (A 8 2 - 1) := hm0.ep
  have e367 : k_put (k_put τ 1 369 0) 1 370 0 1 367 = nI (A 8 6) := hm0.lz
  refine ⟨w 0 = 100 ∨ A 8 2 ≠ 0, fun hde => ?_, pk_eq (w 0) 100 (fun h => Or.inl h) (fun h => s_isDealt7 (n := A 8 2) hm0.ep hE ?_)⟩
  · refine ⟨fun y => y = if (w 0 = 100 ∨ w 0 = 102 ∨ w 0 = 116) ∧ ¬ A 8 2 < 200 then 1 else 0, ?_, ¬ ((w 0 = 100 ∨ w 0 = 102 ∨ w 0 = 116) ∧ ¬ A 8 2 < 200), fun z => by rw [if_neg z], w 0 = 100 ∨ w 0 = 102 ∨ w 0 = 116, fun hx => ?_, pk_eq (w 0) 100 (fun h => Or.inl h) (fun n1 => pk_eq (w 0) 102 (fun h => Or.inr (Or.inl h)) (fun n2 => pk_eq (w 0) 116 (fun h => Or.inr (Or.inr h)) (fun n3 z => by omega)))⟩
    · rintro y rfl
      by_cases hx : (w 0 = 100 ∨ w 0 = 102 ∨ w 0 = 116) ∧ ¬ A 8 2 < 200
      · rw [if_pos hx]; exact b1 (h2 hx.1 hde hx.2)
      · rw [if_neg hx]
        have hx' : (w 0 = 100 ∨ w 0 = 102 ∨ w 0 = 116) → A 8 2 < 200 := fun z => by omega
        refine b0 ⟨w 0 = 115 → A 8 6 < 24, fun hz2 => h4 hde hx' hz2, pk_eq (w 0) 115 (fun h => ?_) (fun h z => absurd z h)⟩
        rw [e367]
        exact pk_eq (A 8 6) 24 (fun z => h3 h (by omega) (by omega)) (fun z _ => by omega)
    · rw [e89]
      by_cases h0 : A 8 2 = 0
      · rw [if_pos h0]
        exact br_f (by decide) (fun z => by omega)
      · rw [if_neg h0]
        exact pk_eq (A 8 2 - 1) 199 (fun z => by rw [if_pos ⟨hx, by omega⟩]) (fun z y => by omega)
  · by_cases h0 : A 8 2 = 0
    · rw [if_pos h0]; exact b0 (h1 h h0)
    · rw [if_neg h0]; exact b1 (Or.inr h0)
end
/-- what act leaves -/
theorem fin_neg {pr : Nat → Bool} {σ σ' : k_M} {ρ : Nat → k_M} {τ τ' : k_M} {A' : aM} (hR : RR pr σ ρ τ) (k6 : K6 σ σ') (k7 : K7 τ τ') (hc : CRc (circ σ') A') (hm : CRm (τ' 1) A') (hi : aInv A') : RR pr σ' ρ τ' := by
  obtain ⟨-, ht, him, hk⟩ := hR
  refine ⟨⟨A', hc, hm, hi⟩, ht.keep (by rw [k6.1]) (fun i => by rw [k6.2]) k7.1 (fun i => by rw [k7.2.1]), ?_, ?_⟩
  · rw [k7.2.2.1]; exact him
  · rw [k7.2.2.2]; exact hk
def aDn (A : aM) : aM := fun a k => if a = 8 then (if k = 5 then A 8 5 + 1 else A 8 k) else A a k
theorem fin_pos {pr : Nat → Bool} {σ σ' : k_M} {ρ : Nat → k_M} {τ τ' : k_M} {A' : aM} (hR : RR pr σ ρ τ) (k6 : K6 σ σ') (k7 : K7 τ τ') (hc : CRc (circ σ') A') (hm : CRm (τ' 1) A') (hi : aInv A') : RR pr (k_put (k_put σ' 1 1 0) 4 11 ((k_put σ' 1 1 0) 4 11 + 1)) ρ (k_put (k_put τ' 0 2 0) 1 368 ((k_put τ' 0 2 0) 1 368 + 1)) := by
  obtain ⟨-, ht, him, hk⟩ := hR
  have e1 : (k_put σ' 1 1 0) 4 11 + 1 = nI (A' 8 5 + 1) := by
    rw [put_cell (by decide), show σ' 4 11 = nI (A' 8 5) from hc.dn, nI_1]
  have e2 : (k_put τ' 0 2 0) 1 368 + 1 = nI (A' 8 5 + 1) := by
    rw [put_cell (by decide), show τ' 1 368 = nI (A' 8 5) from hm.dn, nI_1]
  rw [e1, e2]
  have hs : ∀ q, q ≠ 368 → k_put (k_put τ' 0 2 0) 1 368 (nI (A' 8 5 + 1)) 1 q = τ' 1 q := fun q hq => by rw [put_slot hq, put_cell (by decide)]
  have hz := hi.z24
  have hE := hi.e200
  refine ⟨⟨aDn A', ?_, ?_, ⟨hi.rows, hi.bends, hi.h256, hi.h0, hi.e200, hi.l256, hi.s256, hi.z24, hi.cur, hi.olds, hi.cf, hi.und, hi.sh, hi.lo, hi.srt, hi.c9⟩⟩, ⟨0, by omega, ?_, ?_, fun i h => absurd h (by omega)⟩, ?_, ?_⟩
  · exact ⟨hc.rows, hc.bends, hc.shares, hc.seals, hc.olds, hc.hold, hc.thr, hc.ep, hc.li, hc.sk, put_same, hc.lz, hc.lo⟩
  · refine ⟨fun k hk2 => (hs _ (by omega)).trans (hm.rows k hk2), fun a b c d e => (hs _ (by omega)).trans (hm.bends a b c d e), fun a b c => (hs _ (by omega)).trans (hm.shares a b c), fun j a b => ?_, fun k a => ?_, (hs _ (by omega)).trans hm.thr, (hs _ (by omega)).trans hm.ep, (hs _ (by omega)).trans hm.lz, put_same, (hs _ (by omega)).trans hm.li, (hs _ (by omega)).trans hm.sk, fun i hi2 => ?_⟩
    · have b' : j < A' 8 1 := b
      have := (hi.cur a).2.1
      exact (hs _ (by omega)).trans (hm.seals j a b)
    · have a' : k < A' 8 2 := a
      exact (hs _ (by omega)).trans (hm.olds k a)
    · have a' : i < A' 8 6 := hi2
      have := hm.lo i hi2
      exact ⟨(hs _ (by omega)).trans this.1, (hs _ (by omega)).trans this.2.1, (hs _ (by omega)).trans this.2.2⟩
  · rw [put_cell (by decide), put_same]; rfl
  · rw [put_cell (by decide), put_same]; rfl
  · rw [put_cell (by decide), put_cell (by decide), k7.2.2.1]; exact him
  · rw [put_cell (by decide), put_cell (by decide), k7.2.2.2]; exact hk
theorem k_m3 : (-3 : Int32) < 0 := by decide
theorem k_m5 : (-5 : Int32) < 0 := by decide
theorem sim_act_ok : sim_act RR := by
  rintro pr σ ρ τ hR
  obtain ⟨⟨A, hc, hm, hi⟩, ht, him, hk⟩ := id hR
  obtain ⟨w, n, hT⟩ := ht.tw
  unfold wp_X6_act
  refine f6_any hT (fun hok => br_t rfl ?_) (fun r hr hbad => br_f ?_ ?_)
  · have hT0 := cl_t hT
    have hn10 := hT.1
    have hc0 := cl6_c hc
    have hm0 := cl7_c hm hi
    have hi0 := hi.ls (L := 0) (S := 0) (by omega) (by omega)
    have hlc := lst_cases (w 0)
    have hln := hok.2.2.1
    have k60 : K6 σ (cl6 σ) := ⟨(put_cell (by decide)).trans (put_cell (by decide)), (put_cell (by decide)).trans (put_cell (by decide))⟩
    have k70 : K7 τ (cl7 τ) := K7.of1 (fun a ha => (put_cell ha).trans (put_cell ha))
    have hst := hok.2.2.2
    have k6t : ∀ {σ' : k_M}, K6 (cl6 σ) σ' → K6 σ σ' := fun h => ⟨h.1.trans k60.1, h.2.trans k60.2⟩
    have k7t : ∀ {τ' : k_M}, K7 (cl7 τ) τ' → K7 τ τ' := fun h => k70.trans h
    refine act6 hT hok hc hi (fun a b => act7 hT hok hm hi (fun _ _ => ⟨rfl, fin_neg hR k60 k70 hc0 hm0 hi0⟩) (fun _ _ _ => absurd b (by omega)) (fun _ _ _ => absurd b (by omega)) (fun _ _ _ => absurd b (by omega))) (fun a b c => act7 hT hok hm hi (fun _ _ => absurd c (by omega)) (fun _ _ _ => ⟨rfl, fin_neg hR k60 k70 hc0 hm0 hi0⟩) (fun _ _ _ => absurd c (by omega)) (fun _ d _ => absurd (d a) c)) (fun a b c => act7 hT hok hm hi (fun _ _ => absurd b (by omega)) (fun _ _ _ => absurd a (by omega)) (fun _ _ _ => ⟨rfl, fin_neg hR k60 k70 hc0 hm0 hi0⟩) (fun _ _ d => absurd (d a) c)) (fun a b => ?_) (fun a b => ?_) (fun a b c => ?_) (fun a b => ?_) (fun a b c => ?_) (fun a b c => ?_) (fun a b => ?_)
    · -- b
      have s1 := hst 1 (by omega) (by omega)
      have s1' : 49 ≤ w 1 ∧ w 1 ≤ 55 := by unfold st at s1; omega
      have hf : ∀ i, 2 ≤ i → i < n → 49 ≤ w i ∧ w i ≤ 55 := fun i i1 i2 => by have := hst i (by omega) i2; unfold st at this; omega
      have go : ∀ {Q : Int32 → k_M → Prop}, wp_X7_rebuild (cl7 τ) (ac7 Q) → wp_X7_act τ Q := fun h => act7 hT hok hm hi (fun _ _ => absurd b (by omega)) (fun _ _ _ => absurd a (by omega)) (fun _ _ _ => absurd a (by omega)) (fun _ _ _ => by unfold wp_X7_done; rw [a]; exact br_t rfl h)
      rw [fg_in (by omega)]
      refine o6_rebuild hc0 hi0 (by omega : 0 < A 8 2) rfl (by omega) (by omega) (fun hb => br_t k_m5 (go (o7_rebuild (m := w 1 - 48) hT0 hm0 hi0 (by omega : 0 < A 8 2) rfl (by omega) (by omega) (by omega) (by omega) hf (fun _ => br_t k_m5 ⟨rfl, fin_neg hR k60 k70 hc0 hm0 hi0⟩) (fun x => absurd hb x) (fun x => absurd hb x)))) (fun hb hg σ' g1 g2 => br_t k_m5 (go (o7_rebuild (m := w 1 - 48) hT0 hm0 hi0 (by omega : 0 < A 8 2) rfl (by omega) (by omega) (by omega) (by omega) hf (fun x => absurd x hb) (fun _ _ τ' l1 l2 => br_t k_m5 ⟨rfl, fin_neg hR (k6t g1) (k7t l1) g2 l2 (hi0.ls (lia_lt _ _ 7 (by omega)) hi0.s256)⟩) (fun _ x => absurd x hg)))) (fun hb hg σ' g1 g2 => br_f (by decide) (go (o7_rebuild (m := w 1 - 48) hT0 hm0 hi0 (by omega : 0 < A 8 2) rfl (by omega) (by omega) (by omega) (by omega) hf (fun x => absurd x hb) (fun _ x => absurd hg x) (fun _ _ τ' l1 l2 => br_f (by decide) ⟨rfl, fin_pos hR (k6t g1) (k7t l1) g2 l2 (inv_rebuild hi0 (by omega : 0 < A 8 2) (by omega) (by omega) hg)⟩))))
    · -- d
      have s1 := hst 1 (by omega) (by omega)
      have s1' : 49 ≤ w 1 ∧ w 1 ≤ 53 := by unfold st at s1; omega
      have go : ∀ {Q : Int32 → k_M → Prop}, wp_X7_deal (cl7 τ) (nI (w 1) - 48) (ac7 Q) → wp_X7_act τ Q := fun h => act7 hT hok hm hi (fun x _ => absurd a x) (fun _ _ x => absurd b x) (fun x _ _ => absurd a (by omega)) (fun _ _ _ => by unfold wp_X7_done; rw [a]; exact br_f (by decide) (br_t rfl (s_fig7 hT0 (i := 1) (by omega) h)))
      rw [fg_in (by omega)] at go ⊢
      refine o6_deal hc0 hi0 b (by omega) (by omega) (fun σ' g1 g2 => br_f (by decide) (go (o7_deal hm0 hi0 b (by omega) (by omega) (fun τ' l1 l2 => br_f (by decide) ⟨rfl, fin_pos hR (k6t g1) (k7t l1) g2 l2 ?_⟩))))
      refine hi0.nxt b (by omega) (by decide) (by omega) (by omega) (row0_lt hi0) (fun _ _ _ _ => rfl) hi0.l256 hi0.s256
    · -- f
      have go : ∀ {Q : Int32 → k_M → Prop}, wp_X7_fresh (cl7 τ) (ac7 Q) → wp_X7_act τ Q := fun h => act7 hT hok hm hi (fun _ x => absurd x b) (fun _ _ x => absurd c x) (fun x _ _ => absurd a (by omega)) (fun _ _ _ => by unfold wp_X7_done; rw [a]; exact br_f (by decide) (br_f (by decide) (br_t rfl h)))
      have hcn : cnt (mnus (aLS A 0 0 8 0) (frS (aLS A 0 0) 7)) ≤ 8 := cnt_le _
      exact o6_fresh hc0 hi0 (by omega : 0 < A 8 2) c rfl rfl (fun σ' g1 g2 => br_f (nI_pos (by omega)) (go (o7_fresh hm0 hi0 (by omega : 0 < A 8 2) c rfl rfl (fun τ' l1 l2 => br_f (nI_pos (by omega)) ⟨rfl, fin_pos hR (k6t g1) (k7t l1) g2 l2 (inv_fresh hi0 (by omega : 0 < A 8 2) c)⟩))))
    · -- o
      have hf : ∀ i, 1 ≤ i → i < n → 49 ≤ w i ∧ w i ≤ 55 := fun i i1 i2 => by have := hst i (by omega) i2; unfold st at this; omega
      have go : ∀ {Q : Int32 → k_M → Prop}, wp_X7_open (cl7 τ) (ac7 Q) → wp_X7_act τ Q := fun h => act7 hT hok hm hi (fun _ x => absurd x b) (fun _ _ _ => absurd a (by omega)) (fun x _ _ => absurd a (by omega)) (fun _ _ _ => by unfold wp_X7_done; rw [a]; exact br_f (by decide) (br_f (by decide) (br_f (by decide) (br_t rfl h))))
      have hil := hi0.ls (L := liaN (aLS A 0 0) (fset w 1 n) 7) (S := 0) (lia_lt _ _ 7 (by omega)) (by omega)
      refine o6_opened (x := 0) hc0 hi0 (by omega : 0 < A 8 2) rfl (by omega) (fun hg σ' g1 g2 => br_f (nI_pos ?_) (go (o7_open hT0 hm0 hi0 (by omega : 0 < A 8 2) rfl (by omega) hf (fun _ τ' l1 l2 => br_f (nI_pos ?_) ⟨rfl, fin_pos hR (k6t g1) (k7t l1) g2 l2 hil⟩) (fun x => absurd hg x)))) (fun hg σ' g1 g2 => br_t k_m5 (go (o7_open hT0 hm0 hi0 (by omega : 0 < A 8 2) rfl (by omega) hf (fun x => absurd x hg) (fun _ τ' l1 l2 => br_t k_m5 ⟨rfl, fin_neg hR (k6t g1) (k7t l1) g2 l2 hil⟩))))
      · exact Nat.lt_trans (Nat.mod_lt _ (by omega)) (by omega)
      · exact Nat.lt_trans (Nat.mod_lt _ (by omega)) (by omega)
    · -- s
      have s1 := hst 1 (by omega) (by omega)
      have s1' : 49 ≤ w 1 ∧ w 1 ≤ 55 := by unfold st at s1; omega
      have go : ∀ {Q : Int32 → k_M → Prop}, wp_X7_steal (cl7 τ) (nI (w 1) - 48) (ac7 Q) → wp_X7_act τ Q := fun h => act7 hT hok hm hi (fun _ x => absurd x b) (fun _ _ _ => absurd a (by omega)) (fun _ _ x => absurd c x) (fun _ _ _ => by unfold wp_X7_done; rw [a]; exact br_f (by decide) (br_f (by decide) (br_f (by decide) (br_f (by decide) (br_t rfl (s_fig7 hT0 (i := 1) (by omega) h))))))
      rw [fg_in (by omega)] at go ⊢
      have hz : A 8 6 + 1 < 2 ^ 31 := by omega
      exact o6_steal hc0 hi0 c (by omega) (by omega) (fun hb => br_t k_m5 (go (o7_steal hm0 hi0 c (by omega) (by omega) (fun _ => br_t k_m5 ⟨rfl, fin_neg hR k60 k70 hc0 hm0 hi0⟩) (fun x => absurd x hb)))) (fun hb σ' g1 g2 => br_f (nI_pos hz) (go (o7_steal hm0 hi0 c (by omega) (by omega) (fun x => absurd hb x) (fun _ τ' l1 l2 => br_f (nI_pos hz) ⟨rfl, fin_pos hR (k6t g1) (k7t l1) g2 l2 (inv_steal hi0 c (by omega) (by omega) hb)⟩))))
    · -- t
      have s1 := hst 1 (by omega) (by omega)
      have s1' : 49 ≤ w 1 ∧ w 1 ≤ 53 := by unfold st at s1; omega
      have hf : ∀ i, 2 ≤ i → i < n → 49 ≤ w i ∧ w i ≤ 55 := fun i i1 i2 => by have := hst i (by omega) i2; unfold st at this; omega
      have hasc : ∀ i, 3 ≤ i → i < n → w (i - 1) < w i := fun i i1 i2 => by have := hst i (by omega) i2; unfold st at this; omega
      have go : ∀ {Q : Int32 → k_M → Prop}, wp_X7_move (cl7 τ) (nI (w 1) - 48) (ac7 Q) → wp_X7_act τ Q := fun h => act7 hT hok hm hi (fun _ x => absurd x b) (fun _ _ x => absurd c x) (fun _ _ _ => absurd a (by omega)) (fun _ _ _ => by unfold wp_X7_done; rw [a]; exact br_f (by decide) (br_f (by decide) (br_f (by decide) (br_f (by decide) (br_f (by decide) (br_f (by decide) (s_fig7 hT0 (i := 1) (by omega) h)))))))
      rw [fg_in (by omega)] at go ⊢
      have hcn : cnt (mnus (aLS A 0 0 8 0) (mv (aLS A 0 0) (fset w 2 n) 7).2.2) ≤ 8 := cnt_le _
      have hl3 := mv_lt (A := aLS A 0 0) (s := fset w 2 n) 7 (by omega)
      exact o6_move hc0 hi0 (by omega : 0 < A 8 2) c rfl rfl (by omega) (by omega) (fun hg σ' g1 g2 => br_t k_m5 (go (o7_move hT0 hm0 hi0 (by omega : 0 < A 8 2) c rfl rfl (by omega) hf hasc (by omega) (by omega) (fun _ τ' l1 l2 => br_t k_m5 ⟨rfl, fin_neg hR (k6t g1) (k7t l1) g2 l2 (hi0.ls hl3.2.1 hl3.2.2)⟩) (fun x => absurd x hg)))) (fun hg σ' g1 g2 => br_f (nI_pos (by omega)) (go (o7_move hT0 hm0 hi0 (by omega : 0 < A 8 2) c rfl rfl (by omega) hf hasc (by omega) (by omega) (fun x => absurd hg x) (fun _ τ' l1 l2 => br_f (nI_pos (by omega)) ⟨rfl, fin_pos hR (k6t g1) (k7t l1) g2 l2 (inv_move hi0 c (by omega) (by omega))⟩))))
    · -- w
      have s1 := hst 1 (by omega) (by omega)
      have s1' : 49 ≤ w 1 ∧ w 1 ≤ 55 := by unfold st at s1; omega
      have go : ∀ {Q : Int32 → k_M → Prop}, wp_X7_forget (cl7 τ) (nI (w 1) - 48) (ac7 Q) → wp_X7_act τ Q := fun h => act7 hT hok hm hi (fun _ x => absurd x b) (fun _ _ _ => absurd a (by omega)) (fun _ _ _ => absurd a (by omega)) (fun _ _ _ => by unfold wp_X7_done; rw [a]; exact br_f (by decide) (br_f (by decide) (br_f (by decide) (br_f (by decide) (br_f (by decide) (br_t rfl (s_fig7 hT0 (i := 1) (by omega) h)))))))
      rw [fg_in (by omega)] at go ⊢
      have hcn : cnt (mnus (aLS A 0 0 8 0) (2 ^ (w 1 - 48))) ≤ 8 := cnt_le _
      exact o6_lose hc0 hi0 (by omega) (fun σ' g1 g2 => br_f (nI_pos (by omega)) (go (o7_lose hm0 hi0 (by omega : 0 < A 8 2) (by omega) (by omega) (fun τ' l1 l2 => br_f (nI_pos (by omega)) ⟨rfl, fin_pos hR (k6t g1) (k7t l1) g2 l2 (inv_lose hi0 (by omega : 0 < A 8 2))⟩))))
  · intro z
    have hn10 := hT.1
    have := nI_pos (n := r) (by omega)
    rw [z] at this
    exact this (by decide)
  · unfold wp_X7_act
    have hn10 := hT.1
    exact f7_any hT (fun h => (bad_ok h hbad).elim) (fun r' hr' hb' => br_f (nI_pos (by omega)) ⟨rfl, hR⟩)
