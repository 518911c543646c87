/-! the text: its fault -/
def TW (σ : k_M) (τ : k_M) (w : Nat → Nat) (n : Nat) : Prop := n ≤ 10 ∧ σ 1 1 = nI n ∧ τ 0 2 = nI n ∧ ∀ i, i < n → σ 2 i = nI (w i) ∧ τ 2 i = nI (w i) ∧ 33 ≤ w i ∧ w i ≤ 126
theorem TX.tw {σ τ : k_M} (h : TX σ τ) : ∃ w n, TW σ τ w n := by
  obtain ⟨n, h1, h2, h3, h4⟩ := h
  refine ⟨fun i => (τ 2 i).toNatClampNeg, n, h1, h2, h3, fun i hi => ?_⟩
  obtain ⟨e, v, a, b, c⟩ := h4 i hi
  have hv : (τ 2 i).toNatClampNeg = v := by rw [c, nI_clamp (by omega)]
  show σ 2 i = nI (τ 2 i).toNatClampNeg ∧ τ 2 i = nI (τ 2 i).toNatClampNeg ∧ 33 ≤ (τ 2 i).toNatClampNeg ∧ (τ 2 i).toNatClampNeg ≤ 126
  rw [hv]
  exact ⟨e.trans c, c, a, b⟩
def lst (v : Nat) : Nat := if v = 98 then 3 else if v = 100 then 2 else if v = 102 then 1 else if v = 111 then 2 else if v = 115 then 2 else if v = 116 then 3 else if v = 119 then 2 else 0
theorem lst_cases (v : Nat) : (v = 98 ∧ lst v = 3) ∨ (v = 100 ∧ lst v = 2) ∨ (v = 102 ∧ lst v = 1) ∨ (v = 111 ∧ lst v = 2) ∨ (v = 115 ∧ lst v = 2) ∨ (v = 116 ∧ lst v = 3) ∨ (v = 119 ∧ lst v = 2) ∨ (v ≠ 98 ∧ v ≠ 100 ∧ v ≠ 102 ∧ v ≠ 111 ∧ v ≠ 115 ∧ v ≠ 116 ∧ v ≠ 119 ∧ lst v = 0) := by
  unfold lst
  by_cases h1 : v = 98
  · rw [if_pos h1]; omega
  by_cases h2 : v = 100
  · rw [if_neg h1, if_pos h2]; omega
  by_cases h3 : v = 102
  · rw [if_neg h1, if_neg h2, if_pos h3]; omega
  by_cases h4 : v = 111
  · rw [if_neg h1, if_neg h2, if_neg h3, if_pos h4]; omega
  by_cases h5 : v = 115
  · rw [if_neg h1, if_neg h2, if_neg h3, if_neg h4, if_pos h5]; omega
  by_cases h6 : v = 116
  · rw [if_neg h1, if_neg h2, if_neg h3, if_neg h4, if_neg h5, if_pos h6]; omega
  by_cases h7 : v = 119
  · rw [if_neg h1, if_neg h2, if_neg h3, if_neg h4, if_neg h5, if_neg h6, if_pos h7]; omega
  · rw [if_neg h1, if_neg h2, if_neg h3, if_neg h4, if_neg h5, if_neg h6, if_neg h7]; omega
def st (w : Nat → Nat) (i : Nat) : Prop :=
  (w 0 = 100 ∧ i = 1 ∧ 49 ≤ w i ∧ w i ≤ 53) ∨ ((w 0 = 119 ∨ w 0 = 115) ∧ i = 1 ∧ 49 ≤ w i ∧ w i ≤ 55) ∨ (w 0 = 111 ∧ 49 ≤ w i ∧ w i ≤ 55 ∧ (i = 1 ∨ w (i - 1) < w i)) ∨ (w 0 = 98 ∧ 49 ≤ w i ∧ w i ≤ 55 ∧ (i < 3 ∨ w (i - 1) < w i)) ∨ (w 0 = 116 ∧ i = 1 ∧ 49 ≤ w i ∧ w i ≤ 53) ∨ (w 0 = 116 ∧ 2 ≤ i ∧ 49 ≤ w i ∧ w i ≤ 55 ∧ (i = 2 ∨ w (i - 1) < w i))
def okT (w : Nat → Nat) (n : Nat) : Prop := n ≠ 0 ∧ lst (w 0) ≠ 0 ∧ lst (w 0) ≤ n ∧ ∀ j, 1 ≤ j → j < n → st w j
def badT (w : Nat → Nat) (n r : Nat) : Prop := ((n = 0 ∨ lst (w 0) = 0) ∧ r = 0) ∨ ((n ≠ 0 ∧ lst (w 0) ≠ 0) ∧ 1 ≤ r ∧ r ≤ n ∧ (∀ j, 1 ≤ j → j < r → st w j) ∧ ((r < n ∧ ¬ st w r) ∨ (r = n ∧ n < lst (w 0))))
theorem flt_cases (w : Nat → Nat) (n : Nat) : okT w n ∨ ∃ r, r ≤ n ∧ badT w n r := by
  by_cases h0 : n = 0 ∨ lst (w 0) = 0
  · exact Or.inr ⟨0, Nat.zero_le _, Or.inl ⟨h0, rfl⟩⟩
  · by_cases h1 : ∃ k, 1 ≤ k ∧ k < n ∧ ¬ st w k
    · obtain ⟨k, ⟨a, b, c⟩, hk⟩ := pk_least _ h1
      refine Or.inr ⟨k, by omega, Or.inr ⟨⟨by omega, by omega⟩, a, by omega, fun j hj1 hj2 => ?_, Or.inl ⟨b, c⟩⟩⟩
      exact Classical.byContradiction (fun z => hk j hj2 ⟨hj1, by omega, z⟩)
    · have hall : ∀ j, 1 ≤ j → j < n → st w j := fun j a b => Classical.byContradiction (fun z => h1 ⟨j, a, b, z⟩)
      rcases Nat.lt_or_ge n (lst (w 0)) with h | h
      · exact Or.inr ⟨n, Nat.le_refl _, Or.inr ⟨⟨by omega, by omega⟩, by omega, Nat.le_refl _, hall, Or.inr ⟨rfl, h⟩⟩⟩
      · exact Or.inl ⟨by omega, by omega, h, hall⟩
theorem br_mono {c A A' B B' : Prop} (ha : A → A') (hb : B → B') (h : (c → A) ∧ (¬ c → B)) : (c → A') ∧ (¬ c → B') := ⟨fun z => ha (h.1 z), fun z => hb (h.2 z)⟩
theorem s_least {v : Nat} (hv : v < 127) {Q : Int32 → Prop} (hq : Q (nI (lst v))) : wp_X7_leastOf (nI v) Q := by
  have hc := lst_cases v
  unfold wp_X7_leastOf
  refine pk_eq v 98 (fun h98 => ?_) (fun h98 => pk_eq v 99 (fun h99 => ?_) (fun h99 => pk_eq v 100 (fun h100 => ?_) (fun h100 => pk_eq v 101 (fun h101 => ?_) (fun h101 => pk_eq v 102 (fun h102 => ?_) (fun h102 => pk_eq v 103 (fun h103 => ?_) (fun h103 => pk_eq v 104 (fun h104 => ?_) (fun h104 => pk_eq v 105 (fun h105 => ?_) (fun h105 => pk_eq v 106 (fun h106 => ?_) (fun h106 => pk_eq v 107 (fun h107 => ?_) (fun h107 => pk_eq v 108 (fun h108 => ?_) (fun h108 => pk_eq v 109 (fun h109 => ?_) (fun h109 => pk_eq v 110 (fun h110 => ?_) (fun h110 => pk_eq v 111 (fun h111 => ?_) (fun h111 => pk_eq v 112 (fun h112 => ?_) (fun h112 => pk_eq v 113 (fun h113 => ?_) (fun h113 => pk_eq v 114 (fun h114 => ?_) (fun h114 => pk_eq v 115 (fun h115 => ?_) (fun h115 => pk_eq v 116 (fun h116 => ?_) (fun h116 => pk_eq v 117 (fun h117 => ?_) (fun h117 => pk_eq v 118 (fun h118 => ?_) (fun h118 => pk_eq v 119 (fun h119 => ?_) (fun h119 => ?_))))))))))))))))))))))
  · have e : lst v = 3 := by omega
    rw [e] at hq; exact hq
  · have e : lst v = 0 := by omega
    rw [e] at hq; exact hq
  · have e : lst v = 2 := by omega
    rw [e] at hq; exact hq
  · have e : lst v = 0 := by omega
    rw [e] at hq; exact hq
  · have e : lst v = 1 := by omega
    rw [e] at hq; exact hq
  · have e : lst v = 0 := by omega
    rw [e] at hq; exact hq
  · have e : lst v = 0 := by omega
    rw [e] at hq; exact hq
  · have e : lst v = 0 := by omega
    rw [e] at hq; exact hq
  · have e : lst v = 0 := by omega
    rw [e] at hq; exact hq
  · have e : lst v = 0 := by omega
    rw [e] at hq; exact hq
  · have e : lst v = 0 := by omega
    rw [e] at hq; exact hq
  · have e : lst v = 0 := by omega
    rw [e] at hq; exact hq
  · have e : lst v = 0 := by omega
    rw [e] at hq; exact hq
  · have e : lst v = 2 := by omega
    rw [e] at hq; exact hq
  · have e : lst v = 0 := by omega
    rw [e] at hq; exact hq
  · have e : lst v = 0 := by omega
    rw [e] at hq; exact hq
  · have e : lst v = 0 := by omega
    rw [e] at hq; exact hq
  · have e : lst v = 2 := by omega
    rw [e] at hq; exact hq
  · have e : lst v = 3 := by omega
    rw [e] at hq; exact hq
  · have e : lst v = 0 := by omega
    rw [e] at hq; exact hq
  · have e : lst v = 0 := by omega
    rw [e] at hq; exact hq
  · have e : lst v = 2 := by omega
    rw [e] at hq; exact hq
  · have e : lst v = 0 := by omega
    rw [e] at hq; exact hq
theorem s_isLetter {v : Nat} (hv : v < 127) {Q : Int32 → Prop} (hq : Q (if lst v = 0 then 0 else 1)) : wp_X3_isLetter (nI v) Q := by
  have hc := lst_cases v
  unfold wp_X3_isLetter
  refine pk_eq v 98 (fun h98 => ?_) (fun h98 => pk_eq v 99 (fun h99 => ?_) (fun h99 => pk_eq v 100 (fun h100 => ?_) (fun h100 => pk_eq v 101 (fun h101 => ?_) (fun h101 => pk_eq v 102 (fun h102 => ?_) (fun h102 => pk_eq v 103 (fun h103 => ?_) (fun h103 => pk_eq v 104 (fun h104 => ?_) (fun h104 => pk_eq v 105 (fun h105 => ?_) (fun h105 => pk_eq v 106 (fun h106 => ?_) (fun h106 => pk_eq v 107 (fun h107 => ?_) (fun h107 => pk_eq v 108 (fun h108 => ?_) (fun h108 => pk_eq v 109 (fun h109 => ?_) (fun h109 => pk_eq v 110 (fun h110 => ?_) (fun h110 => pk_eq v 111 (fun h111 => ?_) (fun h111 => pk_eq v 112 (fun h112 => ?_) (fun h112 => pk_eq v 113 (fun h113 => ?_) (fun h113 => pk_eq v 114 (fun h114 => ?_) (fun h114 => pk_eq v 115 (fun h115 => ?_) (fun h115 => pk_eq v 116 (fun h116 => ?_) (fun h116 => pk_eq v 117 (fun h117 => ?_) (fun h117 => pk_eq v 118 (fun h118 => ?_) (fun h118 => pk_eq v 119 (fun h119 => ?_) (fun h119 => ?_))))))))))))))))))))))
  · rw [if_neg (by omega)] at hq; exact hq
  · rw [if_pos (by omega)] at hq; exact hq
  · rw [if_neg (by omega)] at hq; exact hq
  · rw [if_pos (by omega)] at hq; exact hq
  · rw [if_neg (by omega)] at hq; exact hq
  · rw [if_pos (by omega)] at hq; exact hq
  · rw [if_pos (by omega)] at hq; exact hq
  · rw [if_pos (by omega)] at hq; exact hq
  · rw [if_pos (by omega)] at hq; exact hq
  · rw [if_pos (by omega)] at hq; exact hq
  · rw [if_pos (by omega)] at hq; exact hq
  · rw [if_pos (by omega)] at hq; exact hq
  · rw [if_pos (by omega)] at hq; exact hq
  · rw [if_neg (by omega)] at hq; exact hq
  · rw [if_pos (by omega)] at hq; exact hq
  · rw [if_pos (by omega)] at hq; exact hq
  · rw [if_pos (by omega)] at hq; exact hq
  · rw [if_neg (by omega)] at hq; exact hq
  · rw [if_neg (by omega)] at hq; exact hq
  · rw [if_pos (by omega)] at hq; exact hq
  · rw [if_pos (by omega)] at hq; exact hq
  · rw [if_neg (by omega)] at hq; exact hq
  · rw [if_pos (by omega)] at hq; exact hq
theorem fg_int : ∀ v, v < 127 → (nI v - 48).toInt = (v : Int) - 48 := by decide +kernel
theorem fg_in {v : Nat} (h : 48 ≤ v) : nI v - 48 = nI (v - 48) := k_sub_n (b := 48) h
theorem fg_out {v lo hi : Nat} (hv : v < 127) (hl : lo < 100) (hh : hi < 100) (h : ¬ (lo + 48 ≤ v ∧ v ≤ hi + 48)) : nI v - 48 < nI lo ∨ nI hi < nI v - 48 := by
  rw [Int32.lt_iff_toInt_lt, Int32.lt_iff_toInt_lt, fg_int v hv, nI_toInt (by omega), nI_toInt (by omega)]
  omega
theorem fg_le {v u : Nat} (hv : v < 127) (hu : u < 127) : nI v - 48 ≤ nI u - 48 ↔ v ≤ u := by
  rw [Int32.le_iff_toInt_le, fg_int v hv, fg_int u hu]
  omega
section
variable {σ τ : k_M} {w : Nat → Nat} {n : Nat}
theorem s_sign (h : TW σ τ w n) {i : Nat} (hi : i < n) {Q : Int32 → Prop} (hq : Q (nI (w i))) : wp_X3_signAt σ (nI i) Q := by
  have hn := h.1
  unfold wp_X3_signAt
  rw [h.2.1]
  refine br_f (nI_pos (by omega)) (br_f (nI_ge hi (by omega)) (br_f (nI_ge (b := 10) (by omega) (by omega)) ⟨vp_in_nI (by omega) (by omega), ?_⟩))
  rw [nI_clamp (by omega), (h.2.2.2 i hi).1]
  exact hq
theorem s_sign0 (h : TW σ τ w n) {i : Nat} (hi : n ≤ i) (hi2 : i < 100) {Q : Int32 → Prop} (hq : Q 0) : wp_X3_signAt σ (nI i) Q := by
  have hn := h.1
  unfold wp_X3_signAt
  rw [h.2.1]
  exact br_f (nI_pos (by omega)) (br_t (nI_le hi (by omega)) hq)
theorem s_letter (h : TW σ τ w n) (hn : 0 < n) {Q : Int32 → Prop} (hq : Q (nI (w 0))) : wp_X3_letter σ Q := s_sign h (i := 0) hn hq
theorem s_fig (h : TW σ τ w n) {i : Nat} (hi : i < n) {Q : Int32 → Prop} (hq : Q (nI (w i) - 48)) : wp_X3_figureAt σ (nI i) Q := s_sign h hi hq
theorem s_fig7 (h : TW σ τ w n) {i : Nat} (hi : i < n) {Q : Int32 → Prop} (hq : Q (nI (w i) - 48)) : wp_X7_figure τ (nI i) Q := by
  have hn := h.1
  unfold wp_X7_figure
  rw [nI_clamp (by omega), (h.2.2.2 i hi).2.1]
  exact ⟨vp_in_nI (by omega) (by omega), hq⟩
def fos (v : Nat) : Nat := if v = 98 then 2 else if v = 111 then 1 else if v = 116 then 2 else 10
theorem fos_cases (v : Nat) : (v = 98 ∧ fos v = 2) ∨ (v = 111 ∧ fos v = 1) ∨ (v = 116 ∧ fos v = 2) ∨ (v ≠ 98 ∧ v ≠ 111 ∧ v ≠ 116 ∧ fos v = 10) := by
  unfold fos
  by_cases h1 : v = 98
  · rw [if_pos h1]; omega
  by_cases h4 : v = 111
  · rw [if_neg h1, if_pos h4]; omega
  by_cases h6 : v = 116
  · rw [if_neg h1, if_neg h4, if_pos h6]; omega
  · rw [if_neg h1, if_neg h4, if_neg h6]; omega
theorem s_first (h : TW σ τ w n) (hn : 0 < n) {Q : Int32 → Prop} (hq : Q (nI (fos (w 0)))) : wp_X3_firstOfSet σ Q := by
  have hw := h.2.2.2 0 hn
  unfold wp_X3_firstOfSet
  refine s_letter h hn ?_
  rcases fos_cases (w 0) with ⟨a, b⟩ | ⟨a, b⟩ | ⟨a, b⟩ | ⟨a, b, c, d⟩
  · rw [b] at hq; rw [a]; exact br_t rfl hq
  · rw [b] at hq; rw [a]; exact br_f (by decide) (br_t rfl hq)
  · rw [b] at hq; rw [a]; exact br_f (by decide) (br_f (by decide) (br_t rfl hq))
  · rw [d] at hq
    exact br_f (fun z => a ((nI_eq (b := 98) (by omega) (by omega)).mp z)) (br_f (fun z => b ((nI_eq (b := 111) (by omega) (by omega)).mp z)) (br_f (fun z => c ((nI_eq (b := 116) (by omega) (by omega)).mp z)) hq))
theorem s_fewest (h : TW σ τ w n) (hn : 0 < n) (hl : lst (w 0) ≠ 0) {Q : Int32 → Prop} (hq : Q (nI (lst (w 0)))) : wp_X3_fewestSigns σ Q := by
  have hw := h.2.2.2 0 hn
  unfold wp_X3_fewestSigns
  refine s_letter h hn ?_
  rcases lst_cases (w 0) with ⟨a, b⟩ | ⟨a, b⟩ | ⟨a, b⟩ | ⟨a, b⟩ | ⟨a, b⟩ | ⟨a, b⟩ | ⟨a, b⟩ | h8
  · rw [b] at hq; rw [a]; exact br_t rfl hq
  · rw [b] at hq; rw [a]; exact br_f (by decide) (br_f (by decide) (br_f (by decide) hq))
  · rw [b] at hq; rw [a]; exact br_f (by decide) (br_t rfl hq)
  · rw [b] at hq; rw [a]; exact br_f (by decide) (br_f (by decide) (br_f (by decide) hq))
  · rw [b] at hq; rw [a]; exact br_f (by decide) (br_f (by decide) (br_f (by decide) hq))
  · rw [b] at hq; rw [a]; exact br_f (by decide) (br_f (by decide) (br_t rfl hq))
  · rw [b] at hq; rw [a]; exact br_f (by decide) (br_f (by decide) (br_f (by decide) hq))
  · omega
theorem fgm {v : Nat} (hv : v < 127) {Q : Int32 → Prop} (h1 : (49 ≤ v ∧ v ≤ 55) → Q 1) (h0 : ¬ (49 ≤ v ∧ v ≤ 55) → Q 0) : wp_X6_isMember (nI v - 48) Q := by
  by_cases h : 49 ≤ v ∧ v ≤ 55
  · rw [fg_in (by omega)]
    exact s_mem1 (by omega) (by omega) (h1 h)
  · exact s_mem0 (fg_out hv (by omega) (by omega) (by omega)) (h0 h)
theorem fgm7 {v : Nat} (hv : v < 127) {Q : Int32 → Prop} (h1 : (49 ≤ v ∧ v ≤ 55) → Q 1) (h0 : ¬ (49 ≤ v ∧ v ≤ 55) → Q 0) : wp_X7_isMember (nI v - 48) Q := by
  by_cases h : 49 ≤ v ∧ v ≤ 55
  · rw [fg_in (by omega)]
    exact s_mem71 (by omega) (by omega) (h1 h)
  · exact s_mem70 (fg_out hv (by omega) (by omega) (by omega)) (h0 h)
theorem fgt7 {v : Nat} (hv : v < 127) {Q : Int32 → Prop} (h1 : (49 ≤ v ∧ v ≤ 53) → Q 1) (h0 : ¬ (49 ≤ v ∧ v ≤ 53) → Q 0) : wp_X7_in (nI v - 48) 1 5 Q := by
  by_cases h : 49 ≤ v ∧ v ≤ 53
  · rw [fg_in (by omega)]
    exact s_in1 (lo := 1) (hi := 5) (by omega) (by omega) (by omega) (h1 h)
  · exact s_in0 (fg_out (lo := 1) (hi := 5) hv (by omega) (by omega) (by omega)) (h0 h)
theorem s_can6 (h : TW σ τ w n) {i : Nat} (hi1 : 1 ≤ i) (hi : i < n) (hl : lst (w 0) ≠ 0) {Q : Int32 → Prop} (h1 : st w i → Q 1) (h0 : ¬ st w i → Q 0) : wp_X3_canStand σ (nI i) Q := by
  have hn := h.1
  have hw0 := h.2.2.2 0 (by omega)
  have hwi := h.2.2.2 i hi
  have hwp := h.2.2.2 (i - 1) (by omega)
  have hlc := lst_cases (w 0)
  have hfc := fos_cases (w 0)
  unfold wp_X3_canStand
  refine br_f (nI_ne0 (by omega) (by omega)) (s_fig h hi (s_first h (by omega) (pk_lt i (fos (w 0)) (fun ha => ?_) (fun ha => ?_))))
  · refine pk_lt 1 i (fun hb => h0 ?_) (fun hb => ?_)
    · unfold st; omega
    · refine s_letter h (by omega) (pk_eq (w 0) 102 (fun hc => h0 ?_) (fun hc => ?_))
      · unfold st; omega
      · refine s_letter h (by omega) ⟨fun y => y = if w 0 = 100 ∨ w 0 = 116 then 1 else 0, ?_, w 0 = 100 ∨ w 0 = 116, fun z => by rw [if_pos z], ?_⟩
        · rintro y rfl
          by_cases hd : w 0 = 100 ∨ w 0 = 116
          · rw [if_pos hd]
            refine b1 ?_
            by_cases ht : 49 ≤ w i ∧ w i ≤ 53
            · rw [fg_in (by omega)]
              refine br_f (nI_nlt (b := 1) (by omega) (by omega)) (br_f (nI_nlt (a := 5) (b := w i - 48) (by omega) (by omega)) (h1 ?_))
              unfold st; omega
            · have hq0 := h0 (by unfold st; omega)
              rcases fg_out (v := w i) (lo := 1) (hi := 5) (by omega) (by omega) (by omega) (by omega) with z | z
              · exact br_t z hq0
              · exact br_c (fun _ => hq0) (fun _ => br_t z hq0)
          · rw [if_neg hd]
            refine b0 (fgm (by omega) (fun z => h1 ?_) (fun z => h0 ?_))
            · unfold st; omega
            · unfold st; omega
        · refine pk_eq (w 0) 100 (fun z => Or.inl z) (fun z => s_letter h (by omega) (pk_eq (w 0) 116 (fun z2 => Or.inr z2) (fun z2 => ?_)))
          rw [if_neg (by omega)]
  · refine fgm (by omega) (fun z => b1 (s_first h (by omega) (pk_eq i (fos (w 0)) (fun hb => h1 ?_) (fun hb => ?_)))) (fun z => b0 (h0 ?_))
    · unfold st; omega
    · rw [k_l1, k_sub_n hi1]
      refine s_fig h (by omega) (br_c (fun hc => h0 ?_) (fun hc => h1 ?_))
      · rw [fg_le (by omega) (by omega)] at hc
        unfold st; omega
      · rw [fg_le (by omega) (by omega)] at hc
        unfold st; omega
    · unfold st; omega
theorem s_can7 (h : TW σ τ w n) {i : Nat} (hi1 : 1 ≤ i) (hi : i < n) {Q : Int32 → Prop} (h1 : st w i → Q 1) (h0 : ¬ st w i → Q 0) : wp_X7_canStand τ (nI i) Q := by
  have hn := h.1
  have hw0 := h.2.2.2 0 (by omega)
  have hwi := h.2.2.2 i hi
  have hwp := h.2.2.2 (i - 1) (by omega)
  unfold wp_X7_canStand
  refine s_fig7 h hi ?_
  rw [kcl_0, hw0.2.1]
  refine ⟨w 0 = 115 ∨ w 0 = 119, fun hc => pk_eq i 1 (fun ha => fgm7 (by omega) (fun z => b1 (h1 ?_)) (fun z => b0 (h0 ?_))) (fun ha => h0 ?_), pk_eq (w 0) 98 (fun c1 => ?_) (fun c1 => pk_eq (w 0) 100 (fun c2 => ?_) (fun c2 => pk_eq (w 0) 111 (fun c3 => ?_) (fun c3 => pk_eq (w 0) 115 (fun c4 => Or.inl c4) (fun c4 => pk_eq (w 0) 116 (fun c5 => ?_) (fun c5 => pk_eq (w 0) 119 (fun c6 => Or.inr c6) (fun c6 => h0 ?_))))))⟩
  · unfold st; omega
  · unfold st; omega
  · unfold st; omega
  · refine fgm7 (by omega) (fun z => b1 (pk_lt i 3 (fun ha => h1 ?_) (fun ha => ?_))) (fun z => b0 (h0 ?_))
    · unfold st; omega
    · rw [k_l1, k_sub_n hi1]
      refine s_fig7 h (by omega) (br_c (fun hc => h0 ?_) (fun hc => h1 ?_))
      · rw [fg_le (by omega) (by omega)] at hc
        unfold st; omega
      · rw [fg_le (by omega) (by omega)] at hc
        unfold st; omega
    · unfold st; omega
  · refine pk_eq i 1 (fun ha => fgt7 (by omega) (fun z => b1 (h1 ?_)) (fun z => b0 (h0 ?_))) (fun ha => h0 ?_)
    · unfold st; omega
    · unfold st; omega
    · unfold st; omega
  · refine fgm7 (by omega) (fun z => b1 (pk_eq i 1 (fun ha => h1 ?_) (fun ha => ?_))) (fun z => b0 (h0 ?_))
    · unfold st; omega
    · rw [k_l1, k_sub_n hi1]
      refine s_fig7 h (by omega) (br_c (fun hc => h0 ?_) (fun hc => h1 ?_))
      · rw [fg_le (by omega) (by omega)] at hc
        unfold st; omega
      · rw [fg_le (by omega) (by omega)] at hc
        unfold st; omega
    · unfold st; omega
  · refine pk_eq i 1 (fun ha => fgt7 (by omega) (fun z => h1 ?_) (fun z => h0 ?_)) (fun ha => fgm7 (by omega) (fun z => b1 (pk_eq i 2 (fun ha => h1 ?_) (fun ha => ?_))) (fun z => b0 (h0 ?_)))
    · unfold st; omega
    · unfold st; omega
    · unfold st; omega
    · rw [k_l1, k_sub_n hi1]
      refine s_fig7 h (by omega) (br_c (fun hc => h0 ?_) (fun hc => h1 ?_))
      · rw [fg_le (by omega) (by omega)] at hc
        unfold st; omega
      · rw [fg_le (by omega) (by omega)] at hc
        unfold st; omega
    · unfold st; omega
  · unfold st; omega
/-- the class's fault -/
theorem f6_any (h : TW σ τ w n) {Q : Int32 → Prop} (hok : okT w n → Q (-6)) (hbad : ∀ r, r ≤ n → badT w n r → Q (nI r)) : wp_X3_faultPlace σ Q := by
  have hn := h.1
  unfold wp_X3_faultPlace
  rw [h.2.1]
  refine k_lpI1 n (fun j x => x = nI j ∧ (0 < j → lst (w 0) ≠ 0) ∧ ∀ i, 1 ≤ i → i < j → st w i) 0 (Nat.zero_le _) ⟨rfl, fun z => absurd z (by omega), fun i a b => absurd b (by omega)⟩ ?_
  rintro j hj x ⟨rfl, hl, hs⟩ B hB
  rcases Nat.lt_or_ge j n with hlt | hge
  · refine br_f (nI_ge hlt (by omega)) ?_
    have hw0 := h.2.2.2 0 (by omega)
    by_cases hj0 : j = 0
    · subst hj0
      refine br_t rfl (s_letter h (by omega) (s_isLetter (by omega) ?_))
      by_cases hl0 : lst (w 0) = 0
      · rw [if_pos hl0]
        exact b0 (hbad 0 (by omega) (Or.inl ⟨Or.inr hl0, rfl⟩))
      · rw [if_neg hl0]
        exact b1 (hB hlt _ ⟨rfl, fun _ => hl0, fun i a b => absurd b (by omega)⟩)
    · refine s_can6 h (by omega) hlt (hl (by omega)) (fun hst => b1 (hB hlt _ ⟨by rw [k_l1, nI_add], fun _ => hl (by omega), fun i a b => ?_⟩)) (fun hst => b0 (hbad j (by omega) (Or.inr ⟨⟨by omega, hl (by omega)⟩, by omega, by omega, hs, Or.inl ⟨hlt, hst⟩⟩)))
      by_cases e : i = j
      · rw [e]; exact hst
      · exact hs i a (by omega)
  · have e : j = n := by omega
    subst e
    refine br_t (nI_le (Nat.le_refl _) (by omega)) ?_
    by_cases hj0 : j = 0
    · subst hj0
      unfold wp_X3_fewestSigns
      exact s_sign0 h (i := 0) (by omega) (by omega) (br_f (by decide) (br_f (by decide) (br_f (by decide) (br_f (by decide) (hbad 0 (by omega) (Or.inl ⟨Or.inl rfl, rfl⟩))))))
    · have hl2 := hl (by omega)
      have hlc := lst_cases (w 0)
      exact s_fewest h (by omega) hl2 (pk_le (lst (w 0)) j (fun ha => hok ⟨by omega, hl2, ha, hs⟩) (fun ha => hbad j (by omega) (Or.inr ⟨⟨by omega, hl2⟩, by omega, Nat.le_refl _, hs, Or.inr ⟨rfl, ha⟩⟩)))
theorem f7_any (h : TW σ τ w n) {Q : Int32 → Prop} (hok : okT w n → Q (-6)) (hbad : ∀ r, r ≤ n → badT w n r → Q (nI r)) : wp_X7_faultNow τ Q := by
  have hn := h.1
  unfold wp_X7_faultNow
  rw [h.2.2.1]
  refine pk_eq n 0 (fun h0 => hbad 0 (by omega) (Or.inl ⟨Or.inl h0, rfl⟩)) (fun h0 => ?_)
  have hw0 := h.2.2.2 0 (by omega)
  have hlc := lst_cases (w 0)
  rw [kcl_0, hw0.2.1]
  refine s_least (by omega) (pk_eq (lst (w 0)) 0 (fun hl => hbad 0 (by omega) (Or.inl ⟨Or.inr hl, rfl⟩)) (fun hl => ?_))
  refine k_lpI1 n (fun j x => x = nI j ∧ 1 ≤ j ∧ ∀ i, 1 ≤ i → i < j → st w i) 1 (by omega) ⟨rfl, by omega, fun i a b => absurd b (by omega)⟩ ?_
  rintro j hj x ⟨rfl, hj1, hs⟩ B hB
  rcases Nat.lt_or_ge j n with hlt | hge
  · refine br_f (nI_ge hlt (by omega)) (s_can7 h (by omega) hlt (fun hst => b1 (hB hlt _ ⟨by rw [k_l1, nI_add], by omega, fun i a b => ?_⟩)) (fun hst => b0 (hbad j (by omega) (Or.inr ⟨⟨by omega, hl⟩, by omega, by omega, hs, Or.inl ⟨hlt, hst⟩⟩))))
    by_cases e : i = j
    · rw [e]; exact hst
    · exact hs i a (by omega)
  · have e : j = n := by omega
    subst e
    exact br_t (nI_le (Nat.le_refl _) (by omega)) (s_least (by omega) (pk_le (lst (w 0)) j (fun ha => hok ⟨by omega, hl, ha, hs⟩) (fun ha => hbad j (by omega) (Or.inr ⟨⟨by omega, hl⟩, by omega, Nat.le_refl _, hs, Or.inr ⟨rfl, ha⟩⟩))))
theorem bad_ok {r : Nat} (h1 : okT w n) (h2 : badT w n r) : False := by
  rcases h2 with ⟨a, b⟩ | ⟨a, b, c, d, e⟩
  · have := h1.1
    have := h1.2.1
    omega
  · rcases e with ⟨e1, e2⟩ | ⟨e1, e2⟩
    · exact e2 (h1.2.2.2 r b e1)
    · have := h1.2.2.1
      omega
theorem bad_uniq {r r' : Nat} (h1 : badT w n r) (h2 : badT w n r') : r = r' := by
  rcases h1 with ⟨a, b⟩ | ⟨a, b, c, d, e⟩ <;> rcases h2 with ⟨a', b'⟩ | ⟨a', b', c', d', e'⟩
  · omega
  · omega
  · omega
  · rcases Nat.lt_trichotomy r r' with h | h | h
    · have := d' r b h
      rcases e with ⟨e1, e2⟩ | ⟨e1, e2⟩
      · exact absurd this e2
      · omega
    · exact h
    · have := d r' b' h
      rcases e' with ⟨e1, e2⟩ | ⟨e1, e2⟩
      · exact absurd this e2
      · omega
end
theorem sim_fault_ok : sim_fault RR := by
  rintro pr σ ρ τ hR
  obtain ⟨-, ht, -, -⟩ := id hR
  obtain ⟨w, n, hT⟩ := ht.tw
  unfold wp_X6_fault wp_X7_fault
  refine f6_any hT (fun h => f7_any hT (fun _ => ⟨rfl, hR⟩) (fun r _ hb => (bad_ok h hb).elim)) (fun r _ hb => f7_any hT (fun h => (bad_ok h hb).elim) (fun r' _ hb' => ⟨by rw [bad_uniq hb hb'], hR⟩))
