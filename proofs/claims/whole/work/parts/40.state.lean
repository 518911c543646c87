/-! how a state changes -/
section
variable {κ κ' : k_M} {s s' : Nat → Int32} {A : aM}
theorem CRc.rows (h : CRc κ A) : ∀ k, k < 40 → κ 1 k = nI (A 0 k) := h.1
theorem CRc.bends (h : CRc κ A) : ∀ k, 5 ≤ k → k < 40 → κ 2 k = nI (A 1 k) := h.2.1
theorem CRc.shares (h : CRc κ A) : ∀ m, 1 ≤ m → m ≤ 7 → (A 8 0).testBit m = true → κ 3 m = nI (A 2 m) := h.2.2.1
theorem CRc.seals (h : CRc κ A) : ∀ j, 0 < A 8 2 → j < A 8 1 → κ 4 j = nI (4 ^ A 3 j % 47) := h.2.2.2.1
theorem CRc.olds (h : CRc κ A) : ∀ e, e < A 8 2 → κ 5 e = nI (A 4 e) := h.2.2.2.2.1
theorem CRc.hold (h : CRc κ A) : κ 0 6 = nI (A 8 0) := h.2.2.2.2.2.1
theorem CRc.thr (h : CRc κ A) : 0 < A 8 2 → κ 0 7 = nI (A 8 1) := h.2.2.2.2.2.2.1
theorem CRc.ep (h : CRc κ A) : κ 0 8 = nI (A 8 2) - 1 := h.2.2.2.2.2.2.2.1
theorem CRc.li (h : CRc κ A) : κ 0 9 = nI (A 8 3) := h.2.2.2.2.2.2.2.2.1
theorem CRc.sk (h : CRc κ A) : κ 0 10 = nI (A 8 4) := h.2.2.2.2.2.2.2.2.2.1
theorem CRc.dn (h : CRc κ A) : κ 0 11 = nI (A 8 5) := h.2.2.2.2.2.2.2.2.2.2.1
theorem CRc.lz (h : CRc κ A) : κ 6 3 = nI (A 8 6) := h.2.2.2.2.2.2.2.2.2.2.2.1
theorem CRc.lo (h : CRc κ A) : ∀ i, i < A 8 6 → κ 7 i = nI (A 5 i) ∧ κ 8 i = nI (A 6 i) ∧ κ 9 i = nI (A 7 i) := h.2.2.2.2.2.2.2.2.2.2.2.2
theorem CRm.rows (h : CRm s A) : ∀ k, k < 40 → s k = nI (A 0 k) := h.1
theorem CRm.bends (h : CRm s A) : ∀ m w, 1 ≤ m → m ≤ 7 → w < 5 → s (48 + 8 * w + m) = nI (A 1 (5 * m + w)) := h.2.1
theorem CRm.shares (h : CRm s A) : ∀ m, 1 ≤ m → m ≤ 7 → s (40 + m) = if (A 8 0).testBit m then nI (A 2 m) else -6 := h.2.2.1
theorem CRm.seals (h : CRm s A) : ∀ j, 0 < A 8 2 → j < A 8 1 → s (90 + j) = nI (4 ^ A 3 j % 47) := h.2.2.2.1
theorem CRm.olds (h : CRm s A) : ∀ e, e < A 8 2 → s (95 + e) = nI (A 4 e) := h.2.2.2.2.1
theorem CRm.thr (h : CRm s A) : s 88 = (if A 8 2 = 0 then -6 else nI (A 8 1)) := h.2.2.2.2.2.1
theorem CRm.ep (h : CRm s A) : s 89 = (if A 8 2 = 0 then -6 else nI (A 8 2 - 1)) := h.2.2.2.2.2.2.1
theorem CRm.lz (h : CRm s A) : s 367 = nI (A 8 6) := h.2.2.2.2.2.2.2.1
theorem CRm.dn (h : CRm s A) : s 368 = nI (A 8 5) := h.2.2.2.2.2.2.2.2.1
theorem CRm.li (h : CRm s A) : s 369 = nI (A 8 3) := h.2.2.2.2.2.2.2.2.2.1
theorem CRm.sk (h : CRm s A) : s 370 = nI (A 8 4) := h.2.2.2.2.2.2.2.2.2.2.1
theorem CRm.lo (h : CRm s A) : ∀ i, i < A 8 6 → s (295 + 3 * i) = nI (A 5 i) ∧ s (296 + 3 * i) = nI (A 6 i) ∧ s (297 + 3 * i) = nI (A 7 i) := h.2.2.2.2.2.2.2.2.2.2.2
theorem aInv.rows (h : aInv A) : ∀ k, k < 40 → A 0 k < 23 := h.1
theorem aInv.bends (h : aInv A) : ∀ m w, 1 ≤ m → m ≤ 7 → w < 5 → A 1 (5 * m + w) ≤ aHi w := h.2.1
theorem aInv.h256 (h : aInv A) : A 8 0 < 256 := h.2.2.1
theorem aInv.h0 (h : aInv A) : (A 8 0).testBit 0 = false := h.2.2.2.1
theorem aInv.e200 (h : aInv A) : A 8 2 ≤ 200 := h.2.2.2.2.1
theorem aInv.l256 (h : aInv A) : A 8 3 < 256 := h.2.2.2.2.2.1
theorem aInv.s256 (h : aInv A) : A 8 4 < 256 := h.2.2.2.2.2.2.1
theorem aInv.z24 (h : aInv A) : A 8 6 ≤ 24 := h.2.2.2.2.2.2.2.1
theorem aInv.cur (h : aInv A) : 0 < A 8 2 → 1 ≤ A 8 1 ∧ A 8 1 ≤ 5 ∧ A 4 (A 8 2 - 1) = A 8 1 ∧ ∀ j, j < A 8 1 → A 9 (5 * (A 8 2 - 1) + j) = A 3 j := h.2.2.2.2.2.2.2.2.1
theorem aInv.olds (h : aInv A) : ∀ e, e < A 8 2 → 1 ≤ A 4 e ∧ A 4 e ≤ 5 := h.2.2.2.2.2.2.2.2.2.1
theorem aInv.cf (h : aInv A) : ∀ j, A 3 j < 23 := h.2.2.2.2.2.2.2.2.2.2.1
theorem aInv.und (h : aInv A) : A 8 2 = 0 → A 8 0 = 0 ∧ A 8 6 = 0 := h.2.2.2.2.2.2.2.2.2.2.2.1
theorem aInv.sh (h : aInv A) : ∀ m, 1 ≤ m → m ≤ 7 → (A 8 0).testBit m = true → A 2 m = pe (A 3) (A 8 1) m := h.2.2.2.2.2.2.2.2.2.2.2.2.1
theorem aInv.lo (h : aInv A) : ∀ i, i < A 8 6 → 1 ≤ A 5 i ∧ A 5 i ≤ 7 ∧ A 6 i < A 8 2 ∧ A 7 i = pe (fun j => A 9 (5 * A 6 i + j)) (A 4 (A 6 i)) (A 5 i) := h.2.2.2.2.2.2.2.2.2.2.2.2.2.1
theorem aInv.srt (h : aInv A) : ∀ i j, i ≤ j → j < A 8 6 → A 6 i ≤ A 6 j := h.2.2.2.2.2.2.2.2.2.2.2.2.2.2.1
theorem aInv.c9 (h : aInv A) : ∀ k, A 9 k < 23 := h.2.2.2.2.2.2.2.2.2.2.2.2.2.2.2
theorem aInv.dealt (h : aInv A) {m : Nat} (hb : (A 8 0).testBit m = true) : 0 < A 8 2 := Nat.pos_of_ne_zero (fun z => by
  rw [(h.und z).1, Nat.zero_testBit] at hb
  exact absurd hb (by decide))
/-- liars and struck -/
def aLS (A : aM) (L S : Nat) : aM := fun a k => if a = 8 then (if k = 3 then L else if k = 4 then S else A 8 k) else A a k
theorem CRc.ls {L S : Nat} (h : CRc κ A) (e : ∀ a, 1 ≤ a → a ≤ 9 → κ' a = κ a) (e0 : ∀ k, k ≠ 9 → k ≠ 10 → κ' 0 k = κ 0 k) (e9 : κ' 0 9 = nI L) (e10 : κ' 0 10 = nI S) : CRc κ' (aLS A L S) := by
  refine ⟨?_, ?_, ?_, ?_, ?_, (e0 6 (by omega) (by omega)).trans h.hold, fun z => (e0 7 (by omega) (by omega)).trans (h.thr z), (e0 8 (by omega) (by omega)).trans h.ep, e9, e10, (e0 11 (by omega) (by omega)).trans h.dn, ?_, ?_⟩
  · rw [e 1 (by omega) (by omega)]; exact h.rows
  · rw [e 2 (by omega) (by omega)]; exact h.bends
  · rw [e 3 (by omega) (by omega)]; exact h.shares
  · rw [e 4 (by omega) (by omega)]; exact h.seals
  · rw [e 5 (by omega) (by omega)]; exact h.olds
  · rw [e 6 (by omega) (by omega)]; exact h.lz
  · rw [e 7 (by omega) (by omega), e 8 (by omega) (by omega), e 9 (by omega) (by omega)]; exact h.lo
theorem CRm.ls {L S : Nat} (h : CRm s A) (hi : aInv A) (e : ∀ q, q < 371 → q ≠ 369 → q ≠ 370 → s' q = s q) (e1 : s' 369 = nI L) (e2 : s' 370 = nI S) : CRm s' (aLS A L S) := by
  have z := hi.z24
  have ze := hi.e200
  refine ⟨fun k hk => (e _ (by omega) (by omega) (by omega)).trans (h.rows k hk), fun m w a b c => (e _ (by omega) (by omega) (by omega)).trans (h.bends m w a b c), fun m a b => (e _ (by omega) (by omega) (by omega)).trans (h.shares m a b), fun j a b => ?_, fun k a => ?_, (e _ (by omega) (by omega) (by omega)).trans h.thr, (e _ (by omega) (by omega) (by omega)).trans h.ep, (e _ (by omega) (by omega) (by omega)).trans h.lz, (e _ (by omega) (by omega) (by omega)).trans h.dn, e1, e2, fun i a => ?_⟩
  · have b' : j < A 8 1 := b
    have := (hi.cur a).2.1
    exact (e _ (by omega) (by omega) (by omega)).trans (h.seals j a b)
  · have a' : k < A 8 2 := a
    exact (e _ (by omega) (by omega) (by omega)).trans (h.olds k a)
  · have a' : i < A 8 6 := a
    have := h.lo i a
    exact ⟨(e _ (by omega) (by omega) (by omega)).trans this.1, (e _ (by omega) (by omega) (by omega)).trans this.2.1, (e _ (by omega) (by omega) (by omega)).trans this.2.2⟩
theorem aInv.ls {L S : Nat} (h : aInv A) (hL : L < 256) (hS : S < 256) : aInv (aLS A L S) := ⟨h.rows, h.bends, h.h256, h.h0, h.e200, hL, hS, h.z24, h.cur, h.olds, h.cf, h.und, h.sh, h.lo, h.srt, h.c9⟩
/-- a new epoch -/
def nxtA (A : aM) (H t : Nat) (cf sh : Nat → Nat) (L S : Nat) : aM := fun a k =>
  if a = 2 then sh k else if a = 3 then cf k else if a = 4 then (if k = A 8 2 then t else A 4 k) else if a = 8 then (if k = 0 then H else if k = 1 then t else if k = 2 then A 8 2 + 1 else if k = 3 then L else if k = 4 then S else A 8 k) else if a = 9 then (if 5 * A 8 2 ≤ k ∧ k < 5 * A 8 2 + 5 then cf (k - 5 * A 8 2) else A 9 k) else A a k
theorem CRc.nxt {H t L S : Nat} {cf sh : Nat → Nat} (h : CRc κ A) (e : ∀ a, a = 1 ∨ a = 2 ∨ 6 ≤ a → a ≤ 9 → κ' a = κ a) (e3 : ∀ m, 1 ≤ m → m ≤ 7 → H.testBit m = true → κ' 3 m = nI (sh m)) (e4 : ∀ j, j < t → κ' 4 j = nI (4 ^ cf j % 47)) (e5 : ∀ k, κ' 5 k = if k = A 8 2 then nI t else κ 5 k) (f6 : κ' 0 6 = nI H) (f7 : κ' 0 7 = nI t) (f8 : κ' 0 8 = nI (A 8 2)) (f9 : κ' 0 9 = nI L) (f10 : κ' 0 10 = nI S) (f11 : κ' 0 11 = κ 0 11) : CRc κ' (nxtA A H t cf sh L S) := by
  refine ⟨?_, ?_, e3, fun j _ hj => e4 j hj, fun k hk => ?_, f6, fun _ => f7, ?_, f9, f10, f11.trans h.dn, ?_, ?_⟩
  · rw [e 1 (by omega) (by omega)]; exact h.rows
  · rw [e 2 (by omega) (by omega)]; exact h.bends
  · show κ' 5 k = nI (if k = A 8 2 then t else A 4 k)
    have hk' : k < A 8 2 + 1 := hk
    rw [e5]
    by_cases hE : k = A 8 2
    · rw [if_pos hE, if_pos hE]
    · rw [if_neg hE, if_neg hE]
      exact h.olds k (by omega)
  · show κ' 0 8 = nI (A 8 2 + 1) - 1
    rw [f8]
    exact (nI_pred _).symm
  · rw [e 6 (by omega) (by omega)]; exact h.lz
  · rw [e 7 (by omega) (by omega), e 8 (by omega) (by omega), e 9 (by omega) (by omega)]; exact h.lo
theorem CRm.nxt {H t L S : Nat} {cf sh : Nat → Nat} (h : CRm s A) (hi : aInv A) (hE : A 8 2 < 200) (e1 : ∀ q, (q < 40 ∨ (48 ≤ q ∧ q < 88) ∨ (295 ≤ q ∧ q < 369)) → s' q = s q) (e3 : ∀ m, 1 ≤ m → m ≤ 7 → s' (40 + m) = if H.testBit m then nI (sh m) else -6) (e4 : ∀ j, j < t → s' (90 + j) = nI (4 ^ cf j % 47)) (e5 : ∀ k, k < 200 → s' (95 + k) = if k = A 8 2 then nI t else s (95 + k)) (f7 : s' 88 = nI t) (f8 : s' 89 = nI (A 8 2)) (f9 : s' 369 = nI L) (f10 : s' 370 = nI S) : CRm s' (nxtA A H t cf sh L S) := by
  have z := hi.z24
  refine ⟨fun k hk => (e1 _ (by omega)).trans (h.rows k hk), fun m w a b c => (e1 _ (by omega)).trans (h.bends m w a b c), e3, fun j _ hj => e4 j hj, fun k hk => ?_, f7.trans (if_neg (Nat.succ_ne_zero _)).symm, f8.trans (if_neg (Nat.succ_ne_zero _)).symm, (e1 _ (by omega)).trans h.lz, (e1 _ (by omega)).trans h.dn, f9, f10, fun i a => ?_⟩
  · show s' (95 + k) = nI (if k = A 8 2 then t else A 4 k)
    have hk' : k < A 8 2 + 1 := hk
    rw [e5 k (by omega)]
    by_cases hE : k = A 8 2
    · rw [if_pos hE, if_pos hE]
    · rw [if_neg hE, if_neg hE]
      exact h.olds k (by omega)
  · have a' : i < A 8 6 := a
    have := h.lo i a
    exact ⟨(e1 _ (by omega)).trans this.1, (e1 _ (by omega)).trans this.2.1, (e1 _ (by omega)).trans this.2.2⟩
theorem aInv.nxt {H t L S : Nat} {cf sh : Nat → Nat} (h : aInv A) (hE : A 8 2 < 200) (hH : H < 256) (hH0 : H.testBit 0 = false) (ht1 : 1 ≤ t) (ht5 : t ≤ 5) (hcf : ∀ j, cf j < 23) (hsh : ∀ m, 1 ≤ m → m ≤ 7 → H.testBit m = true → sh m = pe cf t m) (hL : L < 256) (hS : S < 256) : aInv (nxtA A H t cf sh L S) := by
  refine ⟨h.rows, h.bends, hH, hH0, hE, hL, hS, h.z24, fun _ => ⟨ht1, ht5, if_pos rfl, fun j hj => ?_⟩, fun e he => ?_, hcf, fun z => absurd z (Nat.succ_ne_zero _), hsh, fun i hi => ?_, h.srt, fun k => ?_⟩
  · have hj' : j < t := hj
    show (if 5 * A 8 2 ≤ 5 * A 8 2 + j ∧ 5 * A 8 2 + j < 5 * A 8 2 + 5 then cf (5 * A 8 2 + j - 5 * A 8 2) else A 9 (5 * A 8 2 + j)) = cf j
    rw [if_pos (by omega), show 5 * A 8 2 + j - 5 * A 8 2 = j by omega]
  · show 1 ≤ (if e = A 8 2 then t else A 4 e) ∧ (if e = A 8 2 then t else A 4 e) ≤ 5
    have he' : e < A 8 2 + 1 := he
    by_cases hh : e = A 8 2
    · rw [if_pos hh]; exact ⟨ht1, ht5⟩
    · rw [if_neg hh]; exact h.olds e (by omega)
  · have l := h.lo i hi
    have lt5 := h.olds _ l.2.2.1
    refine ⟨l.1, l.2.1, Nat.lt_succ_of_lt l.2.2.1, l.2.2.2.trans ?_⟩
    show pe (fun j => A 9 (5 * A 6 i + j)) (A 4 (A 6 i)) (A 5 i) = pe (fun j => if 5 * A 8 2 ≤ 5 * A 6 i + j ∧ 5 * A 6 i + j < 5 * A 8 2 + 5 then cf (5 * A 6 i + j - 5 * A 8 2) else A 9 (5 * A 6 i + j)) (if A 6 i = A 8 2 then t else A 4 (A 6 i)) (A 5 i)
    rw [if_neg (by omega)]
    exact pe_congr (fun j hj => by rw [if_neg (by omega)])
  · show (if 5 * A 8 2 ≤ k ∧ k < 5 * A 8 2 + 5 then cf (k - 5 * A 8 2) else A 9 k) < 23
    split
    · exact hcf _
    · exact h.c9 k
end
/-- the class begins an epoch -/
theorem s_begin {σ : k_M} {n t : Nat} (h48 : σ 4 8 = nI n - 1) (hn : n < 200) {Q : k_M → Prop} (hq : ∀ σ', (∀ a, a ≠ 4 → a ≠ 9 → σ' a = σ a) → (∀ k, k ≠ 7 → k ≠ 8 → σ' 4 k = σ 4 k) → σ' 4 7 = nI t → σ' 4 8 = nI n → (∀ k, σ' 9 k = if k = n then nI t else σ 9 k) → Q σ') : wp_X0_beginEpoch σ (nI t) Q := by
  unfold wp_X0_beginEpoch wp_X0_isLastEpoch
  have e1 : σ 4 8 + 1 = nI n := by
    rw [h48]
    cases n with
    | zero => decide
    | succ n => rw [nI_pred, nI_1]
  refine br_t ?_ (b0 ?_)
  · rw [h48]
    cases n with
    | zero => decide
    | succ n => rw [nI_pred]; exact nI_lt (b := 199) (by omega) (by omega)
  · have e2 : k_put (k_put σ 4 8 (σ 4 8 + 1)) 4 7 (nI t) 4 8 = nI n := by rw [put_slot (by decide), put_same, e1]
    rw [e2, nI_clamp (by omega), e1]
    refine ⟨vp_in_nI hn (by omega), hq _ (fun a h4 h9 => ?_) (fun k h7 h8 => ?_) ?_ ?_ (fun k => ?_)⟩
    · rw [put_cell h9, put_cell h4, put_cell h4]
    · rw [put_cell (by decide), put_slot h7, put_slot h8]
    · rw [put_cell (by decide), put_same]
    · rw [put_cell (by decide), put_slot (by decide), put_same]
    · rw [put_if]
      split
      · rfl
      · rw [put_cell (by decide), put_cell (by decide)]
/-- the reference begins one -/
theorem s_next {τ : k_M} {n : Nat} {t : Int32} (h89 : τ 1 89 = nI n - 1) (h88 : τ 1 88 = t) (hn : n < 200) {Q : k_M → Prop} (hq : ∀ τ', (∀ a, a ≠ 1 → τ' a = τ a) → (∀ q, q ≠ 89 → (q < 95 ∨ 295 ≤ q) → τ' 1 q = τ 1 q) → τ' 1 89 = nI n → (∀ k, k < 200 → τ' 1 (95 + k) = if k = n then t else τ 1 (95 + k)) → Q τ') : wp_X7_nextEpoch τ Q := by
  unfold wp_X7_nextEpoch
  have e1 : τ 1 89 + 1 = nI n := by
    rw [h89]
    cases n with
    | zero => decide
    | succ n => rw [nI_pred, nI_1]
  rw [kcl_89, kcl_88, e1]
  have e2 : k_put τ 1 89 (nI n) 1 89 = nI n := put_same
  have e3 : k_put τ 1 89 (nI n) 1 88 = t := by rw [put_slot (by decide), h88]
  rw [e2, e3, k_l95, nI_add, nI_clamp (by omega)]
  refine ⟨vp_in_nI (by omega) (by omega), hq _ (fun a h => ?_) (fun q h1 h2 => ?_) ?_ (fun k hk => ?_)⟩
  · rw [put_cell h, put_cell h]
  · rw [put_slot (by omega), put_slot h1]
  · rw [put_slot (by omega), put_same]
  · rw [put_if]
    by_cases e : k = n
    · rw [if_pos e, if_pos (by omega)]
    · rw [if_neg e, if_neg (by omega), put_slot (by omega)]
theorem s_layPoly {τ : k_M} {m t : Nat} {v : Int32} (hm : m ≤ 7) (ht1 : 1 ≤ t) (ht : t ≤ 5) {Q : k_M → Prop} (hq : ∀ τ', (∀ a, a ≠ 0 → a ≠ 3 → τ' a = τ a) → (∀ k, k ≠ 4 → τ' 0 k = τ 0 k) → τ' 0 4 = nI t → τ' 3 0 = v → (∀ j, 1 ≤ j → j < t → τ' 3 j = τ 1 (5 * m + j)) → Q τ') : wp_X7_layPoly τ (nI m) v (nI t) Q := by
  unfold wp_X7_layPoly
  refine k_lpI2 t (fun j k τ' => k = nI j ∧ 1 ≤ j ∧ (∀ a, a ≠ 0 → a ≠ 3 → τ' a = τ a) ∧ (∀ k, k ≠ 4 → τ' 0 k = τ 0 k) ∧ τ' 0 4 = nI t ∧ τ' 3 0 = v ∧ (∀ i, 1 ≤ i → i < j → τ' 3 i = τ 1 (5 * m + i))) 1 ht1 ⟨rfl, by omega, fun a h0 h3 => by rw [put_cell h3, put_cell h0], fun k h => by rw [put_cell (by decide), put_slot h], by rw [put_cell (by decide), put_same], by rw [kcl_0, put_same], fun i a b => absurd b (by omega)⟩ ?_
  rintro j hj k τ' ⟨rfl, hj1, h1, h2, h3, h4, h5⟩ B hB
  rcases Nat.lt_or_ge j t with hlt | hge
  · refine br_f (nI_ge hlt (by omega)) ?_
    rw [k_l0, k_l5, pk_mul, nI_add, nI_add, show 0 + 5 * m + j = 5 * m + j by omega, nI_clamp (by omega), nI_clamp (by omega)]
    refine ⟨vp_in_nI (by omega) (by omega), vp_in_nI (by omega) (by omega), hB hlt _ _ ⟨by rw [k_l1, nI_add], by omega, fun a a0 a3 => by rw [put_cell a3]; exact h1 a a0 a3, fun q hq => by rw [put_cell (by decide)]; exact h2 q hq, by rw [put_cell (by decide)]; exact h3, by rw [put_slot (by omega)]; exact h4, fun i i1 i2 => ?_⟩⟩
    rw [put_if]
    by_cases e : i = j
    · rw [if_pos e, h1 1 (by decide) (by decide), e]
    · rw [if_neg e]
      exact h5 i i1 (by omega)
  · have e : j = t := by omega
    subst e
    exact br_t (nI_le (Nat.le_refl _) (by omega)) (hq τ' h1 h2 h3 h4 h5)
/-- what a writer of the reference keeps -/
def K7 (τ τ' : k_M) : Prop := τ' 0 2 = τ 0 2 ∧ τ' 2 = τ 2 ∧ τ' 6 = τ 6 ∧ τ' 7 = τ 7
def K6 (σ σ' : k_M) : Prop := σ' 1 = σ 1 ∧ σ' 2 = σ 2
/-! dealing -/
def row0 (A : aM) : Nat → Nat := fun j => if j < 5 then A 0 j else 0
theorem row0_lt {A : aM} (hi : aInv A) (j : Nat) : row0 A j < 23 := by
  unfold row0
  split
  · exact hi.rows j (by omega)
  · omega
def dealA (A : aM) (t : Nat) : aM := nxtA A 254 t (row0 A) (fun m => pe (row0 A) t m) (A 8 3) (A 8 4)
theorem o6_deal {σ : k_M} {A : aM} {t : Nat} (hc : CRc (circ σ) A) (hi : aInv A) (hE : A 8 2 < 200) (ht1 : 1 ≤ t) (ht : t ≤ 5) {Q : Int32 → k_M → Prop} (hq : ∀ σ', K6 σ σ' → CRc (circ σ') (dealA A t) → Q 1 σ') : wp_X2_deal σ (nI t) Q := by
  unfold wp_X2_deal
  refine k_lpI2 t (fun j k σ' => k = nI j ∧ (∀ a, a ≠ 8 → σ' a = σ a) ∧ (∀ i, i < j → σ' 8 i = nI (4 ^ row0 A i % 47))) 0 (by omega) ⟨rfl, fun _ _ => rfl, fun i h => absurd h (by omega)⟩ ?_
  rintro j hj k σ1 ⟨rfl, h1, h2⟩ B hB
  refine ⟨j = t, fun hjt => ?_, ?_⟩
  · subst hjt
    refine k_lpI2 7 (fun i k σ' => k = nI (i + 1) ∧ (∀ a, a ≠ 7 → σ' a = σ1 a) ∧ (∀ m, 1 ≤ m → m ≤ i → σ' 7 m = nI (pe (row0 A) j m))) 0 (by omega) ⟨rfl, fun _ _ => rfl, fun m a b => absurd b (by omega)⟩ ?_
    rintro i hi7 k σ2 ⟨rfl, g1, g2⟩ B2 hB2
    rcases Nat.lt_or_ge i 7 with hlt | hge
    · refine br_f (nI_nlt (a := 7) (b := i + 1) (by omega) (by omega)) ?_
      rw [k_l0]
      refine s_polynomialAt (c := row0 A) (fun q hq => ?_) (row0_lt hi) (by omega) (by omega) ht ⟨vp_in_nI (by omega) (by omega), hB2 hlt _ _ ⟨nI_add (i + 1) 1, fun a ha => by rw [put_cell ha]; exact g1 a ha, fun m a b => ?_⟩⟩
      · rw [g1 5 (by decide), h1 5 (by decide)]
        unfold row0
        rw [if_pos (by omega), show 5 * 0 + q = q by omega]
        exact hc.rows q (by omega)
      · rw [nI_clamp (by omega), put_if]
        by_cases e : m = i + 1
        · rw [if_pos e, e]
        · rw [if_neg e]
          exact g2 m a (by omega)
    · have hi2 : i = 7 := by omega
      subst hi2
      refine br_t (by decide) (s_begin (n := A 8 2) ?_ hE (fun σ' k1 k2 k3 k4 k5 => hq σ' ⟨?_, ?_⟩ (hc.nxt (fun a a1 a2 => ?_) (fun m a b c => ?_) (fun q hq => ?_) (fun q => ?_) ?_ k3 k4 ?_ ?_ ?_)))
      · rw [put_slot (by decide), g1 4 (by decide), h1 4 (by decide)]; exact hc.ep
      · rw [k1 1 (by decide) (by decide), put_cell (by decide), g1 1 (by decide), h1 1 (by decide)]
      · rw [k1 2 (by decide) (by decide), put_cell (by decide), g1 2 (by decide), h1 2 (by decide)]
      · show σ' (a + 4) = σ (a + 4)
        rw [k1 _ (by omega) (by omega), put_cell (by omega), g1 _ (by omega), h1 _ (by omega)]
      · show σ' 7 m = _
        rw [k1 7 (by decide) (by decide), put_cell (by decide)]
        exact g2 m a b
      · show σ' 8 q = _
        rw [k1 8 (by decide) (by decide), put_cell (by decide), g1 8 (by decide)]
        exact h2 q hq
      · show σ' 9 q = if q = A 8 2 then nI j else σ 9 q
        rw [k5]
        rw [put_cell (by decide), g1 9 (by decide), h1 9 (by decide)]
      · show σ' 4 6 = nI 254
        rw [k2 6 (by decide) (by decide), put_same]
        rfl
      · show σ' 4 9 = _
        rw [k2 9 (by decide) (by decide), put_slot (by decide), g1 4 (by decide), h1 4 (by decide)]; exact hc.li
      · show σ' 4 10 = _
        rw [k2 10 (by decide) (by decide), put_slot (by decide), g1 4 (by decide), h1 4 (by decide)]; exact hc.sk
      · show σ' 4 11 = σ 4 11
        rw [k2 11 (by decide) (by decide), put_slot (by decide), g1 4 (by decide), h1 4 (by decide)]
  · refine pk_le t j (fun h => by omega) (fun h => br_f (nI_ge (b := 5) (by omega) (by omega)) ?_)
    rw [k_l0, nI_add, show 0 + j = j by omega, nI_clamp (by omega), h1 5 (by decide)]
    have e : σ 5 j = nI (row0 A j) := by
      unfold row0
      rw [if_pos (by omega)]
      exact hc.rows j (by omega)
    rw [e]
    refine ⟨vp_in_nI (by omega) (by omega), s_sealOf (Nat.lt_trans (row0_lt hi j) (by omega)) ⟨vp_in_nI (by omega) (by omega), hB h _ _ ⟨by rw [k_l1, nI_add], fun a ha => by rw [put_cell ha]; exact h1 a ha, fun i hi2 => ?_⟩⟩⟩
    rw [put_if]
    by_cases e : i = j
    · rw [if_pos e, e]
    · rw [if_neg e]
      exact h2 i (by omega)
theorem o7_deal {τ : k_M} {A : aM} {t : Nat} (hm : CRm (τ 1) A) (hi : aInv A) (hE : A 8 2 < 200) (ht1 : 1 ≤ t) (ht : t ≤ 5) {Q : Int32 → k_M → Prop} (hq : ∀ τ', K7 τ τ' → CRm (τ' 1) (dealA A t) → Q 1 τ') : wp_X7_deal τ (nI t) Q := by
  unfold wp_X7_deal
  rw [kcl_0, k_l0, kcl_88]
  refine s_layPoly (m := 0) (by omega) ht1 ht (fun τ1 a1 a2 a3 a4 a5 => ?_)
  have hp : ∀ j, j < t → τ1 3 j = nI (row0 A j) := by
    intro j hj
    unfold row0
    rw [if_pos (by omega), ← hm.rows j (by omega)]
    by_cases e : j = 0
    · rw [e]; exact a4
    · rw [a5 j (by omega) hj, show 5 * 0 + j = j by omega]
  refine k_lpI2 t (fun j k τ' => k = nI j ∧ (∀ a, a ≠ 1 → τ' a = τ1 a) ∧ (∀ q, q ≠ 88 → (q < 90 ∨ 95 ≤ q) → τ' 1 q = τ 1 q) ∧ τ' 1 88 = nI t ∧ (∀ i, i < j → τ' 1 (90 + i) = nI (4 ^ row0 A i % 47))) 0 (by omega) ⟨rfl, fun a h => put_cell h, fun q h1 h2 => by rw [put_slot h1, a1 1 (by decide) (by decide)], put_same, fun i h => absurd h (by omega)⟩ ?_
  rintro j hj k τ2 ⟨rfl, h1, h2, h3, h4⟩ B hB
  rcases Nat.lt_or_ge j t with hlt | hge
  · refine br_f (nI_ge hlt (by omega)) ⟨vp_in_nI (by omega) (by omega), ?_⟩
    rw [nI_clamp (by omega), h1 3 (by decide), hp j hlt, k_l90, nI_add, nI_clamp (by omega)]
    refine s_sealOf7 (Nat.lt_trans (row0_lt hi j) (by omega)) ⟨vp_in_nI (by omega) (by omega), hB hlt _ _ ⟨by rw [k_l1, nI_add], fun a ha => by rw [put_cell ha]; exact h1 a ha, fun q q1 q2 => by rw [put_slot (by omega)]; exact h2 q q1 q2, by rw [put_slot (by omega)]; exact h3, fun i hi2 => ?_⟩⟩
    rw [put_if]
    by_cases e : i = j
    · rw [if_pos (by omega), e]
    · rw [if_neg (by omega)]
      exact h4 i (by omega)
  · have e : j = t := by omega
    subst e
    refine br_t (nI_le (Nat.le_refl _) (by omega)) ?_
    refine k_lpI2 7 (fun i k τ' => k = nI (i + 1) ∧ (∀ a, a ≠ 1 → τ' a = τ1 a) ∧ (∀ q, (q < 41 ∨ 48 ≤ q) → τ' 1 q = τ2 1 q) ∧ (∀ m, 1 ≤ m → m ≤ i → τ' 1 (40 + m) = nI (pe (row0 A) j m))) 0 (by omega) ⟨rfl, h1, fun _ _ => rfl, fun m a b => absurd b (by omega)⟩ ?_
    rintro i hi7 k τ3 ⟨rfl, g1, g2, g3⟩ B2 hB2
    rcases Nat.lt_or_ge i 7 with hlt | hge
    · refine br_f (nI_nlt (a := 7) (b := i + 1) (by omega) (by omega)) ?_
      rw [k_l40, nI_add, nI_clamp (by omega)]
      refine s_polyAt7 (c := row0 A) (by rw [g1 0 (by decide)]; exact a3) (fun q hq => by rw [g1 3 (by decide)]; exact hp q hq) (row0_lt hi) (by omega) ht ⟨vp_in_nI (by omega) (by omega), hB2 hlt _ _ ⟨nI_add (i + 1) 1, fun a ha => by rw [put_cell ha]; exact g1 a ha, fun q hq => by rw [put_slot (by omega)]; exact g2 q hq, fun m a b => ?_⟩⟩
      rw [put_if]
      by_cases e : m = i + 1
      · rw [if_pos (by omega), e]
      · rw [if_neg (by omega)]
        exact g3 m a (by omega)
    · have hi2 : i = 7 := by omega
      subst hi2
      refine br_t (by decide) ?_
      have e89 : τ3 1 89 = if A 8 2 = 0 then -6 else nI (A 8 2 - 1) := by rw [g2 89 (by omega), h2 89 (by decide) (by omega)]; exact hm.ep
      have hfin : ∀ x : Int32, x = nI (A 8 2) - 1 → wp_X7_nextEpoch (k_put τ3 1 89 x) (fun σ_105 => Q 1 σ_105) := by
        intro x hx
        refine s_next (n := A 8 2) (t := nI j) (by rw [put_same, hx]) (by rw [put_slot (by decide), g2 88 (by omega)]; exact h3) hE (fun τ' b1 b2 b3 b4 => hq τ' ⟨?_, ?_, ?_, ?_⟩ (hm.nxt hi hE (fun q hq => ?_) (fun m a b => ?_) (fun q hq => ?_) (fun q hq => ?_) ?_ b3 ?_ ?_))
        · rw [b1 0 (by decide), put_cell (by decide), g1 0 (by decide), a2 2 (by decide)]
        · rw [b1 2 (by decide), put_cell (by decide), g1 2 (by decide), a1 2 (by decide) (by decide)]
        · rw [b1 6 (by decide), put_cell (by decide), g1 6 (by decide), a1 6 (by decide) (by decide)]
        · rw [b1 7 (by decide), put_cell (by decide), g1 7 (by decide), a1 7 (by decide) (by decide)]
        · rw [b2 q (by omega) (by omega), put_slot (by omega), g2 q (by omega), h2 q (by omega) (by omega)]
        · rw [b2 _ (by omega) (by omega), put_slot (by omega), g3 m a b, if_pos ((by decide +kernel : ∀ m, m < 8 → 1 ≤ m → (254 : Nat).testBit m = true) m (by omega) a)]
        · rw [b2 _ (by omega) (by omega), put_slot (by omega), g2 _ (by omega)]
          exact h4 q hq
        · rw [b4 q hq, put_slot (by omega), g2 _ (by omega), h2 _ (by omega) (by omega)]
        · rw [b2 88 (by omega) (by omega), put_slot (by omega), g2 88 (by omega)]
          exact h3
        · rw [b2 369 (by omega) (by omega), put_slot (by omega), g2 369 (by omega), h2 369 (by omega) (by omega)]
          exact hm.li
        · rw [b2 370 (by omega) (by omega), put_slot (by omega), g2 370 (by omega), h2 370 (by omega) (by omega)]
          exact hm.sk
      rw [kcl_89]
      refine s_isDealt7 e89 hi.e200 ?_
      by_cases h0 : A 8 2 = 0
      · rw [if_pos h0]
        exact b0 (hfin _ (by rw [h0]; decide))
      · rw [if_neg h0]
        refine b1 (hfin _ ?_)
        rw [e89, if_neg h0]
        exact (k_sub_n (b := 1) (by omega)).symm
