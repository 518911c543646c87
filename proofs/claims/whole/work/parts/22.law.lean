/-! the law: its own world (the class, the reference, the images), judgement k_L -/
theorem k_adr {ws : va_W} {n : Nat} {a : Nat → Nat} (h : ws.map (fun q => q.1) = (List.range n).map a) {k : Nat} {q : Nat × va_E} (hk : ws[k]? = some q) : k < n ∧ q.1 = a k := by
  have h1 : (ws.map (fun q => q.1))[k]? = some q.1 := by rw [List.getElem?_map, hk]; rfl
  rw [h, List.getElem?_map] at h1
  by_cases hn : k < n
  · rw [List.getElem?_range hn] at h1
    exact ⟨hn, (Option.some.inj h1).symm⟩
  · rw [List.getElem?_eq_none (by simp; omega)] at h1
    cases h1
theorem k_adr2 {ws : va_W} {n : Nat} {a : Nat → Nat} (h : ws.map (fun q => q.1) = (List.range n).map a) {k : Nat} (hk : k < n) : ∃ e, ws[k]? = some (a k, e) := by
  have h1 : ((List.range n).map a)[k]? = some (a k) := by rw [List.getElem?_map, List.getElem?_range hk]; rfl
  rw [← h, List.getElem?_map] at h1
  cases hw : ws[k]? with
  | none => rw [hw] at h1; cases h1
  | some z =>
    rw [hw] at h1
    have e : z.1 = a k := Option.some.inj h1
    exact ⟨z.2, by rw [← e]⟩
theorem k_adrD {A : Nat → Prop} {ws : va_W} {n : Nat} {a : Nat → Nat} (h : ws.map (fun q => q.1) = (List.range n).map a) (hi : ∀ i j, i < n → j < n → a i = a j → i = j) (hA : ∀ i, i < n → A (a i)) : va_D A ws :=
  ⟨fun i j x y hx hy hxy => hi i j (k_adr h hx).1 (k_adr h hy).1 ((k_adr h hx).2.symm.trans (hxy.trans (k_adr h hy).2)), fun k q hk => (k_adr h hk).2 ▸ hA k (k_adr h hk).1⟩
theorem wC_adr {a : Nat → Nat} {cI cO : ClassId} {gI : Nat → Option Nat} (σ : k_M) : (wC a cI cO gI σ).map (fun q => q.1) = (List.range 19).map a := rfl
theorem wM_adr {a : Nat → Nat} {cI cZ : ClassId} (σ : k_M) : (wM a cI cZ σ).map (fun q => q.1) = (List.range 8).map a := rfl
theorem w1_adr {a : Nat → Nat} {cI : ClassId} (σ : k_M) : (w1 a cI σ).map (fun q => q.1) = (List.range 10).map a := rfl
theorem k_wA_adr {wd : k_M → va_W} {n : Nat} {a : Nat → Nat} (h : ∀ σ, (wd σ).map (fun q => q.1) = (List.range n).map a) {q : Nat} (hq : k_wA wd q) : ∃ i, i < n ∧ q = a i := by
  obtain ⟨σ, k, e, hk⟩ := hq
  exact ⟨k, k_adr (h σ) hk⟩
theorem va_A_adr {ws : va_W} {n : Nat} {a : Nat → Nat} (h : ws.map (fun q => q.1) = (List.range n).map a) {q sz : Nat} (hq : va_A ws sz q) : (∃ i, i < n ∧ q = a i) ∨ sz ≤ q := by
  rcases hq with ⟨k, e, hk⟩ | hq
  · exact Or.inl ⟨k, k_adr h hk⟩
  · exact Or.inr hq
/-- the addresses: apart -/
def k_LA (A0 : Nat → Prop) (a : Nat → Nat) (b : Nat → Nat → Nat) (c : Nat → Nat) (gI : Nat → Option Nat) : Prop :=
  (∀ i j, i < 19 → j < 19 → a i = a j → i = j) ∧ (∀ i, i < 19 → A0 (a i)) ∧ (∀ i j, i < 8 → j < 8 → c i = c j → i = j) ∧ (∀ i, i < 8 → A0 (c i)) ∧ (∀ i j, i < 19 → j < 8 → a i ≠ c j) ∧
  (∀ k, k < 2 → gI k ≠ none → (∀ i j, i < 10 → j < 10 → b k i = b k j → i = j) ∧ (∀ i, i < 10 → A0 (b k i)) ∧ (∀ i j, i < 19 → j < 10 → a i ≠ b k j) ∧ (∀ i j, i < 8 → j < 10 → c i ≠ b k j)) ∧
  (∀ k k', k < 2 → k' < 2 → k ≠ k' → gI k ≠ none → gI k' ≠ none → ∀ i j, i < 10 → j < 10 → b k i ≠ b k' j)
def k_LW (D : va_G) (cI cO cZ : ClassId) (a : Nat → Nat) (b : Nat → Nat → Nat) (c : Nat → Nat) (gI : Nat → Option Nat) (σ : k_M) (ρ : Nat → k_M) (τ : k_M) (H : Heap) : Prop :=
  va_P D vwCl (wC a cI cO gI σ) H ∧ va_P D vwCl (wM c cI cZ τ) H ∧ ∀ k, k < 2 → ∀ q, gI k = some q → q = b k 0 ∧ va_P D vwCl (w1 (b k) cI (ρ k)) H
theorem k_ne {o : Option Nat} {q : Nat} (h : o = some q) : o ≠ none := fun z => by rw [h] at z; cases z
section KLF
variable {D : va_G} {cI cO cZ : ClassId} {A0 : Nat → Prop} {a : Nat → Nat} {b : Nat → Nat → Nat} {c : Nat → Nat} {gI : Nat → Option Nat} {σ τ : k_M} {ρ : Nat → k_M} {H H1 : Heap}
theorem k_keep {ws : va_W} {n : Nat} {x : Nat → Nat} (hx : ws.map (fun q => q.1) = (List.range n).map x) (hP : va_P D vwCl ws H) (hk : ∀ q, q < H.size → (∃ i, i < n ∧ q = x i) → H1[q]? = H[q]?) : va_P D vwCl ws H1 :=
  hP.kept (fun k q h => hk q.1 ((hP k q h).lt) ⟨k, k_adr hx h⟩)
theorem k_LW.setC (hA : k_LA A0 a b c gI) (h : k_LW D cI cO cZ a b c gI σ ρ τ H) {σ' : k_M} (h1 : va_P D vwCl (wC a cI cO gI σ') H1) (hk : ∀ q, q < H.size → ¬ (∃ i, i < 19 ∧ q = a i) → H1[q]? = H[q]?) : k_LW D cI cO cZ a b c gI σ' ρ τ H1 := by
  refine ⟨h1, k_keep (wM_adr τ) h.2.1 (fun q hq hc => hk q hq ?_), fun k hk2 q hq => ⟨(h.2.2 k hk2 q hq).1, k_keep (w1_adr _) (h.2.2 k hk2 q hq).2 (fun z hz hc => hk z hz ?_)⟩⟩
  · rintro ⟨i, hi, e⟩
    obtain ⟨j, hj, e2⟩ := hc
    exact hA.2.2.2.2.1 i j hi hj (e.symm.trans e2)
  · rintro ⟨i, hi, e⟩
    obtain ⟨j, hj, e2⟩ := hc
    exact (hA.2.2.2.2.2.1 k hk2 (k_ne hq)).2.2.1 i j hi hj (e.symm.trans e2)
theorem k_LW.setM (hA : k_LA A0 a b c gI) (h : k_LW D cI cO cZ a b c gI σ ρ τ H) {τ' : k_M} (h1 : va_P D vwCl (wM c cI cZ τ') H1) (hk : ∀ q, q < H.size → ¬ (∃ i, i < 8 ∧ q = c i) → H1[q]? = H[q]?) : k_LW D cI cO cZ a b c gI σ ρ τ' H1 := by
  refine ⟨k_keep (wC_adr σ) h.1 (fun q hq hc => hk q hq ?_), h1, fun k hk2 q hq => ⟨(h.2.2 k hk2 q hq).1, k_keep (w1_adr _) (h.2.2 k hk2 q hq).2 (fun z hz hc => hk z hz ?_)⟩⟩
  · rintro ⟨i, hi, e⟩
    obtain ⟨j, hj, e2⟩ := hc
    exact hA.2.2.2.2.1 j i hj hi (e2.symm.trans e)
  · rintro ⟨i, hi, e⟩
    obtain ⟨j, hj, e2⟩ := hc
    exact (hA.2.2.2.2.2.1 k hk2 (k_ne hq)).2.2.2 i j hi hj (e.symm.trans e2)
theorem k_va_P_app {w1 w2 : va_W} (h : va_P D vwCl (w1 ++ w2) H) : va_P D vwCl w1 H ∧ va_P D vwCl w2 H :=
  ⟨fun k q hk => h k q (by rw [List.getElem?_append_left (List.getElem?_eq_some_iff.mp hk).1]; exact hk), fun k q hk => h (w1.length + k) q (by rw [List.getElem?_append_right (by omega)]; simpa using hk)⟩
/-- the class and the circle k change together -/
theorem k_LW.setI (hA : k_LA A0 a b c gI) (h : k_LW D cI cO cZ a b c gI σ ρ τ H) {k : Nat} (hk0 : k < 2) (hg : gI k = some (b k 0)) {σ' ρ' : k_M} (h1 : va_P D vwCl (wI a cI cO gI (b k) σ' ρ') H1) (hk : ∀ q, q < H.size → ¬ va_A (wI a cI cO gI (b k) σ (ρ k)) H.size q → H1[q]? = H[q]?) : k_LW D cI cO cZ a b c gI σ' (va_up ρ k ρ') τ H1 := by
  obtain ⟨h1a, h1b⟩ := k_va_P_app h1
  have hin : ∀ q, q < H.size → va_A (wI a cI cO gI (b k) σ (ρ k)) H.size q → (∃ i, i < 19 ∧ q = a i) ∨ ∃ i, i < 10 ∧ q = b k i := by
    intro q hq hz
    rcases hz with ⟨j, e, hj⟩ | hz
    · by_cases hl : j < (wC a cI cO gI σ).length
      · unfold wI at hj
        rw [List.getElem?_append_left hl] at hj
        exact Or.inl ⟨j, k_adr (wC_adr σ) hj⟩
      · unfold wI at hj
        rw [List.getElem?_append_right (by omega)] at hj
        exact Or.inr ⟨_, k_adr (w1_adr (ρ k)) hj⟩
    · omega
  refine ⟨h1a, k_keep (wM_adr τ) h.2.1 (fun q hq hc => hk q hq (fun z => ?_)), fun k2 hk2 q hq => ⟨(h.2.2 k2 hk2 q hq).1, ?_⟩⟩
  · obtain ⟨j, hj, e2⟩ := hc
    rcases hin q hq z with ⟨i, hi, e⟩ | ⟨i, hi, e⟩
    · exact hA.2.2.2.2.1 i j hi hj (e.symm.trans e2)
    · exact (hA.2.2.2.2.2.1 k hk0 (k_ne hg)).2.2.2 j i hj hi (e2.symm.trans e)
  · by_cases hkk : k2 = k
    · subst hkk
      rw [va_up_self]
      exact h1b
    · rw [va_up_ne _ _ hkk]
      refine k_keep (w1_adr _) (h.2.2 k2 hk2 q hq).2 (fun z hz hc => hk z hz (fun y => ?_))
      obtain ⟨j, hj, e2⟩ := hc
      rcases hin z hz y with ⟨i, hi, e⟩ | ⟨i, hi, e⟩
      · exact (hA.2.2.2.2.2.1 k2 hk2 (k_ne hq)).2.2.1 i j hi hj (e.symm.trans e2)
      · exact hA.2.2.2.2.2.2 k k2 hk0 hk2 (Ne.symm hkk) (k_ne hg) (k_ne hq) i j hi hj (e.symm.trans e2)
/-- a circle k comes -/
theorem k_LW.newI (hA : k_LA A0 a b c gI) (hA0 : ∀ q, H.size ≤ q → A0 q) (h : k_LW D cI cO cZ a b c gI σ ρ τ H) {k : Nat} (hk0 : k < 2) (hg : gI k = none) {b' : Nat → Nat} {σ' ρ' : k_M} (h1 : va_P D vwCl (wI a cI cO (va_up gI k (some (b' 0))) b' σ' ρ') H1) (h2 : va_D (va_A (wC a cI cO gI σ) H.size) (wI a cI cO (va_up gI k (some (b' 0))) b' σ' ρ')) (hk : ∀ q, q < H.size → ¬ va_A (wC a cI cO gI σ) H.size q → H1[q]? = H[q]?) : k_LA A0 a (va_up b k b') c (va_up gI k (some (b' 0))) ∧ k_LW D cI cO cZ a (va_up b k b') c (va_up gI k (some (b' 0))) σ' (va_up ρ k ρ') τ H1 := by
  obtain ⟨h1a, h1b⟩ := k_va_P_app h1
  have hb : ∀ i, i < 10 → ∃ e, (wI a cI cO (va_up gI k (some (b' 0))) b' σ' ρ')[19 + i]? = some (b' i, e) := by
    intro i hi
    obtain ⟨e, he⟩ := k_adr2 (w1_adr (a := b') (cI := cI) ρ') hi
    refine ⟨e, ?_⟩
    unfold wI
    rw [List.getElem?_append_right (show (wC a cI cO (va_up gI k (some (b' 0))) σ').length ≤ 19 + i by show 19 ≤ 19 + i; omega)]
    show (w1 b' cI ρ')[19 + i - 19]? = _
    rw [show 19 + i - 19 = i by omega]
    exact he
  have ha : ∀ i, i < 19 → ∃ e, (wI a cI cO (va_up gI k (some (b' 0))) b' σ' ρ')[i]? = some (a i, e) := by
    intro i hi
    obtain ⟨e, he⟩ := k_adr2 (wC_adr (a := a) (cI := cI) (cO := cO) (gI := va_up gI k (some (b' 0))) σ') hi
    refine ⟨e, ?_⟩
    unfold wI
    rw [List.getElem?_append_left (show i < (wC a cI cO (va_up gI k (some (b' 0))) σ').length from hi)]
    exact he
  have hab : ∀ i j, i < 19 → j < 10 → a i ≠ b' j := by
    intro i j hi hj e
    obtain ⟨e1, q1⟩ := ha i hi
    obtain ⟨e2, q2⟩ := hb j hj
    have := h2.1 i (19 + j) _ _ q1 q2 e
    omega
  have hnew : ∀ j, j < 10 → H.size ≤ b' j := by
    intro j hj
    obtain ⟨e2, q2⟩ := hb j hj
    rcases va_A_adr (wC_adr σ) (h2.2 _ _ q2) with ⟨i, hi, e⟩ | h3
    · exact absurd e.symm (hab i j hi hj)
    · exact h3
  have hinj : ∀ i j, i < 10 → j < 10 → b' i = b' j → i = j := by
    intro i j hi hj e
    obtain ⟨e1, q1⟩ := hb i hi
    obtain ⟨e2, q2⟩ := hb j hj
    have := h2.1 (19 + i) (19 + j) _ _ q1 q2 e
    omega
  have hcl : ∀ j, j < 8 → c j < H.size := by
    intro j hj
    obtain ⟨e, he⟩ := k_adr2 (wM_adr (a := c) (cI := cI) (cZ := cZ) τ) hj
    exact (h.2.1 _ _ he).lt
  have hbl : ∀ k2, k2 < 2 → gI k2 ≠ none → ∀ j, j < 10 → b k2 j < H.size := by
    intro k2 hk2 hn j hj
    cases hq : gI k2 with
    | none => exact absurd hq hn
    | some q =>
      obtain ⟨e, he⟩ := k_adr2 (w1_adr (a := b k2) (cI := cI) (ρ k2)) hj
      exact ((h.2.2 k2 hk2 q hq).2 _ _ he).lt
  have hgo : ∀ k2, k2 ≠ k → va_up gI k (some (b' 0)) k2 = gI k2 := fun k2 h => va_up_ne _ _ h
  have hbo : ∀ k2, k2 ≠ k → va_up b k b' k2 = b k2 := fun k2 h => va_up_ne _ _ h
  refine ⟨⟨hA.1, hA.2.1, hA.2.2.1, hA.2.2.2.1, hA.2.2.2.2.1, fun k2 hk2 hn => ?_, fun k2 k3 hk2 hk3 hne hn2 hn3 i j hi hj => ?_⟩, h1a, k_keep (wM_adr τ) h.2.1 (fun q hq hc => hk q hq (fun z => ?_)), fun k2 hk2 q hq => ?_⟩
  · by_cases hkk : k2 = k
    · subst hkk
      rw [va_up_self]
      exact ⟨hinj, fun i hi => hA0 _ (hnew i hi), hab, fun i j hi hj e => by
        have h3 := hcl i hi
        have h4 := hnew j hj
        omega⟩
    · rw [hgo k2 hkk] at hn
      rw [hbo k2 hkk]
      exact hA.2.2.2.2.2.1 k2 hk2 hn
  · by_cases h2k : k2 = k
    · subst h2k
      have h3k : k3 ≠ k2 := Ne.symm hne
      rw [va_up_self, hbo k3 h3k]
      rw [hgo k3 h3k] at hn3
      intro e
      have h3 := hbl k3 hk3 hn3 j hj
      have h4 := hnew i hi
      omega
    · rw [hbo k2 h2k]
      rw [hgo k2 h2k] at hn2
      by_cases h3k : k3 = k
      · subst h3k
        rw [va_up_self]
        intro e
        have h3 := hbl k2 hk2 hn2 i hi
        have h4 := hnew j hj
        omega
      · rw [hbo k3 h3k]
        rw [hgo k3 h3k] at hn3
        exact hA.2.2.2.2.2.2 k2 k3 hk2 hk3 hne hn2 hn3 i j hi hj
  · obtain ⟨j, hj, e2⟩ := hc
    rcases va_A_adr (wC_adr σ) z with ⟨i, hi, e⟩ | h3
    · exact hA.2.2.2.2.1 i j hi hj (e.symm.trans e2)
    · omega
  · by_cases hkk : k2 = k
    · subst hkk
      rw [va_up_self] at hq
      rw [va_up_self, va_up_self]
      exact ⟨(Option.some.inj hq).symm, h1b⟩
    · rw [hgo k2 hkk] at hq
      rw [hbo k2 hkk, va_up_ne _ _ hkk]
      refine ⟨(h.2.2 k2 hk2 q hq).1, k_keep (w1_adr _) (h.2.2 k2 hk2 q hq).2 (fun z hz hc => hk z hz (fun y => ?_))⟩
      obtain ⟨j, hj, e2⟩ := hc
      rcases va_A_adr (wC_adr σ) y with ⟨i, hi, e⟩ | h3
      · exact (hA.2.2.2.2.2.1 k2 hk2 (k_ne hq)).2.2.1 i j hi hj (e.symm.trans e2)
      · omega
end KLF
/-- the law's judgement -/
def k_L (Γ : k_C) (R : Room) (cI cO cZ : ClassId) (cs sl : Nat) (pc : Nat) (lv : List (Nat × Value)) (st : List Value) (a : Nat → Nat) (b : Nat → Nat → Nat) (c : Nat → Nat) (gI : Nat → Option Nat) (σ : k_M) (ρ : Nat → k_M) (τ : k_M) : Prop :=
  ∀ (H : Heap) (locs : List Loc) (ls : Array Slot), k_LA (fun q => (k_s Γ).heap.size ≤ q) a b c gI → k_LW (k_D Γ) cI cO cZ a b c gI σ ρ τ H → va_S (fun q => (k_s Γ).heap.size ≤ q) (k_s Γ).heap H locs → lv_has ls 4 lv → W (k_p Γ) (k_l Γ) (k_e Γ) R (k_s Γ) (k_m Γ) (k_ar Γ) (k_be Γ) (k_me Γ) (k_c Γ) H locs cs sl (k_Q Γ) (F0 (k_m Γ) pc ls st)
section KL
variable {Γ : k_C} {R : Room} {cI cO cZ : ClassId} {cs sl : Nat} {pc : Nat} {lv : List (Nat × Value)} {st : List Value} {a : Nat → Nat} {b : Nat → Nat → Nat} {c : Nat → Nat} {gI : Nat → Option Nat} {σ τ : k_M} {ρ : Nat → k_M} {own : String} {cc : ByteArray} {Ts : List Cond} {tys : List (ClassId × FieldType)}
theorem l_iconst (G : k_G Γ 4 own cc Ts tys) {n : Int} (v : Int32) (d : decode cc pc = .ok (.iconst n, 1)) (hv : Int32.ofInt n = v) (k : k_L Γ R cI cO cZ cs sl (pc + 1) lv (.int v :: st) a b c gI σ ρ τ) : k_L Γ R cI cO cZ cs sl pc lv st a b c gI σ ρ τ := fun H locs ls hA hW hS hl => lv_iconst G.1 G.2.1 d hv (k H locs ls hA hW hS hl)
theorem l_bipush (G : k_G Γ 4 own cc Ts tys) {n : Int} (v : Int32) (d : decode cc pc = .ok (.bipush n, 2)) (hv : (Int8.ofInt n).toInt32 = v) (k : k_L Γ R cI cO cZ cs sl (pc + 2) lv (.int v :: st) a b c gI σ ρ τ) : k_L Γ R cI cO cZ cs sl pc lv st a b c gI σ ρ τ := fun H locs ls hA hW hS hl => lv_bipush G.1 G.2.1 d hv (k H locs ls hA hW hS hl)
theorem l_iload_n (G : k_G Γ 4 own cc Ts tys) {n : Fin 4} {i : Nat} {x : Int32} (d : decode cc pc = .ok (.iload_n n, 1)) (j : Nat) (hi : (n : Nat) = i) (hj : lv[j]? = some (i, .int x)) (k : k_L Γ R cI cO cZ cs sl (pc + 1) lv (.int x :: st) a b c gI σ ρ τ) : k_L Γ R cI cO cZ cs sl pc lv st a b c gI σ ρ τ := fun H locs ls hA hW hS hl => lv_iload_n G.1 G.2.1 d hi (lv_at hl j hj) (k H locs ls hA hW hS hl)
theorem l_aload_n (G : k_G Γ 4 own cc Ts tys) {n : Fin 4} {i : Nat} {x : Nat} (d : decode cc pc = .ok (.aload_n n, 1)) (j : Nat) (hi : (n : Nat) = i) (hj : lv[j]? = some (i, .ref x)) (k : k_L Γ R cI cO cZ cs sl (pc + 1) lv (.ref x :: st) a b c gI σ ρ τ) : k_L Γ R cI cO cZ cs sl pc lv st a b c gI σ ρ τ := fun H locs ls hA hW hS hl => lv_aload_n G.1 G.2.1 d hi (lv_at hl j hj) (k H locs ls hA hW hS hl)
theorem l_iadd (G : k_G Γ 4 own cc Ts tys) {x y : Int32} (d : decode cc pc = .ok (.iadd, 1)) (k : k_L Γ R cI cO cZ cs sl (pc + 1) lv (.int (x + y) :: st) a b c gI σ ρ τ) : k_L Γ R cI cO cZ cs sl pc lv (.int y :: .int x :: st) a b c gI σ ρ τ := fun H locs ls hA hW hS hl => lv_iadd G.1 G.2.1 d (k H locs ls hA hW hS hl)
theorem l_isub (G : k_G Γ 4 own cc Ts tys) {x y : Int32} (d : decode cc pc = .ok (.isub, 1)) (k : k_L Γ R cI cO cZ cs sl (pc + 1) lv (.int (x - y) :: st) a b c gI σ ρ τ) : k_L Γ R cI cO cZ cs sl pc lv (.int y :: .int x :: st) a b c gI σ ρ τ := fun H locs ls hA hW hS hl => lv_isub G.1 G.2.1 d (k H locs ls hA hW hS hl)
theorem l_iand (G : k_G Γ 4 own cc Ts tys) {x y : Int32} (d : decode cc pc = .ok (.iand, 1)) (k : k_L Γ R cI cO cZ cs sl (pc + 1) lv (.int (x &&& y) :: st) a b c gI σ ρ τ) : k_L Γ R cI cO cZ cs sl pc lv (.int y :: .int x :: st) a b c gI σ ρ τ := fun H locs ls hA hW hS hl => lv_iand G.1 G.2.1 d (k H locs ls hA hW hS hl)
theorem l_goto (G : k_G Γ 4 own cc Ts tys) {off : Int} (tgt : Nat) (d : decode cc pc = .ok (.goto off, 3)) (ht : (pc : Int) + off = (tgt : Int)) (k : k_L Γ R cI cO cZ cs sl tgt lv st a b c gI σ ρ τ) : k_L Γ R cI cO cZ cs sl pc lv st a b c gI σ ρ τ := fun H locs ls hA hW hS hl => lv_goto G.1 G.2.1 d ht (k H locs ls hA hW hS hl)
theorem l_iinc (G : k_G Γ 4 own cc Ts tys) {i : Nat} {n : Int} {x w : Int32} {lv' : List (Nat × Value)} (j : Nat) (d : decode cc pc = .ok (.iinc i n, 3)) (hw : Int32.ofInt n = w) (hj : lv[j]? = some (i, .int x)) (hn : i < 4) (hv : (i, Value.int (x + w)) :: lv.filter (fun q => !(q.1 == i) && !(q.1 + 1 == i && q.2.category == 2)) = lv') (k : k_L Γ R cI cO cZ cs sl (pc + 3) lv' st a b c gI σ ρ τ) : k_L Γ R cI cO cZ cs sl pc lv st a b c gI σ ρ τ := fun H locs ls hA hW hS hl => lv_iinc G.1 G.2.1 d hl hj (by rw [hw]) hn hv (fun ls hl => k H locs ls hA hW hS hl)
theorem l_icmp_eq_t (G : k_G Γ 4 own cc Ts tys) {x y : Int32} {off : Int} (tgt : Nat) (d : decode cc pc = .ok (.if_icmp .eq off, 3)) (ht : (pc : Int) + off = (tgt : Int)) (hc : x = y) (k : k_L Γ R cI cO cZ cs sl tgt lv st a b c gI σ ρ τ) : k_L Γ R cI cO cZ cs sl pc lv (.int y :: .int x :: st) a b c gI σ ρ τ := fun H locs ls hA hW hS hl => lv_icmp_eq G.1 G.2.1 d ht (fun _ => k H locs ls hA hW hS hl) (fun h => absurd hc h)
theorem l_icmp_gt (G : k_G Γ 4 own cc Ts tys) {x y : Int32} {off : Int} (tgt : Nat) (d : decode cc pc = .ok (.if_icmp .gt off, 3)) (ht : (pc : Int) + off = (tgt : Int)) (kt : y < x → k_L Γ R cI cO cZ cs sl tgt lv st a b c gI σ ρ τ) (kf : ¬ y < x → k_L Γ R cI cO cZ cs sl (pc + 3) lv st a b c gI σ ρ τ) : k_L Γ R cI cO cZ cs sl pc lv (.int y :: .int x :: st) a b c gI σ ρ τ := fun H locs ls hA hW hS hl => lv_icmp_gt G.1 G.2.1 d ht (fun h => kt h H locs ls hA hW hS hl) (fun h => kf h H locs ls hA hW hS hl)
theorem l_widen {cs' sl' : Nat} (h1 : cs ≤ cs') (h2 : sl ≤ sl') (k : k_L Γ R cI cO cZ cs' sl' pc lv st a b c gI σ ρ τ) : k_L Γ R cI cO cZ cs sl pc lv st a b c gI σ ρ τ := fun H locs ls hA hW hS hl => W.widen h1 h2 (k H locs ls hA hW hS hl)
theorem l_sub {lv' : List (Nat × Value)} (ks : List Nat) (hk : lv_pick lv' ks = lv) (k : k_L Γ R cI cO cZ cs sl pc lv st a b c gI σ ρ τ) : k_L Γ R cI cO cZ cs sl pc lv' st a b c gI σ ρ τ := fun H locs ls hA hW hS hl => k H locs ls hA hW hS (lv_sub hl ks hk)
theorem l_tableOut (G : k_G Γ 4 own cc Ts tys) {dflt lo hi : Int} {offs : Array Int} {len : Nat} {x : Int32} (tgt : Nat) (d : decode cc pc = .ok (.tableswitch dflt lo hi offs, len)) (h : x.toInt < lo ∨ hi < x.toInt) (ht : (pc : Int) + dflt = (tgt : Int)) (k : k_L Γ R cI cO cZ cs sl tgt lv st a b c gI σ ρ τ) : k_L Γ R cI cO cZ cs sl pc lv (.int x :: st) a b c gI σ ρ τ := fun H locs ls hA hW hS hl => lv_tableOut G.1 G.2.1 d h ht (k H locs ls hA hW hS hl)
theorem l_tableIn (G : k_G Γ 4 own cc Ts tys) {dflt lo hi : Int} {offs : Array Int} {len : Nat} {x : Int32} {off : Int} (tgt : Nat) (d : decode cc pc = .ok (.tableswitch dflt lo hi offs, len)) (z : Int) (hz : x.toInt = z) (h1 : ¬ z < lo) (h2 : ¬ hi < z) (ho : offs[(z - lo).toNat]? = some off) (ht : (pc : Int) + off = (tgt : Int)) (k : k_L Γ R cI cO cZ cs sl tgt lv st a b c gI σ ρ τ) : k_L Γ R cI cO cZ cs sl pc lv (.int x :: st) a b c gI σ ρ τ := fun H locs ls hA hW hS hl => lv_tableIn G.1 G.2.1 d (by rw [hz]; exact h1) (by rw [hz]; exact h2) (by rw [hz]; exact ho) ht (k H locs ls hA hW hS hl)
theorem l_sld (G : k_G Γ 4 own cc Ts tys) {bb L : Nat} {xs : Nat → Int32} (hX : va_X bb L xs (k_s Γ) (k_s Γ).heap) (hbl : bb < (k_s Γ).heap.size) {i : Int32} (hin : vp_in i L) (d : decode cc pc = .ok (.iaload, 1)) (k : k_L Γ R cI cO cZ cs sl (pc + 1) lv (.int (xs i.toNatClampNeg) :: st) a b c gI σ ρ τ) : k_L Γ R cI cO cZ cs sl pc lv (.int i :: .ref bb :: st) a b c gI σ ρ τ := fun H locs ls hA hW hS hl => va_sld G.1 G.2.1 hX hbl (Nat.not_le.mpr hbl) hS hin d (k H locs ls hA hW hS hl)
theorem l_slen (G : k_G Γ 4 own cc Ts tys) {bb L : Nat} {xs : Nat → Int32} (hX : va_X bb L xs (k_s Γ) (k_s Γ).heap) (hbl : bb < (k_s Γ).heap.size) (d : decode cc pc = .ok (.arraylength, 1)) (k : k_L Γ R cI cO cZ cs sl (pc + 1) lv (.int (Int32.ofNat L) :: st) a b c gI σ ρ τ) : k_L Γ R cI cO cZ cs sl pc lv (.ref bb :: st) a b c gI σ ρ τ := fun H locs ls hA hW hS hl => va_slen G.1 G.2.1 hX hbl (Nat.not_le.mpr hbl) hS d (k H locs ls hA hW hS hl)
/-- a reader -/
theorem l_cR (G : k_G Γ 4 own cc Ts tys) {y : MethodName} {bytes : ByteArray} {maxL n index : Nat} {ret : Option FieldType} {wsy : List Cond} {rm : Room} {wd : k_M → va_W} {σ' : k_M} {tys' : List (ClassId × FieldType)} {Q' : Int32 → Prop} {b0 ci : Nat} {fs : List Value} {cq : vw_C} (As rest : List Value)
    (hM : Met (k_l Γ) y wsy rm (k_PR (k_D Γ) tys' wd σ' (.ref b0 :: As)) (vp_Si Q') 0 0 (fun _ => False)) (q0 : Nat) (hc : vwCl[ci]? = some cq) (he : (wd σ')[q0]? = some (b0, .inr (ci, fs))) (cw : CallW R (k_s Γ) (k_ar Γ) own cq.1 index y bytes maxL ret wsy rm 0 0 n) (ts : List Nat) (hts : ts.filterMap (fun i => tys[i]?) = tys') (hsub : ∀ H, k_LW (k_D Γ) cI cO cZ a b c gI σ ρ τ H → va_P (k_D Γ) vwCl (wd σ') H)
    (hn : As.length = n) (hst : st = As.reverse ++ .ref b0 :: rest) (hrm : (rest.map fun v => v.category).sum ≤ 8) (hf : cs + 0 ≤ R.cells ∧ sl + 0 ≤ R.slots) (d : decode cc pc = .ok (.invokevirtual index, 3)) (k : ∀ r, Q' r → k_L Γ R cI cO cZ cs sl (pc + 3) lv (.int r :: rest) a b c gI σ ρ τ) : k_L Γ R cI cO cZ cs sl pc lv st a b c gI σ ρ τ :=
  fun H locs ls hA hW hS hl => vp_callSi (W.runV (p := k_p Γ) (e := k_e Γ) (below := k_be Γ) (meth := k_me Γ) ⟨G.1, G.2.1, G.2.2.1, G.2.2.2.1, G.2.2.2.2.1⟩ hM cw ⟨k_PR_blind, va_recv G.2.2.2.2.2.1 (hsub H hW) hc he, (k_PR_S G ts hts (hsub H hW)).2⟩ rfl hn hl.1 hst (lv_room (rest := st) hrm) d hf) (fun r hq => k r hq H locs ls hA hW hS hl)
/-- a writer of the class -/
theorem l_cC (G : k_G Γ 4 own cc Ts tys) {y : MethodName} {bytes : ByteArray} {maxL n index : Nat} {ret : Option FieldType} {wsy : List Cond} {rm : Room} {tys' : List (ClassId × FieldType)} {Q' : Int32 → k_M → Prop} (As rest : List Value)
    (hM : Met (k_l Γ) y wsy rm (k_PW (k_D Γ) tys' (wC a cI cO gI) σ (.ref (a 0) :: As)) (k_Qi (k_D Γ) (wC a cI cO gI) Q') 0 0 (k_wA (wC a cI cO gI))) (cw : CallW R (k_s Γ) (k_ar Γ) own RX6 index y bytes maxL ret wsy rm 0 0 n) (ts : List Nat) (hts : ts.filterMap (fun i => tys[i]?) = tys')
    (hn : As.length = n) (hst : st = As.reverse ++ .ref (a 0) :: rest) (hrm : (rest.map fun v => v.category).sum ≤ 8) (hf : cs + 0 ≤ R.cells ∧ sl + 0 ≤ R.slots) (d : decode cc pc = .ok (.invokevirtual index, 3)) (k : ∀ r σ', Q' r σ' → k_L Γ R cI cO cZ cs sl (pc + 3) lv (.int r :: rest) a b c gI σ' ρ τ) : k_L Γ R cI cO cZ cs sl pc lv st a b c gI σ ρ τ := by
  intro H locs ls hA hW hS hl
  have hD0 : ∀ σ', va_D (k_wA (wC a cI cO gI)) (wC a cI cO gI σ') := fun σ' => ⟨(k_adrD (A := fun _ => True) (wC_adr σ') hA.1 (fun _ _ => trivial)).1, fun k q h => ⟨σ', k, q.2, h⟩⟩
  have hrun := W.runV (As := As) (rest := rest) (p := k_p Γ) (e := k_e Γ) (below := k_be Γ) (meth := k_me Γ) (H := H) (locs := locs) (cells := cs) (slots := sl) (g := F0 (k_m Γ) pc ls st) ⟨G.1, G.2.1, G.2.2.1, G.2.2.2.1, G.2.2.2.2.1⟩ hM cw ⟨k_PW_blind, va_recv (q := (RX6, TX6, 4)) G.2.2.2.2.2.1 hW.1 (ci := 4) rfl wC_0, (k_PW_S G hD0 ts hts hW.1).2⟩ rfl hn hl.1 hst (lv_room (rest := st) hrm) d hf
  intro T hT X1
  obtain ⟨v, st₀, t, T', L, h0', X', hL, e1, ⟨r, σ', hv, hq, hp, hz, hk⟩, hs⟩ := hrun T hT X1
  cases hv
  rw [h0'] at hz hk
  have hk2 : ∀ q : Nat, q < H.size → ¬ (∃ i, i < 19 ∧ q = a i) → T'.heap[q]? = H[q]? := fun q h1 h2 => by rw [e1]; exact hk q h1 (fun z => h2 (k_wA_adr wC_adr z))
  have hin : ∀ q, k_wA (wC a cI cO gI) q → (k_s Γ).heap.size ≤ q := fun q h => by
    obtain ⟨i, hi, rfl⟩ := k_wA_adr wC_adr h
    exact hA.2.1 i hi
  obtain ⟨t2, a1, b1⟩ := k r σ' hq T'.heap (locs ++ L) ls hA (hW.setC hA (by rw [e1]; exact hp) hk2) ⟨Nat.le_trans hS.1 (by rw [e1]; exact hz), fun q h1 h2 => by rw [e1, hk q (Nat.lt_of_lt_of_le h1 hS.1) (fun z => h2 (hin q z))]; exact hS.2.1 q h1 h2, fun q hq => (List.mem_append.mp hq).elim (hS.2.2 q) (fun h => hin _ (hL q h))⟩ hl T' rfl X'
  exact ⟨t2, hs t2 a1, b1⟩
/-- a writer of the reference -/
theorem l_cM (G : k_G Γ 4 own cc Ts tys) {y : MethodName} {bytes : ByteArray} {maxL n index : Nat} {ret : Option FieldType} {wsy : List Cond} {rm : Room} {tys' : List (ClassId × FieldType)} {Q' : Int32 → k_M → Prop} (As rest : List Value)
    (hM : Met (k_l Γ) y wsy rm (k_PW (k_D Γ) tys' (wM c cI cZ) τ (.ref (c 0) :: As)) (k_Qi (k_D Γ) (wM c cI cZ) Q') 0 0 (k_wA (wM c cI cZ))) (cw : CallW R (k_s Γ) (k_ar Γ) own RX7 index y bytes maxL ret wsy rm 0 0 n) (ts : List Nat) (hts : ts.filterMap (fun i => tys[i]?) = tys')
    (hn : As.length = n) (hst : st = As.reverse ++ .ref (c 0) :: rest) (hrm : (rest.map fun v => v.category).sum ≤ 8) (hf : cs + 0 ≤ R.cells ∧ sl + 0 ≤ R.slots) (d : decode cc pc = .ok (.invokevirtual index, 3)) (k : ∀ r τ', Q' r τ' → k_L Γ R cI cO cZ cs sl (pc + 3) lv (.int r :: rest) a b c gI σ ρ τ') : k_L Γ R cI cO cZ cs sl pc lv st a b c gI σ ρ τ := by
  intro H locs ls hA hW hS hl
  have hD0 : ∀ σ', va_D (k_wA (wM c cI cZ)) (wM c cI cZ σ') := fun σ' => ⟨(k_adrD (A := fun _ => True) (wM_adr σ') hA.2.2.1 (fun _ _ => trivial)).1, fun k q h => ⟨σ', k, q.2, h⟩⟩
  have hrun := W.runV (As := As) (rest := rest) (p := k_p Γ) (e := k_e Γ) (below := k_be Γ) (meth := k_me Γ) (H := H) (locs := locs) (cells := cs) (slots := sl) (g := F0 (k_m Γ) pc ls st) ⟨G.1, G.2.1, G.2.2.1, G.2.2.2.1, G.2.2.2.2.1⟩ hM cw ⟨k_PW_blind, va_recv (q := (RX7, TX7, 9)) G.2.2.2.2.2.1 hW.2.1 (ci := 5) rfl wM_0, (k_PW_S G hD0 ts hts hW.2.1).2⟩ rfl hn hl.1 hst (lv_room (rest := st) hrm) d hf
  intro T hT X1
  obtain ⟨v, st₀, t, T', L, h0', X', hL, e1, ⟨r, σ', hv, hq, hp, hz, hk⟩, hs⟩ := hrun T hT X1
  cases hv
  rw [h0'] at hz hk
  have hk2 : ∀ q : Nat, q < H.size → ¬ (∃ i, i < 8 ∧ q = c i) → T'.heap[q]? = H[q]? := fun q h1 h2 => by rw [e1]; exact hk q h1 (fun z => h2 (k_wA_adr wM_adr z))
  have hin : ∀ q, k_wA (wM c cI cZ) q → (k_s Γ).heap.size ≤ q := fun q h => by
    obtain ⟨i, hi, rfl⟩ := k_wA_adr wM_adr h
    exact hA.2.2.2.1 i hi
  obtain ⟨t2, a1, b1⟩ := k r σ' hq T'.heap (locs ++ L) ls hA (hW.setM hA (by rw [e1]; exact hp) hk2) ⟨Nat.le_trans hS.1 (by rw [e1]; exact hz), fun q h1 h2 => by rw [e1, hk q (Nat.lt_of_lt_of_le h1 hS.1) (fun z => h2 (hin q z))]; exact hS.2.1 q h1 h2, fun q hq => (List.mem_append.mp hq).elim (hS.2.2 q) (fun h => hin _ (hL q h))⟩ hl T' rfl X'
  exact ⟨t2, hs t2 a1, b1⟩
/-- a method of the class that works on the class and the circle k -/
theorem l_cI (G : k_G Γ 4 own cc Ts tys) {y : MethodName} {bytes : ByteArray} {maxL n index : Nat} {ret : Option FieldType} {wsy : List Cond} {rm : Room} {tys' : List (ClassId × FieldType)} {Q' : k_M × k_M → Prop} {r : Int32} (As rest : List Value) (kk : Nat) (hk0 : kk < 2) (hg : ∀ q, gI kk = some q → q = b kk 0 → gI kk = some (b kk 0)) (hs0 : gI kk ≠ none)
    (hM : ∀ sz, Met (k_l Γ) y wsy rm (k_PG (k_D Γ) tys' (wI a cI cO gI (b kk) σ (ρ kk)) sz (.ref (a 0) :: As)) (k_QG (k_D Γ) (wI a cI cO gI (b kk) σ (ρ kk)) sz r (fun u : k_M × k_M => wI a cI cO gI (b kk) u.1 u.2) Q') 0 0 (va_A (wI a cI cO gI (b kk) σ (ρ kk)) sz)) (cw : CallW R (k_s Γ) (k_ar Γ) own RX6 index y bytes maxL ret wsy rm 0 0 n) (ts : List Nat) (hts : ts.filterMap (fun i => tys[i]?) = tys')
    (hn : As.length = n) (hst : st = As.reverse ++ .ref (a 0) :: rest) (hrm : (rest.map fun v => v.category).sum ≤ 8) (hf : cs + 0 ≤ R.cells ∧ sl + 0 ≤ R.slots) (d : decode cc pc = .ok (.invokevirtual index, 3)) (k : ∀ σ' ρ', Q' (σ', ρ') → k_L Γ R cI cO cZ cs sl (pc + 3) lv (.int r :: rest) a b c gI σ' (va_up ρ kk ρ') τ) : k_L Γ R cI cO cZ cs sl pc lv st a b c gI σ ρ τ := by
  intro H locs ls hA hW hS hl
  obtain ⟨q, hq0⟩ : ∃ q, gI kk = some q := by
    cases h : gI kk with
    | none => exact absurd h hs0
    | some q => exact ⟨q, rfl⟩
  obtain ⟨hqb, hP1⟩ := hW.2.2 kk hk0 q hq0
  have hgk : gI kk = some (b kk 0) := by rw [hq0, hqb]
  have hPI : va_P (k_D Γ) vwCl (wI a cI cO gI (b kk) σ (ρ kk)) H := hW.1.app hP1
  have hB := hA.2.2.2.2.2.1 kk hk0 hs0
  have hDI : va_D (fun q => (k_s Γ).heap.size ≤ q) (wI a cI cO gI (b kk) σ (ρ kk)) := va_D.app (k_adrD (wC_adr σ) hA.1 hA.2.1) (k_adrD (w1_adr (ρ kk)) hB.1 hB.2.1) (fun i j x z hx hz e => hB.2.2.1 i j (k_adr (wC_adr σ) hx).1 (k_adr (w1_adr (ρ kk)) hz).1 ((k_adr (wC_adr σ) hx).2.symm.trans (e.trans (k_adr (w1_adr (ρ kk)) hz).2)))
  have hrun := W.runV (As := As) (rest := rest) (p := k_p Γ) (e := k_e Γ) (below := k_be Γ) (meth := k_me Γ) (H := H) (locs := locs) (cells := cs) (slots := sl) (g := F0 (k_m Γ) pc ls st) ⟨G.1, G.2.1, G.2.2.1, G.2.2.2.1, G.2.2.2.2.1⟩ (hM H.size) cw ⟨k_PG_blind, va_recv (q := (RX6, TX6, 4)) G.2.2.2.2.2.1 hW.1 (ci := 4) rfl wC_0, fun U hU hWm => ⟨rfl, by rw [hU], by rw [hU]; exact hPI, va_K.moved hWm.alike (G.2.2.2.2.2.1.sub ts hts), k_N.warm hWm G.2.2.2.2.2.2, hDI.weaken (fun _ _ _ _ => trivial)⟩⟩ rfl hn hl.1 hst (lv_room (rest := st) hrm) d hf
  intro T hT X1
  obtain ⟨v, st₀, t, T', L, h0', X', hL, e1, ⟨u, hv, hq, hp, hd, hz, hk⟩, hs⟩ := hrun T hT X1
  cases hv
  rw [h0'] at hz hk
  have hin : ∀ q, va_A (wI a cI cO gI (b kk) σ (ρ kk)) H.size q → (k_s Γ).heap.size ≤ q := fun q h => by
    rcases h with ⟨j, e, hj⟩ | h
    · exact hDI.2 j _ hj
    · exact Nat.le_trans hS.1 h
  obtain ⟨t2, a1, b1⟩ := k u.1 u.2 hq T'.heap (locs ++ L) ls hA (hW.setI hA hk0 hgk (by rw [e1]; exact hp) (fun q h1 h2 => by rw [e1]; exact hk q h1 h2)) ⟨Nat.le_trans hS.1 (by rw [e1]; exact hz), fun q h1 h2 => by rw [e1, hk q (Nat.lt_of_lt_of_le h1 hS.1) (fun z => h2 (hin q z))]; exact hS.2.1 q h1 h2, fun q hq => (List.mem_append.mp hq).elim (hS.2.2 q) (fun h => hin _ (hL q h))⟩ hl T' rfl X'
  exact ⟨t2, hs t2 a1, b1⟩
/-- image(k) that makes its circle -/
theorem l_cN (G : k_G Γ 4 own cc Ts tys) {y : MethodName} {bytes : ByteArray} {maxL n index mc ms : Nat} {ret : Option FieldType} {wsy : List Cond} {rm : Room} {tys' : List (ClassId × FieldType)} {Q' : (Nat → Nat) × k_M × k_M → Prop} {r : Int32} (As rest : List Value) (kk : Nat) (hk0 : kk < 2) (hg : gI kk = none)
    (hM : ∀ sz, Met (k_l Γ) y wsy rm (k_PG (k_D Γ) tys' (wC a cI cO gI σ) sz (.ref (a 0) :: As)) (k_QG (k_D Γ) (wC a cI cO gI σ) sz r (fun u : (Nat → Nat) × k_M × k_M => wI a cI cO (va_up gI kk (some (u.1 0))) u.1 u.2.1 u.2.2) Q') mc ms (va_A (wC a cI cO gI σ) sz)) (cw : CallW R (k_s Γ) (k_ar Γ) own RX6 index y bytes maxL ret wsy rm mc ms n) (ts : List Nat) (hts : ts.filterMap (fun i => tys[i]?) = tys')
    (hn : As.length = n) (hst : st = As.reverse ++ .ref (a 0) :: rest) (hrm : (rest.map fun v => v.category).sum ≤ 8) (hf : cs + mc ≤ R.cells ∧ sl + ms ≤ R.slots) (d : decode cc pc = .ok (.invokevirtual index, 3)) (k : ∀ b' σ' ρ', Q' (b', σ', ρ') → k_L Γ R cI cO cZ (cs + mc) (sl + ms) (pc + 3) lv (.int r :: rest) a (va_up b kk b') c (va_up gI kk (some (b' 0))) σ' (va_up ρ kk ρ') τ) : k_L Γ R cI cO cZ cs sl pc lv st a b c gI σ ρ τ := by
  intro H locs ls hA hW hS hl
  have hDC : va_D (fun q => (k_s Γ).heap.size ≤ q) (wC a cI cO gI σ) := k_adrD (wC_adr σ) hA.1 hA.2.1
  have hrun := W.runV (As := As) (rest := rest) (p := k_p Γ) (e := k_e Γ) (below := k_be Γ) (meth := k_me Γ) (H := H) (locs := locs) (cells := cs) (slots := sl) (g := F0 (k_m Γ) pc ls st) ⟨G.1, G.2.1, G.2.2.1, G.2.2.2.1, G.2.2.2.2.1⟩ (hM H.size) cw ⟨k_PG_blind, va_recv (q := (RX6, TX6, 4)) G.2.2.2.2.2.1 hW.1 (ci := 4) rfl wC_0, fun U hU hWm => ⟨rfl, by rw [hU], by rw [hU]; exact hW.1, va_K.moved hWm.alike (G.2.2.2.2.2.1.sub ts hts), k_N.warm hWm G.2.2.2.2.2.2, hDC.weaken (fun _ _ _ _ => trivial)⟩⟩ rfl hn hl.1 hst (lv_room (rest := st) hrm) d hf
  intro T hT X1
  obtain ⟨v, st₀, t, T', L, h0', X', hL, e1, ⟨u, hv, hq, hp, hd, hz, hk⟩, hs⟩ := hrun T hT X1
  cases hv
  rw [h0'] at hz hk
  have hin : ∀ q, va_A (wC a cI cO gI σ) H.size q → (k_s Γ).heap.size ≤ q := fun q h => by
    rcases h with ⟨j, e, hj⟩ | h
    · exact hDC.2 j _ hj
    · exact Nat.le_trans hS.1 h
  obtain ⟨hA2, hW2⟩ := hW.newI hA (fun q h => Nat.le_trans hS.1 h) hk0 hg (H1 := T'.heap) (by rw [e1]; exact hp) hd (fun q h1 h2 => by rw [e1]; exact hk q h1 h2)
  obtain ⟨t2, a1, b1⟩ := k u.1 u.2.1 u.2.2 hq T'.heap (locs ++ L) ls hA2 hW2 ⟨Nat.le_trans hS.1 (by rw [e1]; exact hz), fun q h1 h2 => by rw [e1, hk q (Nat.lt_of_lt_of_le h1 hS.1) (fun z => h2 (hin q z))]; exact hS.2.1 q h1 h2, fun q hq => (List.mem_append.mp hq).elim (hS.2.2 q) (fun h => hin _ (hL q h))⟩ hl T' rfl X'
  exact ⟨t2, hs t2 a1, b1⟩
end KL
