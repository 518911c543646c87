/-! THE CLAIM OUT OF ONE WALK OF THE LAW'S BODY. Your part is whole_start (and what it stands on); all else here is the same for every law, but numbers. -/
def R_law : String := "FreshSharesLaw"
def lw_P (b : Addr) (xs : List Int32) (args : Array Value) (s : State) : Prop := args = #[.ref b] ∧ s.IntsAt b xs ∧ xs.length ≤ 2048 ∧ (Jvm.Cond.and given_1 narrow_1).before args s = true
def lw_Q (_ : Array Value) (s : State) (o : Outcome) (t : State) : Prop := o = .returned (some (.int 1)) ∧ Framed s o t [] 600000 7302250
def lw_Z (below : List Frame) (a : Array Value) (s : State) : State → Prop := fun t => ∃ o, t.status = .running ∧ Ended t below o ∧ lw_Q a s o t
/-- the law's own end, with 1 on the stack, nothing written that was there before, its room as the claim has it -/
theorem lw_ret {p : Program} {l : Launch} {e : Env} {s : State} {m : MethodId} {below : List Frame} {meth : Method} {c : Code} {b : Nat} (hx : p.tables.exec = Jvm.exec) (hb : c.code = code) (hr : meth.sig.returnType = ret) (hlocks : meth.locks = false) {pc : Nat} {H : Heap} {ls : Array Slot} (hdg : decode code pc = .ok (.ireturn, 1)) : W p l e room_1 s m #[Value.ref b] below meth c H [] 600000 7302250 (lw_Z below #[Value.ref b] s) (F0 m pc ls [.int 1]) := by
  intro T hT X
  obtain ⟨fs, hret, hrun, hended, hW, hframe⟩ := X.leave (v := some (.int 1)) (hlocks := hlocks) (fun h => by rw [hr] at h; cases h)
  have hmeth' : T.vm.method? m = some meth := X.method'
  refine ⟨T.setFrames fs, ?_, .returned (some (.int 1)), hrun, hended, rfl, ⟨_, rfl⟩, hW, hframe⟩
  jvm_step X.here [X.here.top, hx, hb, hdg, hmeth', hr, ret, narrow_b1]
  (try refine ⟨rfl, ?_⟩); (try refine ⟨rfl, ?_⟩)
  first | (intro acts; rw [hret _ acts rfl rfl rfl]) | rw [hret _ _ rfl rfl rfl]
  exact Steps.refl _
/-- what holds at the law's entry: the machine, the code, the tables' words (any of lw_tbl by 'hts w (by decide +kernel)'), the script of L ints xs at the cell b, what the Statement gives of the start (any of its parts by flat_of_before) -/
def lw_At (p : Program) (s : State) (m : MethodId) (meth : Method) (c : Code) (b L : Nat) (xs : Nat → Int32) : Prop :=
  p.tables.exec = Jvm.exec ∧ c.code = code ∧ meth.sig.returnType = ret ∧ c.maxLocals = 4 ∧ s.vm.findClass R_law = some m.cls ∧ (∀ w ∈ lw_tbl, w.before #[Value.ref b] s = true) ∧ va_X b L xs s s.heap ∧ b < s.heap.size ∧ meth.locks = false ∧ (Jvm.Cond.and given_1 narrow_1).before #[Value.ref b] s = true
section KLK
theorem l_known {Γ : k_C} {R : Room} {cI cO cZ : ClassId} {cs sl : Nat} {pc : Nat} {lv : List (Nat × Value)} {st : List Value} {a : Nat → Nat} {b : Nat → Nat → Nat} {c : Nat → Nat} {gI : Nat → Option Nat} {σ τ : k_M} {ρ : Nat → k_M} {k q : Nat} (hk : k < 2) (hg : gI k = some q) (kk : gI k = some (b k 0) → k_L Γ R cI cO cZ cs sl pc lv st a b c gI σ ρ τ) : k_L Γ R cI cO cZ cs sl pc lv st a b c gI σ ρ τ := fun H locs ls hA hW hS hl => kk (by rw [hg, (hW.2.2 k hk q hg).1]) H locs ls hA hW hS hl
end KLK
theorem kb_31 : (Int8.ofInt (31)).toInt32 = (31 : Int32) := by decide
theorem kt_8 : (8 : Int32).toInt = 8 := by decide
theorem kt_9 : (9 : Int32).toInt = 9 := by decide
theorem kt_10 : (10 : Int32).toInt = 10 := by decide
theorem kt_11 : (11 : Int32).toInt = 11 := by decide
theorem kt_12 : (12 : Int32).toInt = 12 := by decide
theorem kt_13 : (13 : Int32).toInt = 13 := by decide
theorem kt_14 : (14 : Int32).toInt = 14 := by decide
theorem kt_15 : (15 : Int32).toInt = 15 := by decide
theorem kt_16 : (16 : Int32).toInt = 16 := by decide
/-! what the pure part must give: a relation between the memories that every call keeps, with equal answers -/
def sim_row (RR : (Nat → Bool) → k_M → (Nat → k_M) → k_M → Prop) : Prop := ∀ (pr : Nat → Bool) (σ : k_M) (ρ : Nat → k_M) (τ : k_M) (p1 p2 p3 : Int32), RR pr σ ρ τ → wp_X6_row σ p1 p2 p3 (fun (r : Int32) (σ' : k_M) => wp_X7_row τ p1 p2 p3 (fun (r' : Int32) (τ' : k_M) => r = r' ∧ RR pr σ' ρ τ'))
def sim_bent (RR : (Nat → Bool) → k_M → (Nat → k_M) → k_M → Prop) : Prop := ∀ (pr : Nat → Bool) (σ : k_M) (ρ : Nat → k_M) (τ : k_M) (p1 p2 p3 : Int32), RR pr σ ρ τ → wp_X6_bent σ p1 p2 p3 (fun (r : Int32) (σ' : k_M) => wp_X7_bent τ p1 p2 p3 (fun (r' : Int32) (τ' : k_M) => r = r' ∧ RR pr σ' ρ τ'))
def sim_member (RR : (Nat → Bool) → k_M → (Nat → k_M) → k_M → Prop) : Prop := ∀ (pr : Nat → Bool) (σ : k_M) (ρ : Nat → k_M) (τ : k_M) (p1 p2 : Int32), RR pr σ ρ τ → wp_X6_member σ p1 p2 (fun (r : Int32) => wp_X7_member τ p1 p2 (fun (r' : Int32) => r = r' ∧ RR pr σ ρ τ))
def sim_say (RR : (Nat → Bool) → k_M → (Nat → k_M) → k_M → Prop) : Prop := ∀ (pr : Nat → Bool) (σ : k_M) (ρ : Nat → k_M) (τ : k_M) (p1 : Int32), RR pr σ ρ τ → wp_X6_say σ p1 (fun (r : Int32) (σ' : k_M) => wp_X7_say τ p1 (fun (r' : Int32) (τ' : k_M) => r = r' ∧ RR pr σ' ρ τ'))
def sim_wipe (RR : (Nat → Bool) → k_M → (Nat → k_M) → k_M → Prop) : Prop := ∀ (pr : Nat → Bool) (σ : k_M) (ρ : Nat → k_M) (τ : k_M), RR pr σ ρ τ → wp_X6_wipe σ  (fun (r : Int32) (σ' : k_M) => wp_X7_wipe τ  (fun (r' : Int32) (τ' : k_M) => r = r' ∧ RR pr σ' ρ τ'))
def sim_fault (RR : (Nat → Bool) → k_M → (Nat → k_M) → k_M → Prop) : Prop := ∀ (pr : Nat → Bool) (σ : k_M) (ρ : Nat → k_M) (τ : k_M), RR pr σ ρ τ → wp_X6_fault σ  (fun (r : Int32) => wp_X7_fault τ  (fun (r' : Int32) => r = r' ∧ RR pr σ ρ τ))
def sim_act (RR : (Nat → Bool) → k_M → (Nat → k_M) → k_M → Prop) : Prop := ∀ (pr : Nat → Bool) (σ : k_M) (ρ : Nat → k_M) (τ : k_M), RR pr σ ρ τ → wp_X6_act σ  (fun (r : Int32) (σ' : k_M) => wp_X7_act τ  (fun (r' : Int32) (τ' : k_M) => r = r' ∧ RR pr σ' ρ τ'))
def sim_named (RR : (Nat → Bool) → k_M → (Nat → k_M) → k_M → Prop) : Prop := ∀ (pr : Nat → Bool) (σ : k_M) (ρ : Nat → k_M) (τ : k_M) (p1 : Int32), RR pr σ ρ τ → wp_X6_named σ p1 (fun (r : Int32) => wp_X7_named τ p1 (fun (r' : Int32) => r = r' ∧ RR pr σ ρ τ))
def sim_fits (RR : (Nat → Bool) → k_M → (Nat → k_M) → k_M → Prop) : Prop := ∀ (pr : Nat → Bool) (σ : k_M) (ρ : Nat → k_M) (τ : k_M) (p1 p2 : Int32), RR pr σ ρ τ → wp_X6_fits σ p1 p2 (fun (r : Int32) => wp_X7_fits τ p1 p2 (fun (r' : Int32) => r = r' ∧ RR pr σ ρ τ))
def sim_seal (RR : (Nat → Bool) → k_M → (Nat → k_M) → k_M → Prop) : Prop := ∀ (pr : Nat → Bool) (σ : k_M) (ρ : Nat → k_M) (τ : k_M) (p1 : Int32), RR pr σ ρ τ → wp_X6_seal σ p1 (fun (r : Int32) => wp_X7_seal τ p1 (fun (r' : Int32) => r = r' ∧ RR pr σ ρ τ))
def sim_weighs (RR : (Nat → Bool) → k_M → (Nat → k_M) → k_M → Prop) : Prop := ∀ (pr : Nat → Bool) (σ : k_M) (ρ : Nat → k_M) (τ : k_M) (p1 p2 p3 : Int32), RR pr σ ρ τ → wp_X6_weighs σ p1 p2 p3 (fun (r : Int32) => wp_X7_weighs τ p1 p2 p3 (fun (r' : Int32) => r = r' ∧ RR pr σ ρ τ))
def sim_loot (RR : (Nat → Bool) → k_M → (Nat → k_M) → k_M → Prop) : Prop := ∀ (pr : Nat → Bool) (σ : k_M) (ρ : Nat → k_M) (τ : k_M) (p1 p2 : Int32), RR pr σ ρ τ → wp_X6_loot σ p1 p2 (fun (r : Int32) => wp_X7_loot τ p1 p2 (fun (r' : Int32) => r = r' ∧ RR pr σ ρ τ))
def sim_worlds (RR : (Nat → Bool) → k_M → (Nat → k_M) → k_M → Prop) : Prop := ∀ (pr : Nat → Bool) (σ : k_M) (ρ : Nat → k_M) (τ : k_M) (p1 p2 : Int32), RR pr σ ρ τ → wp_X6_worlds σ p1 p2 (fun (r : Int32) (σ' : k_M) => wp_X7_worlds τ p1 p2 (fun (r' : Int32) (τ' : k_M) => r = r' ∧ RR pr σ' ρ τ'))
def sim_thief (RR : (Nat → Bool) → k_M → (Nat → k_M) → k_M → Prop) : Prop := ∀ (pr : Nat → Bool) (σ : k_M) (ρ : Nat → k_M) (τ : k_M) (p1 : Int32), RR pr σ ρ τ → wp_X6_thief σ p1 (fun (r : Int32) (σ' : k_M) => wp_X7_thief τ p1 (fun (r' : Int32) => r = r' ∧ RR pr σ' ρ τ))
def sim_count (RR : (Nat → Bool) → k_M → (Nat → k_M) → k_M → Prop) : Prop := ∀ (pr : Nat → Bool) (σ : k_M) (ρ : Nat → k_M) (τ : k_M) (p1 : Int32) (gI : Nat → Option Nat), RR pr σ ρ τ → (∀ k, (gI k).isSome = pr k) → wp_X6_count gI σ p1 (fun (r : Int32) => wp_X7_count τ p1 (fun (r' : Int32) => r = r' ∧ RR pr σ ρ τ))
def sim_image_out (RR : (Nat → Bool) → k_M → (Nat → k_M) → k_M → Prop) : Prop := ∀ (pr : Nat → Bool) (σ : k_M) (ρ : Nat → k_M) (τ : k_M) (p1 : Int32), RR pr σ ρ τ → (p1 < 0 ∨ ¬ p1 < 2) → wp_X7_image τ p1 (fun (r' : Int32) (τ' : k_M) => -2 = r' ∧ RR pr σ ρ τ')
def sim_restore_out (RR : (Nat → Bool) → k_M → (Nat → k_M) → k_M → Prop) : Prop := ∀ (pr : Nat → Bool) (σ : k_M) (ρ : Nat → k_M) (τ : k_M) (p1 : Int32), RR pr σ ρ τ → (p1 < 0 ∨ ¬ p1 < 2) → wp_X7_restore τ p1 (fun (r' : Int32) (τ' : k_M) => -2 = r' ∧ RR pr σ ρ τ')
def sim_image_in (RR : (Nat → Bool) → k_M → (Nat → k_M) → k_M → Prop) : Prop := ∀ (pr : Nat → Bool) (σ : k_M) (ρ : Nat → k_M) (τ : k_M) (p1 : Int32), RR pr σ ρ τ → ¬ p1 < 0 → p1 < 2 → ∀ (ρ0 μ : k_M), k_cp (k_imK σ ρ0) μ → wp_X7_image τ p1 (fun (r' : Int32) (τ' : k_M) => 1 = r' ∧ RR (va_up pr p1.toNatClampNeg true) (k_into σ (fun i => μ (i + 10))) (va_up ρ p1.toNatClampNeg μ) τ')
def sim_restore_no (RR : (Nat → Bool) → k_M → (Nat → k_M) → k_M → Prop) : Prop := ∀ (pr : Nat → Bool) (σ : k_M) (ρ : Nat → k_M) (τ : k_M) (p1 : Int32), RR pr σ ρ τ → ¬ p1 < 0 → p1 < 2 → pr p1.toNatClampNeg = false → wp_X7_restore τ p1 (fun (r' : Int32) (τ' : k_M) => -5 = r' ∧ RR pr σ ρ τ')
def sim_restore_in (RR : (Nat → Bool) → k_M → (Nat → k_M) → k_M → Prop) : Prop := ∀ (pr : Nat → Bool) (σ : k_M) (ρ : Nat → k_M) (τ : k_M) (p1 : Int32), RR pr σ ρ τ → ¬ p1 < 0 → p1 < 2 → pr p1.toNatClampNeg = true → ∀ (μ : k_M), k_cp (k_rmK σ (ρ p1.toNatClampNeg)) μ → wp_X7_restore τ p1 (fun (r' : Int32) (τ' : k_M) => 1 = r' ∧ RR pr (k_into σ μ) (va_up ρ p1.toNatClampNeg (fun i => μ (i + 10))) τ')
def k_Sim (RR : (Nat → Bool) → k_M → (Nat → k_M) → k_M → Prop) : Prop := sim_row RR ∧ sim_bent RR ∧ sim_member RR ∧ sim_say RR ∧ sim_wipe RR ∧ sim_fault RR ∧ sim_act RR ∧ sim_named RR ∧ sim_fits RR ∧ sim_seal RR ∧ sim_weighs RR ∧ sim_loot RR ∧ sim_worlds RR ∧ sim_thief RR ∧ sim_count RR ∧ sim_image_out RR ∧ sim_restore_out RR ∧ sim_image_in RR ∧ sim_restore_no RR ∧ sim_restore_in RR
theorem k_prU {gI : Nat → Option Nat} {kk q : Nat} : (fun k => (va_up gI kk (some q) k).isSome) = va_up (fun k => (gI k).isSome) kk true := by
  funext k
  by_cases h : k = kk
  · subst h; simp [va_up]
  · simp [va_up, h]
theorem k_prH {gI : Nat → Option Nat} {kk q : Nat} (h : gI kk = some q) : va_up (fun k => (gI k).isSome) kk true = fun k => (gI k).isSome := by
  funext k
  by_cases e : k = kk
  · subst e; simp [va_up, h]
  · simp [va_up, e]
set_option maxHeartbeats 8000000 in
set_option maxRecDepth 100000 in
theorem law_loop {RR : (Nat → Bool) → k_M → (Nat → k_M) → k_M → Prop} (S : k_Sim RR) {Γ : k_C} {cI cO cZ : ClassId} {bb L : Nat} {xs : Nat → Int32} (hL : L ≤ 2048) (G : k_G Γ 4 RL cL_law wsL_law [(cI, .int), (cO, .object "FreshShares$Circle"), (cZ, .boolean)]) (hX : va_X bb L xs (k_s Γ) (k_s Γ).heap) (hbl : bb < (k_s Γ).heap.size) (hr : (k_me Γ).sig.returnType = ret) (hlocks : (k_me Γ).locks = false) (har : k_ar Γ = #[Value.ref bb]) (hQ : k_Q Γ = lw_Z (k_be Γ) #[Value.ref bb] (k_s Γ)) :
    ∀ (n i : Nat) (x3 : Int32), 4 * i ≤ L → L < 4 * i + 4 * n → x3 = nI (4 * i) → ∀ (a : Nat → Nat) (b : Nat → Nat → Nat) (c : Nat → Nat) (gI : Nat → Option Nat) (σ : k_M) (ρ : Nat → k_M) (τ : k_M), RR (fun k => (gI k).isSome) σ ρ τ → k_L Γ room_1 cI cO cZ (30 + 10 * i) (2000 + 400 * i) 18 [(0, .ref bb), (1, .ref (a 0)), (2, .ref (c 0)), (3, .int x3)] [] a b c gI σ ρ τ := by
  intro n
  induction n with
  | zero => intro i x3 h1 h2; exact absurd h2 (by omega)
  | succ n ih =>
    intro i x3 hi hn ex3 a b c gI σ ρ τ hR
    have h31 : (31 : Int32).toBitVec.toNat = 2 ^ 5 - 1 := by decide
    refine l_iload_n G dL_law_18 3 rfl rfl ?_
    refine l_aload_n G dL_law_19 0 rfl rfl ?_
    refine l_slen G hX hbl dL_law_20 ?_
    refine l_iconst G (4 : Int32) dL_law_21 kc_4 ?_
    refine l_isub G dL_law_22 ?_
    refine l_icmp_gt G 583 dL_law_23 (by decide) (fun hc => ?_) (fun hc => ?_)
    · intro H locs ls hA hW hS hl
      refine lv_iconst (v := 1) G.1 G.2.1 dL_law_583 (by decide) ?_
      refine va_forget (fun q hq => hS.2.2 q hq) ?_
      refine W.widen (k := 600000) (n := 7302250) (by omega) (by omega) ?_
      rw [har, hQ]
      exact lw_ret G.1 G.2.1 hr hlocks dL_law_584
    have hlt : 4 * i + 4 ≤ L := by
      rw [ex3] at hc
      have e1 : (Int32.ofNat L - 4 : Int32).toInt = (L : Int) - 4 := pk_sub_toInt (a := L) (b := 4) (by omega) (by omega)
      have e2 : (nI (4 * i)).toInt = ((4 * i : Nat) : Int) := nI_toInt (by omega)
      rw [Int32.lt_iff_toInt_lt, e1, e2] at hc
      omega
    have hin : ∀ j : Nat, j < 4 → vp_in (x3 + nI j) L := fun j hj => by rw [ex3, nI_add]; exact vp_in_nI (by omega) (by omega)
    have hin0 : vp_in x3 L := by rw [ex3]; exact vp_in_nI (by omega) (by omega)
    have hc0 : ∀ k, k ≤ 10 → (30 + 10 * i) + k ≤ room_1.cells := fun k hk => by show _ ≤ 600000; omega
    have hs0 : ∀ k, k ≤ 400 → (2000 + 400 * i) + k ≤ room_1.slots := fun k hk => by show _ ≤ 7302250; omega
    have next : ∀ (cs sl : Nat) (a : Nat → Nat) (b : Nat → Nat → Nat) (c : Nat → Nat) (gI : Nat → Option Nat) (σ : k_M) (ρ : Nat → k_M) (τ : k_M), cs ≤ 30 + 10 * i + 10 → sl ≤ 2000 + 400 * i + 400 → RR (fun k => (gI k).isSome) σ ρ τ → k_L Γ room_1 cI cO cZ cs sl 577 [(0, .ref bb), (1, .ref (a 0)), (2, .ref (c 0)), (3, .int x3)] [] a b c gI σ ρ τ := by
      intro cs sl a b c gI σ ρ τ h1 h2 hR
      refine l_iinc (lv' := [(3, .int (x3 + (4 : Int32))), (0, .ref bb), (1, .ref (a 0)), (2, .ref (c 0))]) G 3 dL_law_577 kc_4 rfl (by decide) rfl ?_
      refine l_goto G 18 dL_law_580 (by decide) ?_
      refine l_widen (cs' := 30 + 10 * (i + 1)) (sl' := 2000 + 400 * (i + 1)) (by omega) (by omega) ?_
      exact l_sub [1, 2, 3, 0] rfl (ih (i + 1) _ (by omega) (by omega) (by rw [ex3]; exact (nI_add (4 * i) 4).trans (by rw [show 4 * i + 4 = 4 * (i + 1) by omega])) a b c gI σ ρ τ hR)
    refine l_aload_n G dL_law_26 0 rfl rfl ?_
    refine l_iload_n G dL_law_27 3 rfl rfl ?_
    refine l_sld G hX hbl hin0 dL_law_28 ?_
    refine l_bipush G (31 : Int32) dL_law_29 kb_31 ?_
    refine l_iand G dL_law_31 ?_
    generalize hop : xs x3.toNatClampNeg &&& (31 : Int32) = op
    rcases Classical.em (op = (0 : Int32)) with hs_0 | hs_0
    · refine l_tableIn G 116 dL_law_32 0 (khit hs_0 kt_0) (by decide) (by decide) (off := 84) rfl (by decide) ?_
      refine l_aload_n G dL_law_116 1 rfl rfl ?_
      refine l_aload_n G dL_law_117 0 rfl rfl ?_
      refine l_iload_n G dL_law_118 3 rfl rfl ?_
      refine l_iconst G (1 : Int32) dL_law_119 kc_1 ?_
      refine l_iadd G dL_law_120 ?_
      refine l_sld G hX hbl (hin 1 (by omega)) dL_law_121 ?_
      refine l_aload_n G dL_law_122 0 rfl rfl ?_
      refine l_iload_n G dL_law_123 3 rfl rfl ?_
      refine l_iconst G (2 : Int32) dL_law_124 kc_2 ?_
      refine l_iadd G dL_law_125 ?_
      refine l_sld G hX hbl (hin 2 (by omega)) dL_law_126 ?_
      refine l_aload_n G dL_law_127 0 rfl rfl ?_
      refine l_iload_n G dL_law_128 3 rfl rfl ?_
      refine l_iconst G (3 : Int32) dL_law_129 kc_3 ?_
      refine l_iadd G dL_law_130 ?_
      refine l_sld G hX hbl (hin 3 (by omega)) dL_law_131 ?_
      generalize hp1 : xs (x3 + (1 : Int32)).toNatClampNeg = p1
      generalize hp2 : xs (x3 + (2 : Int32)).toNatClampNeg = p2
      generalize hp3 : xs (x3 + (3 : Int32)).toNatClampNeg = p3
      have h := (S.1 _ σ ρ τ p1 p2 p3 hR)
      refine l_cC G [.int p1, .int p2, .int p3] [] (c_X6_row (k_l Γ) (k_D Γ) a cI cO gI _ _ _ _ _ h) (cwV 3 G.2.2.2.2.1 gL_law_X6_row rfl rfl rfl hdv_X6_row ⟨Nat.le_of_ble_eq_true rfl, Nat.le_of_ble_eq_true rfl⟩) [0, 1] rfl rfl rfl (Nat.le_of_ble_eq_true rfl) ⟨hc0 0 (Nat.zero_le _), hs0 0 (Nat.zero_le _)⟩ dL_law_132 (fun r σ' h => ?_)
      refine l_aload_n G dL_law_135 2 rfl rfl ?_
      refine l_aload_n G dL_law_136 0 rfl rfl ?_
      refine l_iload_n G dL_law_137 3 rfl rfl ?_
      refine l_iconst G (1 : Int32) dL_law_138 kc_1 ?_
      refine l_iadd G dL_law_139 ?_
      refine l_sld G hX hbl (hin 1 (by omega)) dL_law_140 ?_
      refine l_aload_n G dL_law_141 0 rfl rfl ?_
      refine l_iload_n G dL_law_142 3 rfl rfl ?_
      refine l_iconst G (2 : Int32) dL_law_143 kc_2 ?_
      refine l_iadd G dL_law_144 ?_
      refine l_sld G hX hbl (hin 2 (by omega)) dL_law_145 ?_
      refine l_aload_n G dL_law_146 0 rfl rfl ?_
      refine l_iload_n G dL_law_147 3 rfl rfl ?_
      refine l_iconst G (3 : Int32) dL_law_148 kc_3 ?_
      refine l_iadd G dL_law_149 ?_
      refine l_sld G hX hbl (hin 3 (by omega)) dL_law_150 ?_
      rw [hp1]
      rw [hp2]
      rw [hp3]
      refine l_cM G [.int p1, .int p2, .int p3] [.int r] (c_X7_row (k_l Γ) (k_D Γ) _ cI cZ _ _ _ _ _ h) (cwV 3 G.2.2.2.2.1 gL_law_X7_row rfl rfl rfl hdv_X7_row ⟨Nat.le_of_ble_eq_true rfl, Nat.le_of_ble_eq_true rfl⟩) [0, 2] rfl rfl rfl (Nat.le_of_ble_eq_true rfl) ⟨hc0 0 (Nat.zero_le _), hs0 0 (Nat.zero_le _)⟩ dL_law_151 (fun r' τ' h => ?_)
      refine l_icmp_eq_t G 577 dL_law_154 (by decide) h.1 ?_
      exact next _ _ _ _ _ _ _ _ _ (by omega) (by omega) h.2
    rcases Classical.em (op = (1 : Int32)) with hs_1 | hs_1
    · refine l_tableIn G 159 dL_law_32 1 (khit hs_1 kt_1) (by decide) (by decide) (off := 127) rfl (by decide) ?_
      refine l_aload_n G dL_law_159 1 rfl rfl ?_
      refine l_aload_n G dL_law_160 0 rfl rfl ?_
      refine l_iload_n G dL_law_161 3 rfl rfl ?_
      refine l_iconst G (1 : Int32) dL_law_162 kc_1 ?_
      refine l_iadd G dL_law_163 ?_
      refine l_sld G hX hbl (hin 1 (by omega)) dL_law_164 ?_
      refine l_aload_n G dL_law_165 0 rfl rfl ?_
      refine l_iload_n G dL_law_166 3 rfl rfl ?_
      refine l_iconst G (2 : Int32) dL_law_167 kc_2 ?_
      refine l_iadd G dL_law_168 ?_
      refine l_sld G hX hbl (hin 2 (by omega)) dL_law_169 ?_
      refine l_aload_n G dL_law_170 0 rfl rfl ?_
      refine l_iload_n G dL_law_171 3 rfl rfl ?_
      refine l_iconst G (3 : Int32) dL_law_172 kc_3 ?_
      refine l_iadd G dL_law_173 ?_
      refine l_sld G hX hbl (hin 3 (by omega)) dL_law_174 ?_
      generalize hp1 : xs (x3 + (1 : Int32)).toNatClampNeg = p1
      generalize hp2 : xs (x3 + (2 : Int32)).toNatClampNeg = p2
      generalize hp3 : xs (x3 + (3 : Int32)).toNatClampNeg = p3
      have h := (S.2.1 _ σ ρ τ p1 p2 p3 hR)
      refine l_cC G [.int p1, .int p2, .int p3] [] (c_X6_bent (k_l Γ) (k_D Γ) a cI cO gI _ _ _ _ _ h) (cwV 3 G.2.2.2.2.1 gL_law_X6_bent rfl rfl rfl hdv_X6_bent ⟨Nat.le_of_ble_eq_true rfl, Nat.le_of_ble_eq_true rfl⟩) [0, 1] rfl rfl rfl (Nat.le_of_ble_eq_true rfl) ⟨hc0 0 (Nat.zero_le _), hs0 0 (Nat.zero_le _)⟩ dL_law_175 (fun r σ' h => ?_)
      refine l_aload_n G dL_law_178 2 rfl rfl ?_
      refine l_aload_n G dL_law_179 0 rfl rfl ?_
      refine l_iload_n G dL_law_180 3 rfl rfl ?_
      refine l_iconst G (1 : Int32) dL_law_181 kc_1 ?_
      refine l_iadd G dL_law_182 ?_
      refine l_sld G hX hbl (hin 1 (by omega)) dL_law_183 ?_
      refine l_aload_n G dL_law_184 0 rfl rfl ?_
      refine l_iload_n G dL_law_185 3 rfl rfl ?_
      refine l_iconst G (2 : Int32) dL_law_186 kc_2 ?_
      refine l_iadd G dL_law_187 ?_
      refine l_sld G hX hbl (hin 2 (by omega)) dL_law_188 ?_
      refine l_aload_n G dL_law_189 0 rfl rfl ?_
      refine l_iload_n G dL_law_190 3 rfl rfl ?_
      refine l_iconst G (3 : Int32) dL_law_191 kc_3 ?_
      refine l_iadd G dL_law_192 ?_
      refine l_sld G hX hbl (hin 3 (by omega)) dL_law_193 ?_
      rw [hp1]
      rw [hp2]
      rw [hp3]
      refine l_cM G [.int p1, .int p2, .int p3] [.int r] (c_X7_bent (k_l Γ) (k_D Γ) _ cI cZ _ _ _ _ _ h) (cwV 3 G.2.2.2.2.1 gL_law_X7_bent rfl rfl rfl hdv_X7_bent ⟨Nat.le_of_ble_eq_true rfl, Nat.le_of_ble_eq_true rfl⟩) [0, 2] rfl rfl rfl (Nat.le_of_ble_eq_true rfl) ⟨hc0 0 (Nat.zero_le _), hs0 0 (Nat.zero_le _)⟩ dL_law_194 (fun r' τ' h => ?_)
      refine l_icmp_eq_t G 577 dL_law_197 (by decide) h.1 ?_
      exact next _ _ _ _ _ _ _ _ _ (by omega) (by omega) h.2
    rcases Classical.em (op = (2 : Int32)) with hs_2 | hs_2
    · refine l_tableIn G 202 dL_law_32 2 (khit hs_2 kt_2) (by decide) (by decide) (off := 170) rfl (by decide) ?_
      refine l_aload_n G dL_law_202 1 rfl rfl ?_
      refine l_aload_n G dL_law_203 0 rfl rfl ?_
      refine l_iload_n G dL_law_204 3 rfl rfl ?_
      refine l_iconst G (1 : Int32) dL_law_205 kc_1 ?_
      refine l_iadd G dL_law_206 ?_
      refine l_sld G hX hbl (hin 1 (by omega)) dL_law_207 ?_
      refine l_aload_n G dL_law_208 0 rfl rfl ?_
      refine l_iload_n G dL_law_209 3 rfl rfl ?_
      refine l_iconst G (2 : Int32) dL_law_210 kc_2 ?_
      refine l_iadd G dL_law_211 ?_
      refine l_sld G hX hbl (hin 2 (by omega)) dL_law_212 ?_
      generalize hp1 : xs (x3 + (1 : Int32)).toNatClampNeg = p1
      generalize hp2 : xs (x3 + (2 : Int32)).toNatClampNeg = p2
      have h := (S.2.2.1 _ σ ρ τ p1 p2 hR)
      refine l_cR G (ci := 4) (cq := (RX6, TX6, 4)) [.int p1, .int p2] [] (c_X6_member (k_l Γ) (k_D Γ) a cI cO gI _ _ _ _ h) 0 rfl wC_0 (cwV 2 G.2.2.2.2.1 gL_law_X6_member rfl rfl rfl hdv_X6_member ⟨Nat.le_of_ble_eq_true rfl, Nat.le_of_ble_eq_true rfl⟩) [0, 1] rfl (fun _ h => h.1) rfl rfl (Nat.le_of_ble_eq_true rfl) ⟨hc0 0 (Nat.zero_le _), hs0 0 (Nat.zero_le _)⟩ dL_law_213 (fun r h => ?_)
      refine l_aload_n G dL_law_216 2 rfl rfl ?_
      refine l_aload_n G dL_law_217 0 rfl rfl ?_
      refine l_iload_n G dL_law_218 3 rfl rfl ?_
      refine l_iconst G (1 : Int32) dL_law_219 kc_1 ?_
      refine l_iadd G dL_law_220 ?_
      refine l_sld G hX hbl (hin 1 (by omega)) dL_law_221 ?_
      refine l_aload_n G dL_law_222 0 rfl rfl ?_
      refine l_iload_n G dL_law_223 3 rfl rfl ?_
      refine l_iconst G (2 : Int32) dL_law_224 kc_2 ?_
      refine l_iadd G dL_law_225 ?_
      refine l_sld G hX hbl (hin 2 (by omega)) dL_law_226 ?_
      rw [hp1]
      rw [hp2]
      refine l_cR G (ci := 5) (cq := (RX7, TX7, 9)) [.int p1, .int p2] [.int r] (c_X7_member (k_l Γ) (k_D Γ) _ cI cZ _ _ _ _ h) 0 rfl wM_0 (cwV 2 G.2.2.2.2.1 gL_law_X7_member rfl rfl rfl hdv_X7_member ⟨Nat.le_of_ble_eq_true rfl, Nat.le_of_ble_eq_true rfl⟩) [0, 2] rfl (fun _ h => h.2.1) rfl rfl (Nat.le_of_ble_eq_true rfl) ⟨hc0 0 (Nat.zero_le _), hs0 0 (Nat.zero_le _)⟩ dL_law_227 (fun r' h => ?_)
      refine l_icmp_eq_t G 577 dL_law_230 (by decide) h.1 ?_
      exact next _ _ _ _ _ _ _ _ _ (by omega) (by omega) h.2
    rcases Classical.em (op = (3 : Int32)) with hs_3 | hs_3
    · refine l_tableIn G 235 dL_law_32 3 (khit hs_3 kt_3) (by decide) (by decide) (off := 203) rfl (by decide) ?_
      refine l_aload_n G dL_law_235 1 rfl rfl ?_
      refine l_aload_n G dL_law_236 0 rfl rfl ?_
      refine l_iload_n G dL_law_237 3 rfl rfl ?_
      refine l_iconst G (1 : Int32) dL_law_238 kc_1 ?_
      refine l_iadd G dL_law_239 ?_
      refine l_sld G hX hbl (hin 1 (by omega)) dL_law_240 ?_
      generalize hp1 : xs (x3 + (1 : Int32)).toNatClampNeg = p1
      have h := (S.2.2.2.1 _ σ ρ τ p1 hR)
      refine l_cC G [.int p1] [] (c_X6_say (k_l Γ) (k_D Γ) a cI cO gI _ _ _ h) (cwV 1 G.2.2.2.2.1 gL_law_X6_say rfl rfl rfl hdv_X6_say ⟨Nat.le_of_ble_eq_true rfl, Nat.le_of_ble_eq_true rfl⟩) [0, 1] rfl rfl rfl (Nat.le_of_ble_eq_true rfl) ⟨hc0 0 (Nat.zero_le _), hs0 0 (Nat.zero_le _)⟩ dL_law_241 (fun r σ' h => ?_)
      refine l_aload_n G dL_law_244 2 rfl rfl ?_
      refine l_aload_n G dL_law_245 0 rfl rfl ?_
      refine l_iload_n G dL_law_246 3 rfl rfl ?_
      refine l_iconst G (1 : Int32) dL_law_247 kc_1 ?_
      refine l_iadd G dL_law_248 ?_
      refine l_sld G hX hbl (hin 1 (by omega)) dL_law_249 ?_
      rw [hp1]
      refine l_cM G [.int p1] [.int r] (c_X7_say (k_l Γ) (k_D Γ) _ cI cZ _ _ _ h) (cwV 1 G.2.2.2.2.1 gL_law_X7_say rfl rfl rfl hdv_X7_say ⟨Nat.le_of_ble_eq_true rfl, Nat.le_of_ble_eq_true rfl⟩) [0, 2] rfl rfl rfl (Nat.le_of_ble_eq_true rfl) ⟨hc0 0 (Nat.zero_le _), hs0 0 (Nat.zero_le _)⟩ dL_law_250 (fun r' τ' h => ?_)
      refine l_icmp_eq_t G 577 dL_law_253 (by decide) h.1 ?_
      exact next _ _ _ _ _ _ _ _ _ (by omega) (by omega) h.2
    rcases Classical.em (op = (4 : Int32)) with hs_4 | hs_4
    · refine l_tableIn G 258 dL_law_32 4 (khit hs_4 kt_4) (by decide) (by decide) (off := 226) rfl (by decide) ?_
      refine l_aload_n G dL_law_258 1 rfl rfl ?_
      have h := (S.2.2.2.2.1 _ σ ρ τ hR)
      refine l_cC G [] [] (c_X6_wipe (k_l Γ) (k_D Γ) a cI cO gI _ _ h) (cwV 0 G.2.2.2.2.1 gL_law_X6_wipe rfl rfl rfl hdv_X6_wipe ⟨Nat.le_of_ble_eq_true rfl, Nat.le_of_ble_eq_true rfl⟩) [0, 1] rfl rfl rfl (Nat.le_of_ble_eq_true rfl) ⟨hc0 0 (Nat.zero_le _), hs0 0 (Nat.zero_le _)⟩ dL_law_259 (fun r σ' h => ?_)
      refine l_aload_n G dL_law_262 2 rfl rfl ?_
      refine l_cM G [] [.int r] (c_X7_wipe (k_l Γ) (k_D Γ) _ cI cZ _ _ h) (cwV 0 G.2.2.2.2.1 gL_law_X7_wipe rfl rfl rfl hdv_X7_wipe ⟨Nat.le_of_ble_eq_true rfl, Nat.le_of_ble_eq_true rfl⟩) [0, 2] rfl rfl rfl (Nat.le_of_ble_eq_true rfl) ⟨hc0 0 (Nat.zero_le _), hs0 0 (Nat.zero_le _)⟩ dL_law_263 (fun r' τ' h => ?_)
      refine l_icmp_eq_t G 577 dL_law_266 (by decide) h.1 ?_
      exact next _ _ _ _ _ _ _ _ _ (by omega) (by omega) h.2
    rcases Classical.em (op = (5 : Int32)) with hs_5 | hs_5
    · refine l_tableIn G 271 dL_law_32 5 (khit hs_5 kt_5) (by decide) (by decide) (off := 239) rfl (by decide) ?_
      refine l_aload_n G dL_law_271 1 rfl rfl ?_
      have h := (S.2.2.2.2.2.1 _ σ ρ τ hR)
      refine l_cR G (ci := 4) (cq := (RX6, TX6, 4)) [] [] (c_X6_fault (k_l Γ) (k_D Γ) a cI cO gI _ _ h) 0 rfl wC_0 (cwV 0 G.2.2.2.2.1 gL_law_X6_fault rfl rfl rfl hdv_X6_fault ⟨Nat.le_of_ble_eq_true rfl, Nat.le_of_ble_eq_true rfl⟩) [0, 1] rfl (fun _ h => h.1) rfl rfl (Nat.le_of_ble_eq_true rfl) ⟨hc0 0 (Nat.zero_le _), hs0 0 (Nat.zero_le _)⟩ dL_law_272 (fun r h => ?_)
      refine l_aload_n G dL_law_275 2 rfl rfl ?_
      refine l_cR G (ci := 5) (cq := (RX7, TX7, 9)) [] [.int r] (c_X7_fault (k_l Γ) (k_D Γ) _ cI cZ _ _ h) 0 rfl wM_0 (cwV 0 G.2.2.2.2.1 gL_law_X7_fault rfl rfl rfl hdv_X7_fault ⟨Nat.le_of_ble_eq_true rfl, Nat.le_of_ble_eq_true rfl⟩) [0, 2] rfl (fun _ h => h.2.1) rfl rfl (Nat.le_of_ble_eq_true rfl) ⟨hc0 0 (Nat.zero_le _), hs0 0 (Nat.zero_le _)⟩ dL_law_276 (fun r' h => ?_)
      refine l_icmp_eq_t G 577 dL_law_279 (by decide) h.1 ?_
      exact next _ _ _ _ _ _ _ _ _ (by omega) (by omega) h.2
    rcases Classical.em (op = (6 : Int32)) with hs_6 | hs_6
    · refine l_tableIn G 284 dL_law_32 6 (khit hs_6 kt_6) (by decide) (by decide) (off := 252) rfl (by decide) ?_
      refine l_aload_n G dL_law_284 1 rfl rfl ?_
      have h := (S.2.2.2.2.2.2.1 _ σ ρ τ hR)
      refine l_cC G [] [] (c_X6_act (k_l Γ) (k_D Γ) a cI cO gI _ _ h) (cwV 0 G.2.2.2.2.1 gL_law_X6_act rfl rfl rfl hdv_X6_act ⟨Nat.le_of_ble_eq_true rfl, Nat.le_of_ble_eq_true rfl⟩) [0, 1] rfl rfl rfl (Nat.le_of_ble_eq_true rfl) ⟨hc0 0 (Nat.zero_le _), hs0 0 (Nat.zero_le _)⟩ dL_law_285 (fun r σ' h => ?_)
      refine l_aload_n G dL_law_288 2 rfl rfl ?_
      refine l_cM G [] [.int r] (c_X7_act (k_l Γ) (k_D Γ) _ cI cZ _ _ h) (cwV 0 G.2.2.2.2.1 gL_law_X7_act rfl rfl rfl hdv_X7_act ⟨Nat.le_of_ble_eq_true rfl, Nat.le_of_ble_eq_true rfl⟩) [0, 2] rfl rfl rfl (Nat.le_of_ble_eq_true rfl) ⟨hc0 0 (Nat.zero_le _), hs0 0 (Nat.zero_le _)⟩ dL_law_289 (fun r' τ' h => ?_)
      refine l_icmp_eq_t G 577 dL_law_292 (by decide) h.1 ?_
      exact next _ _ _ _ _ _ _ _ _ (by omega) (by omega) h.2
    rcases Classical.em (op = (7 : Int32)) with hs_7 | hs_7
    · refine l_tableIn G 297 dL_law_32 7 (khit hs_7 kt_7) (by decide) (by decide) (off := 265) rfl (by decide) ?_
      refine l_aload_n G dL_law_297 1 rfl rfl ?_
      refine l_aload_n G dL_law_298 0 rfl rfl ?_
      refine l_iload_n G dL_law_299 3 rfl rfl ?_
      refine l_iconst G (1 : Int32) dL_law_300 kc_1 ?_
      refine l_iadd G dL_law_301 ?_
      refine l_sld G hX hbl (hin 1 (by omega)) dL_law_302 ?_
      generalize hp1 : xs (x3 + (1 : Int32)).toNatClampNeg = p1
      have h := (S.2.2.2.2.2.2.2.1 _ σ ρ τ p1 hR)
      refine l_cR G (ci := 4) (cq := (RX6, TX6, 4)) [.int p1] [] (c_X6_named (k_l Γ) (k_D Γ) a cI cO gI _ _ _ h) 0 rfl wC_0 (cwV 1 G.2.2.2.2.1 gL_law_X6_named rfl rfl rfl hdv_X6_named ⟨Nat.le_of_ble_eq_true rfl, Nat.le_of_ble_eq_true rfl⟩) [0, 1] rfl (fun _ h => h.1) rfl rfl (Nat.le_of_ble_eq_true rfl) ⟨hc0 0 (Nat.zero_le _), hs0 0 (Nat.zero_le _)⟩ dL_law_303 (fun r h => ?_)
      refine l_aload_n G dL_law_306 2 rfl rfl ?_
      refine l_aload_n G dL_law_307 0 rfl rfl ?_
      refine l_iload_n G dL_law_308 3 rfl rfl ?_
      refine l_iconst G (1 : Int32) dL_law_309 kc_1 ?_
      refine l_iadd G dL_law_310 ?_
      refine l_sld G hX hbl (hin 1 (by omega)) dL_law_311 ?_
      rw [hp1]
      refine l_cR G (ci := 5) (cq := (RX7, TX7, 9)) [.int p1] [.int r] (c_X7_named (k_l Γ) (k_D Γ) _ cI cZ _ _ _ h) 0 rfl wM_0 (cwV 1 G.2.2.2.2.1 gL_law_X7_named rfl rfl rfl hdv_X7_named ⟨Nat.le_of_ble_eq_true rfl, Nat.le_of_ble_eq_true rfl⟩) [0, 2] rfl (fun _ h => h.2.1) rfl rfl (Nat.le_of_ble_eq_true rfl) ⟨hc0 0 (Nat.zero_le _), hs0 0 (Nat.zero_le _)⟩ dL_law_312 (fun r' h => ?_)
      refine l_icmp_eq_t G 577 dL_law_315 (by decide) h.1 ?_
      exact next _ _ _ _ _ _ _ _ _ (by omega) (by omega) h.2
    rcases Classical.em (op = (8 : Int32)) with hs_8 | hs_8
    · refine l_tableIn G 320 dL_law_32 8 (khit hs_8 kt_8) (by decide) (by decide) (off := 288) rfl (by decide) ?_
      refine l_aload_n G dL_law_320 1 rfl rfl ?_
      refine l_aload_n G dL_law_321 0 rfl rfl ?_
      refine l_iload_n G dL_law_322 3 rfl rfl ?_
      refine l_iconst G (1 : Int32) dL_law_323 kc_1 ?_
      refine l_iadd G dL_law_324 ?_
      refine l_sld G hX hbl (hin 1 (by omega)) dL_law_325 ?_
      refine l_aload_n G dL_law_326 0 rfl rfl ?_
      refine l_iload_n G dL_law_327 3 rfl rfl ?_
      refine l_iconst G (2 : Int32) dL_law_328 kc_2 ?_
      refine l_iadd G dL_law_329 ?_
      refine l_sld G hX hbl (hin 2 (by omega)) dL_law_330 ?_
      generalize hp1 : xs (x3 + (1 : Int32)).toNatClampNeg = p1
      generalize hp2 : xs (x3 + (2 : Int32)).toNatClampNeg = p2
      have h := (S.2.2.2.2.2.2.2.2.1 _ σ ρ τ p1 p2 hR)
      refine l_cR G (ci := 4) (cq := (RX6, TX6, 4)) [.int p1, .int p2] [] (c_X6_fits (k_l Γ) (k_D Γ) a cI cO gI _ _ _ _ h) 0 rfl wC_0 (cwV 2 G.2.2.2.2.1 gL_law_X6_fits rfl rfl rfl hdv_X6_fits ⟨Nat.le_of_ble_eq_true rfl, Nat.le_of_ble_eq_true rfl⟩) [0, 1] rfl (fun _ h => h.1) rfl rfl (Nat.le_of_ble_eq_true rfl) ⟨hc0 0 (Nat.zero_le _), hs0 0 (Nat.zero_le _)⟩ dL_law_331 (fun r h => ?_)
      refine l_aload_n G dL_law_334 2 rfl rfl ?_
      refine l_aload_n G dL_law_335 0 rfl rfl ?_
      refine l_iload_n G dL_law_336 3 rfl rfl ?_
      refine l_iconst G (1 : Int32) dL_law_337 kc_1 ?_
      refine l_iadd G dL_law_338 ?_
      refine l_sld G hX hbl (hin 1 (by omega)) dL_law_339 ?_
      refine l_aload_n G dL_law_340 0 rfl rfl ?_
      refine l_iload_n G dL_law_341 3 rfl rfl ?_
      refine l_iconst G (2 : Int32) dL_law_342 kc_2 ?_
      refine l_iadd G dL_law_343 ?_
      refine l_sld G hX hbl (hin 2 (by omega)) dL_law_344 ?_
      rw [hp1]
      rw [hp2]
      refine l_cR G (ci := 5) (cq := (RX7, TX7, 9)) [.int p1, .int p2] [.int r] (c_X7_fits (k_l Γ) (k_D Γ) _ cI cZ _ _ _ _ h) 0 rfl wM_0 (cwV 2 G.2.2.2.2.1 gL_law_X7_fits rfl rfl rfl hdv_X7_fits ⟨Nat.le_of_ble_eq_true rfl, Nat.le_of_ble_eq_true rfl⟩) [0, 2] rfl (fun _ h => h.2.1) rfl rfl (Nat.le_of_ble_eq_true rfl) ⟨hc0 0 (Nat.zero_le _), hs0 0 (Nat.zero_le _)⟩ dL_law_345 (fun r' h => ?_)
      refine l_icmp_eq_t G 577 dL_law_348 (by decide) h.1 ?_
      exact next _ _ _ _ _ _ _ _ _ (by omega) (by omega) h.2
    rcases Classical.em (op = (9 : Int32)) with hs_9 | hs_9
    · refine l_tableIn G 353 dL_law_32 9 (khit hs_9 kt_9) (by decide) (by decide) (off := 321) rfl (by decide) ?_
      refine l_aload_n G dL_law_353 1 rfl rfl ?_
      refine l_aload_n G dL_law_354 0 rfl rfl ?_
      refine l_iload_n G dL_law_355 3 rfl rfl ?_
      refine l_iconst G (1 : Int32) dL_law_356 kc_1 ?_
      refine l_iadd G dL_law_357 ?_
      refine l_sld G hX hbl (hin 1 (by omega)) dL_law_358 ?_
      generalize hp1 : xs (x3 + (1 : Int32)).toNatClampNeg = p1
      have h := (S.2.2.2.2.2.2.2.2.2.1 _ σ ρ τ p1 hR)
      refine l_cR G (ci := 4) (cq := (RX6, TX6, 4)) [.int p1] [] (c_X6_seal (k_l Γ) (k_D Γ) a cI cO gI _ _ _ h) 0 rfl wC_0 (cwV 1 G.2.2.2.2.1 gL_law_X6_seal rfl rfl rfl hdv_X6_seal ⟨Nat.le_of_ble_eq_true rfl, Nat.le_of_ble_eq_true rfl⟩) [0, 1] rfl (fun _ h => h.1) rfl rfl (Nat.le_of_ble_eq_true rfl) ⟨hc0 0 (Nat.zero_le _), hs0 0 (Nat.zero_le _)⟩ dL_law_359 (fun r h => ?_)
      refine l_aload_n G dL_law_362 2 rfl rfl ?_
      refine l_aload_n G dL_law_363 0 rfl rfl ?_
      refine l_iload_n G dL_law_364 3 rfl rfl ?_
      refine l_iconst G (1 : Int32) dL_law_365 kc_1 ?_
      refine l_iadd G dL_law_366 ?_
      refine l_sld G hX hbl (hin 1 (by omega)) dL_law_367 ?_
      rw [hp1]
      refine l_cR G (ci := 5) (cq := (RX7, TX7, 9)) [.int p1] [.int r] (c_X7_seal (k_l Γ) (k_D Γ) _ cI cZ _ _ _ h) 0 rfl wM_0 (cwV 1 G.2.2.2.2.1 gL_law_X7_seal rfl rfl rfl hdv_X7_seal ⟨Nat.le_of_ble_eq_true rfl, Nat.le_of_ble_eq_true rfl⟩) [0, 2] rfl (fun _ h => h.2.1) rfl rfl (Nat.le_of_ble_eq_true rfl) ⟨hc0 0 (Nat.zero_le _), hs0 0 (Nat.zero_le _)⟩ dL_law_368 (fun r' h => ?_)
      refine l_icmp_eq_t G 577 dL_law_371 (by decide) h.1 ?_
      exact next _ _ _ _ _ _ _ _ _ (by omega) (by omega) h.2
    rcases Classical.em (op = (10 : Int32)) with hs_10 | hs_10
    · refine l_tableIn G 376 dL_law_32 10 (khit hs_10 kt_10) (by decide) (by decide) (off := 344) rfl (by decide) ?_
      refine l_aload_n G dL_law_376 1 rfl rfl ?_
      refine l_aload_n G dL_law_377 0 rfl rfl ?_
      refine l_iload_n G dL_law_378 3 rfl rfl ?_
      refine l_iconst G (1 : Int32) dL_law_379 kc_1 ?_
      refine l_iadd G dL_law_380 ?_
      refine l_sld G hX hbl (hin 1 (by omega)) dL_law_381 ?_
      refine l_aload_n G dL_law_382 0 rfl rfl ?_
      refine l_iload_n G dL_law_383 3 rfl rfl ?_
      refine l_iconst G (2 : Int32) dL_law_384 kc_2 ?_
      refine l_iadd G dL_law_385 ?_
      refine l_sld G hX hbl (hin 2 (by omega)) dL_law_386 ?_
      refine l_aload_n G dL_law_387 0 rfl rfl ?_
      refine l_iload_n G dL_law_388 3 rfl rfl ?_
      refine l_iconst G (3 : Int32) dL_law_389 kc_3 ?_
      refine l_iadd G dL_law_390 ?_
      refine l_sld G hX hbl (hin 3 (by omega)) dL_law_391 ?_
      generalize hp1 : xs (x3 + (1 : Int32)).toNatClampNeg = p1
      generalize hp2 : xs (x3 + (2 : Int32)).toNatClampNeg = p2
      generalize hp3 : xs (x3 + (3 : Int32)).toNatClampNeg = p3
      have h := (S.2.2.2.2.2.2.2.2.2.2.1 _ σ ρ τ p1 p2 p3 hR)
      refine l_cR G (ci := 4) (cq := (RX6, TX6, 4)) [.int p1, .int p2, .int p3] [] (c_X6_weighs (k_l Γ) (k_D Γ) a cI cO gI _ _ _ _ _ h) 0 rfl wC_0 (cwV 3 G.2.2.2.2.1 gL_law_X6_weighs rfl rfl rfl hdv_X6_weighs ⟨Nat.le_of_ble_eq_true rfl, Nat.le_of_ble_eq_true rfl⟩) [0, 1] rfl (fun _ h => h.1) rfl rfl (Nat.le_of_ble_eq_true rfl) ⟨hc0 0 (Nat.zero_le _), hs0 0 (Nat.zero_le _)⟩ dL_law_392 (fun r h => ?_)
      refine l_aload_n G dL_law_395 2 rfl rfl ?_
      refine l_aload_n G dL_law_396 0 rfl rfl ?_
      refine l_iload_n G dL_law_397 3 rfl rfl ?_
      refine l_iconst G (1 : Int32) dL_law_398 kc_1 ?_
      refine l_iadd G dL_law_399 ?_
      refine l_sld G hX hbl (hin 1 (by omega)) dL_law_400 ?_
      refine l_aload_n G dL_law_401 0 rfl rfl ?_
      refine l_iload_n G dL_law_402 3 rfl rfl ?_
      refine l_iconst G (2 : Int32) dL_law_403 kc_2 ?_
      refine l_iadd G dL_law_404 ?_
      refine l_sld G hX hbl (hin 2 (by omega)) dL_law_405 ?_
      refine l_aload_n G dL_law_406 0 rfl rfl ?_
      refine l_iload_n G dL_law_407 3 rfl rfl ?_
      refine l_iconst G (3 : Int32) dL_law_408 kc_3 ?_
      refine l_iadd G dL_law_409 ?_
      refine l_sld G hX hbl (hin 3 (by omega)) dL_law_410 ?_
      rw [hp1]
      rw [hp2]
      rw [hp3]
      refine l_cR G (ci := 5) (cq := (RX7, TX7, 9)) [.int p1, .int p2, .int p3] [.int r] (c_X7_weighs (k_l Γ) (k_D Γ) _ cI cZ _ _ _ _ _ h) 0 rfl wM_0 (cwV 3 G.2.2.2.2.1 gL_law_X7_weighs rfl rfl rfl hdv_X7_weighs ⟨Nat.le_of_ble_eq_true rfl, Nat.le_of_ble_eq_true rfl⟩) [0, 2] rfl (fun _ h => h.2.1) rfl rfl (Nat.le_of_ble_eq_true rfl) ⟨hc0 0 (Nat.zero_le _), hs0 0 (Nat.zero_le _)⟩ dL_law_411 (fun r' h => ?_)
      refine l_icmp_eq_t G 577 dL_law_414 (by decide) h.1 ?_
      exact next _ _ _ _ _ _ _ _ _ (by omega) (by omega) h.2
    rcases Classical.em (op = (11 : Int32)) with hs_11 | hs_11
    · refine l_tableIn G 419 dL_law_32 11 (khit hs_11 kt_11) (by decide) (by decide) (off := 387) rfl (by decide) ?_
      refine l_aload_n G dL_law_419 1 rfl rfl ?_
      refine l_aload_n G dL_law_420 0 rfl rfl ?_
      refine l_iload_n G dL_law_421 3 rfl rfl ?_
      refine l_iconst G (1 : Int32) dL_law_422 kc_1 ?_
      refine l_iadd G dL_law_423 ?_
      refine l_sld G hX hbl (hin 1 (by omega)) dL_law_424 ?_
      refine l_aload_n G dL_law_425 0 rfl rfl ?_
      refine l_iload_n G dL_law_426 3 rfl rfl ?_
      refine l_iconst G (2 : Int32) dL_law_427 kc_2 ?_
      refine l_iadd G dL_law_428 ?_
      refine l_sld G hX hbl (hin 2 (by omega)) dL_law_429 ?_
      generalize hp1 : xs (x3 + (1 : Int32)).toNatClampNeg = p1
      generalize hp2 : xs (x3 + (2 : Int32)).toNatClampNeg = p2
      have h := (S.2.2.2.2.2.2.2.2.2.2.2.1 _ σ ρ τ p1 p2 hR)
      refine l_cR G (ci := 4) (cq := (RX6, TX6, 4)) [.int p1, .int p2] [] (c_X6_loot (k_l Γ) (k_D Γ) a cI cO gI _ _ _ _ h) 0 rfl wC_0 (cwV 2 G.2.2.2.2.1 gL_law_X6_loot rfl rfl rfl hdv_X6_loot ⟨Nat.le_of_ble_eq_true rfl, Nat.le_of_ble_eq_true rfl⟩) [0, 1] rfl (fun _ h => h.1) rfl rfl (Nat.le_of_ble_eq_true rfl) ⟨hc0 0 (Nat.zero_le _), hs0 0 (Nat.zero_le _)⟩ dL_law_430 (fun r h => ?_)
      refine l_aload_n G dL_law_433 2 rfl rfl ?_
      refine l_aload_n G dL_law_434 0 rfl rfl ?_
      refine l_iload_n G dL_law_435 3 rfl rfl ?_
      refine l_iconst G (1 : Int32) dL_law_436 kc_1 ?_
      refine l_iadd G dL_law_437 ?_
      refine l_sld G hX hbl (hin 1 (by omega)) dL_law_438 ?_
      refine l_aload_n G dL_law_439 0 rfl rfl ?_
      refine l_iload_n G dL_law_440 3 rfl rfl ?_
      refine l_iconst G (2 : Int32) dL_law_441 kc_2 ?_
      refine l_iadd G dL_law_442 ?_
      refine l_sld G hX hbl (hin 2 (by omega)) dL_law_443 ?_
      rw [hp1]
      rw [hp2]
      refine l_cR G (ci := 5) (cq := (RX7, TX7, 9)) [.int p1, .int p2] [.int r] (c_X7_loot (k_l Γ) (k_D Γ) _ cI cZ _ _ _ _ h) 0 rfl wM_0 (cwV 2 G.2.2.2.2.1 gL_law_X7_loot rfl rfl rfl hdv_X7_loot ⟨Nat.le_of_ble_eq_true rfl, Nat.le_of_ble_eq_true rfl⟩) [0, 2] rfl (fun _ h => h.2.1) rfl rfl (Nat.le_of_ble_eq_true rfl) ⟨hc0 0 (Nat.zero_le _), hs0 0 (Nat.zero_le _)⟩ dL_law_444 (fun r' h => ?_)
      refine l_icmp_eq_t G 577 dL_law_447 (by decide) h.1 ?_
      exact next _ _ _ _ _ _ _ _ _ (by omega) (by omega) h.2
    rcases Classical.em (op = (12 : Int32)) with hs_12 | hs_12
    · refine l_tableIn G 452 dL_law_32 12 (khit hs_12 kt_12) (by decide) (by decide) (off := 420) rfl (by decide) ?_
      refine l_aload_n G dL_law_452 1 rfl rfl ?_
      refine l_aload_n G dL_law_453 0 rfl rfl ?_
      refine l_iload_n G dL_law_454 3 rfl rfl ?_
      refine l_iconst G (1 : Int32) dL_law_455 kc_1 ?_
      refine l_iadd G dL_law_456 ?_
      refine l_sld G hX hbl (hin 1 (by omega)) dL_law_457 ?_
      refine l_aload_n G dL_law_458 0 rfl rfl ?_
      refine l_iload_n G dL_law_459 3 rfl rfl ?_
      refine l_iconst G (2 : Int32) dL_law_460 kc_2 ?_
      refine l_iadd G dL_law_461 ?_
      refine l_sld G hX hbl (hin 2 (by omega)) dL_law_462 ?_
      generalize hp1 : xs (x3 + (1 : Int32)).toNatClampNeg = p1
      generalize hp2 : xs (x3 + (2 : Int32)).toNatClampNeg = p2
      have h := (S.2.2.2.2.2.2.2.2.2.2.2.2.1 _ σ ρ τ p1 p2 hR)
      refine l_cC G [.int p1, .int p2] [] (c_X6_worlds (k_l Γ) (k_D Γ) a cI cO gI _ _ _ _ h) (cwV 2 G.2.2.2.2.1 gL_law_X6_worlds rfl rfl rfl hdv_X6_worlds ⟨Nat.le_of_ble_eq_true rfl, Nat.le_of_ble_eq_true rfl⟩) [0, 1] rfl rfl rfl (Nat.le_of_ble_eq_true rfl) ⟨hc0 0 (Nat.zero_le _), hs0 0 (Nat.zero_le _)⟩ dL_law_463 (fun r σ' h => ?_)
      refine l_aload_n G dL_law_466 2 rfl rfl ?_
      refine l_aload_n G dL_law_467 0 rfl rfl ?_
      refine l_iload_n G dL_law_468 3 rfl rfl ?_
      refine l_iconst G (1 : Int32) dL_law_469 kc_1 ?_
      refine l_iadd G dL_law_470 ?_
      refine l_sld G hX hbl (hin 1 (by omega)) dL_law_471 ?_
      refine l_aload_n G dL_law_472 0 rfl rfl ?_
      refine l_iload_n G dL_law_473 3 rfl rfl ?_
      refine l_iconst G (2 : Int32) dL_law_474 kc_2 ?_
      refine l_iadd G dL_law_475 ?_
      refine l_sld G hX hbl (hin 2 (by omega)) dL_law_476 ?_
      rw [hp1]
      rw [hp2]
      refine l_cM G [.int p1, .int p2] [.int r] (c_X7_worlds (k_l Γ) (k_D Γ) _ cI cZ _ _ _ _ h) (cwV 2 G.2.2.2.2.1 gL_law_X7_worlds rfl rfl rfl hdv_X7_worlds ⟨Nat.le_of_ble_eq_true rfl, Nat.le_of_ble_eq_true rfl⟩) [0, 2] rfl rfl rfl (Nat.le_of_ble_eq_true rfl) ⟨hc0 0 (Nat.zero_le _), hs0 0 (Nat.zero_le _)⟩ dL_law_477 (fun r' τ' h => ?_)
      refine l_icmp_eq_t G 577 dL_law_480 (by decide) h.1 ?_
      exact next _ _ _ _ _ _ _ _ _ (by omega) (by omega) h.2
    rcases Classical.em (op = (13 : Int32)) with hs_13 | hs_13
    · refine l_tableIn G 485 dL_law_32 13 (khit hs_13 kt_13) (by decide) (by decide) (off := 453) rfl (by decide) ?_
      refine l_aload_n G dL_law_485 1 rfl rfl ?_
      refine l_aload_n G dL_law_486 0 rfl rfl ?_
      refine l_iload_n G dL_law_487 3 rfl rfl ?_
      refine l_iconst G (1 : Int32) dL_law_488 kc_1 ?_
      refine l_iadd G dL_law_489 ?_
      refine l_sld G hX hbl (hin 1 (by omega)) dL_law_490 ?_
      generalize hp1 : xs (x3 + (1 : Int32)).toNatClampNeg = p1
      have h := (S.2.2.2.2.2.2.2.2.2.2.2.2.2.1 _ σ ρ τ p1 hR)
      refine l_cC G [.int p1] [] (c_X6_thief (k_l Γ) (k_D Γ) a cI cO gI _ _ _ h) (cwV 1 G.2.2.2.2.1 gL_law_X6_thief rfl rfl rfl hdv_X6_thief ⟨Nat.le_of_ble_eq_true rfl, Nat.le_of_ble_eq_true rfl⟩) [0, 1] rfl rfl rfl (Nat.le_of_ble_eq_true rfl) ⟨hc0 0 (Nat.zero_le _), hs0 0 (Nat.zero_le _)⟩ dL_law_491 (fun r σ' h => ?_)
      refine l_aload_n G dL_law_494 2 rfl rfl ?_
      refine l_aload_n G dL_law_495 0 rfl rfl ?_
      refine l_iload_n G dL_law_496 3 rfl rfl ?_
      refine l_iconst G (1 : Int32) dL_law_497 kc_1 ?_
      refine l_iadd G dL_law_498 ?_
      refine l_sld G hX hbl (hin 1 (by omega)) dL_law_499 ?_
      rw [hp1]
      refine l_cR G (ci := 5) (cq := (RX7, TX7, 9)) [.int p1] [.int r] (c_X7_thief (k_l Γ) (k_D Γ) _ cI cZ _ _ _ h) 0 rfl wM_0 (cwV 1 G.2.2.2.2.1 gL_law_X7_thief rfl rfl rfl hdv_X7_thief ⟨Nat.le_of_ble_eq_true rfl, Nat.le_of_ble_eq_true rfl⟩) [0, 2] rfl (fun _ h => h.2.1) rfl rfl (Nat.le_of_ble_eq_true rfl) ⟨hc0 0 (Nat.zero_le _), hs0 0 (Nat.zero_le _)⟩ dL_law_500 (fun r' h => ?_)
      refine l_icmp_eq_t G 577 dL_law_503 (by decide) h.1 ?_
      exact next _ _ _ _ _ _ _ _ _ (by omega) (by omega) h.2
    rcases Classical.em (op = (14 : Int32)) with hs_14 | hs_14
    · refine l_tableIn G 508 dL_law_32 14 (khit hs_14 kt_14) (by decide) (by decide) (off := 476) rfl (by decide) ?_
      refine l_aload_n G dL_law_508 1 rfl rfl ?_
      refine l_aload_n G dL_law_509 0 rfl rfl ?_
      refine l_iload_n G dL_law_510 3 rfl rfl ?_
      refine l_iconst G (1 : Int32) dL_law_511 kc_1 ?_
      refine l_iadd G dL_law_512 ?_
      refine l_sld G hX hbl (hin 1 (by omega)) dL_law_513 ?_
      generalize hp1 : xs (x3 + (1 : Int32)).toNatClampNeg = p1
      rcases Classical.em (p1 < 0 ∨ ¬ p1 < 2) with ho | ho
      · refine l_cR G (ci := 4) (cq := (RX6, TX6, 4)) [.int p1] [] (c_X6_image_out (k_l Γ) (k_D Γ) a cI cO gI σ p1 (fun r => r = -2) ⟨ho, rfl⟩) 0 rfl wC_0 (cwV 1 G.2.2.2.2.1 gL_law_X6_image rfl rfl rfl hdv_X6_image ⟨Nat.le_of_ble_eq_true rfl, Nat.le_of_ble_eq_true rfl⟩) [0, 1] rfl (fun _ h => h.1) rfl rfl (Nat.le_of_ble_eq_true rfl) ⟨hc0 0 (Nat.zero_le _), hs0 0 (Nat.zero_le _)⟩ dL_law_514 (fun r hr => ?_)
        subst hr
        have h := S.2.2.2.2.2.2.2.2.2.2.2.2.2.2.2.1 _ σ ρ τ p1 hR ho
        refine l_aload_n G dL_law_517 2 rfl rfl ?_
        refine l_aload_n G dL_law_518 0 rfl rfl ?_
        refine l_iload_n G dL_law_519 3 rfl rfl ?_
        refine l_iconst G (1 : Int32) dL_law_520 kc_1 ?_
        refine l_iadd G dL_law_521 ?_
        refine l_sld G hX hbl (hin 1 (by omega)) dL_law_522 ?_
        rw [hp1]
        refine l_cM G [.int p1] [.int (-2)] (c_X7_image (k_l Γ) (k_D Γ) _ cI cZ _ _ _ h) (cwV 1 G.2.2.2.2.1 gL_law_X7_image rfl rfl rfl hdv_X7_image ⟨Nat.le_of_ble_eq_true rfl, Nat.le_of_ble_eq_true rfl⟩) [0, 2] rfl rfl rfl (Nat.le_of_ble_eq_true rfl) ⟨hc0 0 (Nat.zero_le _), hs0 0 (Nat.zero_le _)⟩ dL_law_523 (fun r' τ' h => ?_)
        refine l_icmp_eq_t G 577 dL_law_526 (by decide) h.1 ?_
        exact next _ _ _ _ _ _ _ _ _ (by omega) (by omega) h.2
      have h0 : ¬ p1 < 0 := fun z => ho (Or.inl z)
      have h2 : p1 < 2 := Classical.byContradiction (fun z => ho (Or.inr z))
      have hk2 : p1.toNatClampNeg < 2 := by
        obtain ⟨j, hj, rfl⟩ := nI_of h0
        rw [nI_clamp hj]
        exact (nI_ltI (b := 2) hj (by omega)).mp h2
      cases hgk : gI p1.toNatClampNeg with
      | none =>
        refine l_cN G [.int p1] [] p1.toNatClampNeg hk2 hgk (c_X6_image_new (k_l Γ) (k_D Γ) a cI cO gI σ p1 h0 h2 hgk) (cwV 1 G.2.2.2.2.1 gL_law_X6_image rfl rfl rfl hdv_X6_image ⟨Nat.le_of_ble_eq_true rfl, Nat.le_of_ble_eq_true rfl⟩) [0, 1] rfl rfl rfl (Nat.le_of_ble_eq_true rfl) ⟨hc0 10 (Nat.le_refl _), hs0 381 (by omega)⟩ dL_law_514 (fun b' σ' ρ' hq => ?_)
        obtain ⟨μ, hμ, hq1, hq2⟩ := hq
        dsimp only at hq1 hq2
        subst hq1
        subst hq2
        have h := S.2.2.2.2.2.2.2.2.2.2.2.2.2.2.2.2.2.1 _ σ ρ τ p1 hR h0 h2 _ _ hμ
        refine l_aload_n G dL_law_517 2 rfl rfl ?_
        refine l_aload_n G dL_law_518 0 rfl rfl ?_
        refine l_iload_n G dL_law_519 3 rfl rfl ?_
        refine l_iconst G (1 : Int32) dL_law_520 kc_1 ?_
        refine l_iadd G dL_law_521 ?_
        refine l_sld G hX hbl (hin 1 (by omega)) dL_law_522 ?_
        rw [hp1]
        refine l_cM G [.int p1] [.int 1] (c_X7_image (k_l Γ) (k_D Γ) _ cI cZ _ _ _ h) (cwV 1 G.2.2.2.2.1 gL_law_X7_image rfl rfl rfl hdv_X7_image ⟨Nat.le_of_ble_eq_true rfl, Nat.le_of_ble_eq_true rfl⟩) [0, 2] rfl rfl rfl (Nat.le_of_ble_eq_true rfl) ⟨hc0 10 (Nat.le_refl _), hs0 381 (by omega)⟩ dL_law_523 (fun r' τ' h => ?_)
        refine l_icmp_eq_t G 577 dL_law_526 (by decide) h.1 ?_
        refine next _ _ _ _ _ _ _ _ _ (by omega) (by omega) ?_
        rw [k_prU]
        exact h.2
      | some q =>
        have hs1 : gI p1.toNatClampNeg ≠ none := by rw [hgk]; exact fun z => by cases z
        refine l_known hk2 hgk (fun hgb => ?_)
        refine l_cI G [.int p1] [] p1.toNatClampNeg hk2 (fun _ _ _ => hgb) hs1 (c_X6_image_has (k_l Γ) (k_D Γ) a cI cO gI (b p1.toNatClampNeg) σ (ρ p1.toNatClampNeg) p1 h0 h2 hgb) (cwV 1 G.2.2.2.2.1 gL_law_X6_image rfl rfl rfl hdv_X6_image ⟨Nat.le_of_ble_eq_true rfl, Nat.le_of_ble_eq_true rfl⟩) [0, 1] rfl rfl rfl (Nat.le_of_ble_eq_true rfl) ⟨hc0 0 (Nat.zero_le _), hs0 0 (Nat.zero_le _)⟩ dL_law_514 (fun σ' ρ' hq => ?_)
        obtain ⟨μ, hμ, hq1, hq2⟩ := hq
        dsimp only at hq1 hq2
        subst hq1
        subst hq2
        have h := S.2.2.2.2.2.2.2.2.2.2.2.2.2.2.2.2.2.1 _ σ ρ τ p1 hR h0 h2 _ _ hμ
        refine l_aload_n G dL_law_517 2 rfl rfl ?_
        refine l_aload_n G dL_law_518 0 rfl rfl ?_
        refine l_iload_n G dL_law_519 3 rfl rfl ?_
        refine l_iconst G (1 : Int32) dL_law_520 kc_1 ?_
        refine l_iadd G dL_law_521 ?_
        refine l_sld G hX hbl (hin 1 (by omega)) dL_law_522 ?_
        rw [hp1]
        refine l_cM G [.int p1] [.int 1] (c_X7_image (k_l Γ) (k_D Γ) _ cI cZ _ _ _ h) (cwV 1 G.2.2.2.2.1 gL_law_X7_image rfl rfl rfl hdv_X7_image ⟨Nat.le_of_ble_eq_true rfl, Nat.le_of_ble_eq_true rfl⟩) [0, 2] rfl rfl rfl (Nat.le_of_ble_eq_true rfl) ⟨hc0 0 (Nat.zero_le _), hs0 0 (Nat.zero_le _)⟩ dL_law_523 (fun r' τ' h => ?_)
        refine l_icmp_eq_t G 577 dL_law_526 (by decide) h.1 ?_
        refine next _ _ _ _ _ _ _ _ _ (by omega) (by omega) ?_
        have hh := h.2
        rw [k_prH hgk] at hh
        exact hh
    rcases Classical.em (op = (15 : Int32)) with hs_15 | hs_15
    · refine l_tableIn G 531 dL_law_32 15 (khit hs_15 kt_15) (by decide) (by decide) (off := 499) rfl (by decide) ?_
      refine l_aload_n G dL_law_531 1 rfl rfl ?_
      refine l_aload_n G dL_law_532 0 rfl rfl ?_
      refine l_iload_n G dL_law_533 3 rfl rfl ?_
      refine l_iconst G (1 : Int32) dL_law_534 kc_1 ?_
      refine l_iadd G dL_law_535 ?_
      refine l_sld G hX hbl (hin 1 (by omega)) dL_law_536 ?_
      generalize hp1 : xs (x3 + (1 : Int32)).toNatClampNeg = p1
      rcases Classical.em (p1 < 0 ∨ ¬ p1 < 2) with ho | ho
      · refine l_cR G (ci := 4) (cq := (RX6, TX6, 4)) [.int p1] [] (c_X6_restore_no (k_l Γ) (k_D Γ) a cI cO gI σ p1 (fun r => r = -2) (Or.inl ⟨ho, rfl⟩)) 0 rfl wC_0 (cwV 1 G.2.2.2.2.1 gL_law_X6_restore rfl rfl rfl hdv_X6_restore ⟨Nat.le_of_ble_eq_true rfl, Nat.le_of_ble_eq_true rfl⟩) [0, 1] rfl (fun _ h => h.1) rfl rfl (Nat.le_of_ble_eq_true rfl) ⟨hc0 0 (Nat.zero_le _), hs0 0 (Nat.zero_le _)⟩ dL_law_537 (fun r hr => ?_)
        subst hr
        have h := S.2.2.2.2.2.2.2.2.2.2.2.2.2.2.2.2.1 _ σ ρ τ p1 hR ho
        refine l_aload_n G dL_law_540 2 rfl rfl ?_
        refine l_aload_n G dL_law_541 0 rfl rfl ?_
        refine l_iload_n G dL_law_542 3 rfl rfl ?_
        refine l_iconst G (1 : Int32) dL_law_543 kc_1 ?_
        refine l_iadd G dL_law_544 ?_
        refine l_sld G hX hbl (hin 1 (by omega)) dL_law_545 ?_
        rw [hp1]
        refine l_cM G [.int p1] [.int (-2)] (c_X7_restore (k_l Γ) (k_D Γ) _ cI cZ _ _ _ h) (cwV 1 G.2.2.2.2.1 gL_law_X7_restore rfl rfl rfl hdv_X7_restore ⟨Nat.le_of_ble_eq_true rfl, Nat.le_of_ble_eq_true rfl⟩) [0, 2] rfl rfl rfl (Nat.le_of_ble_eq_true rfl) ⟨hc0 0 (Nat.zero_le _), hs0 0 (Nat.zero_le _)⟩ dL_law_546 (fun r' τ' h => ?_)
        refine l_icmp_eq_t G 577 dL_law_549 (by decide) h.1 ?_
        exact next _ _ _ _ _ _ _ _ _ (by omega) (by omega) h.2
      have h0 : ¬ p1 < 0 := fun z => ho (Or.inl z)
      have h2 : p1 < 2 := Classical.byContradiction (fun z => ho (Or.inr z))
      have hk2 : p1.toNatClampNeg < 2 := by
        obtain ⟨j, hj, rfl⟩ := nI_of h0
        rw [nI_clamp hj]
        exact (nI_ltI (b := 2) hj (by omega)).mp h2
      cases hgk : gI p1.toNatClampNeg with
      | none =>
        refine l_cR G (ci := 4) (cq := (RX6, TX6, 4)) [.int p1] [] (c_X6_restore_no (k_l Γ) (k_D Γ) a cI cO gI σ p1 (fun r => r = -5) (Or.inr ⟨h0, h2, hgk, rfl⟩)) 0 rfl wC_0 (cwV 1 G.2.2.2.2.1 gL_law_X6_restore rfl rfl rfl hdv_X6_restore ⟨Nat.le_of_ble_eq_true rfl, Nat.le_of_ble_eq_true rfl⟩) [0, 1] rfl (fun _ h => h.1) rfl rfl (Nat.le_of_ble_eq_true rfl) ⟨hc0 0 (Nat.zero_le _), hs0 0 (Nat.zero_le _)⟩ dL_law_537 (fun r hr => ?_)
        subst hr
        have h := S.2.2.2.2.2.2.2.2.2.2.2.2.2.2.2.2.2.2.1 _ σ ρ τ p1 hR h0 h2 (by show (gI p1.toNatClampNeg).isSome = false; rw [hgk]; rfl)
        refine l_aload_n G dL_law_540 2 rfl rfl ?_
        refine l_aload_n G dL_law_541 0 rfl rfl ?_
        refine l_iload_n G dL_law_542 3 rfl rfl ?_
        refine l_iconst G (1 : Int32) dL_law_543 kc_1 ?_
        refine l_iadd G dL_law_544 ?_
        refine l_sld G hX hbl (hin 1 (by omega)) dL_law_545 ?_
        rw [hp1]
        refine l_cM G [.int p1] [.int (-5)] (c_X7_restore (k_l Γ) (k_D Γ) _ cI cZ _ _ _ h) (cwV 1 G.2.2.2.2.1 gL_law_X7_restore rfl rfl rfl hdv_X7_restore ⟨Nat.le_of_ble_eq_true rfl, Nat.le_of_ble_eq_true rfl⟩) [0, 2] rfl rfl rfl (Nat.le_of_ble_eq_true rfl) ⟨hc0 0 (Nat.zero_le _), hs0 0 (Nat.zero_le _)⟩ dL_law_546 (fun r' τ' h => ?_)
        refine l_icmp_eq_t G 577 dL_law_549 (by decide) h.1 ?_
        exact next _ _ _ _ _ _ _ _ _ (by omega) (by omega) h.2
      | some q =>
        have hs1 : gI p1.toNatClampNeg ≠ none := by rw [hgk]; exact fun z => by cases z
        refine l_known hk2 hgk (fun hgb => ?_)
        refine l_cI G [.int p1] [] p1.toNatClampNeg hk2 (fun _ _ _ => hgb) hs1 (c_X6_restore_has (k_l Γ) (k_D Γ) a cI cO gI (b p1.toNatClampNeg) σ (ρ p1.toNatClampNeg) p1 h0 h2 hgb) (cwV 1 G.2.2.2.2.1 gL_law_X6_restore rfl rfl rfl hdv_X6_restore ⟨Nat.le_of_ble_eq_true rfl, Nat.le_of_ble_eq_true rfl⟩) [0, 1] rfl rfl rfl (Nat.le_of_ble_eq_true rfl) ⟨hc0 0 (Nat.zero_le _), hs0 0 (Nat.zero_le _)⟩ dL_law_537 (fun σ' ρ' hq => ?_)
        obtain ⟨μ, hμ, hq1, hq2⟩ := hq
        dsimp only at hq1 hq2
        subst hq1
        subst hq2
        have h := S.2.2.2.2.2.2.2.2.2.2.2.2.2.2.2.2.2.2.2 _ σ ρ τ p1 hR h0 h2 (by show (gI p1.toNatClampNeg).isSome = true; rw [hgk]; rfl) _ hμ
        refine l_aload_n G dL_law_540 2 rfl rfl ?_
        refine l_aload_n G dL_law_541 0 rfl rfl ?_
        refine l_iload_n G dL_law_542 3 rfl rfl ?_
        refine l_iconst G (1 : Int32) dL_law_543 kc_1 ?_
        refine l_iadd G dL_law_544 ?_
        refine l_sld G hX hbl (hin 1 (by omega)) dL_law_545 ?_
        rw [hp1]
        refine l_cM G [.int p1] [.int 1] (c_X7_restore (k_l Γ) (k_D Γ) _ cI cZ _ _ _ h) (cwV 1 G.2.2.2.2.1 gL_law_X7_restore rfl rfl rfl hdv_X7_restore ⟨Nat.le_of_ble_eq_true rfl, Nat.le_of_ble_eq_true rfl⟩) [0, 2] rfl rfl rfl (Nat.le_of_ble_eq_true rfl) ⟨hc0 0 (Nat.zero_le _), hs0 0 (Nat.zero_le _)⟩ dL_law_546 (fun r' τ' h => ?_)
        refine l_icmp_eq_t G 577 dL_law_549 (by decide) h.1 ?_
        exact next _ _ _ _ _ _ _ _ _ (by omega) (by omega) h.2
    rcases Classical.em (op = (16 : Int32)) with hs_16 | hs_16
    · refine l_tableIn G 554 dL_law_32 16 (khit hs_16 kt_16) (by decide) (by decide) (off := 522) rfl (by decide) ?_
      refine l_aload_n G dL_law_554 1 rfl rfl ?_
      refine l_aload_n G dL_law_555 0 rfl rfl ?_
      refine l_iload_n G dL_law_556 3 rfl rfl ?_
      refine l_iconst G (1 : Int32) dL_law_557 kc_1 ?_
      refine l_iadd G dL_law_558 ?_
      refine l_sld G hX hbl (hin 1 (by omega)) dL_law_559 ?_
      generalize hp1 : xs (x3 + (1 : Int32)).toNatClampNeg = p1
      have h := (S.2.2.2.2.2.2.2.2.2.2.2.2.2.2.1 _ σ ρ τ p1 gI hR (fun _ => rfl))
      refine l_cR G (ci := 4) (cq := (RX6, TX6, 4)) [.int p1] [] (c_X6_count (k_l Γ) (k_D Γ) a cI cO gI _ _ _ h) 0 rfl wC_0 (cwV 1 G.2.2.2.2.1 gL_law_X6_count rfl rfl rfl hdv_X6_count ⟨Nat.le_of_ble_eq_true rfl, Nat.le_of_ble_eq_true rfl⟩) [0, 1] rfl (fun _ h => h.1) rfl rfl (Nat.le_of_ble_eq_true rfl) ⟨hc0 0 (Nat.zero_le _), hs0 0 (Nat.zero_le _)⟩ dL_law_560 (fun r h => ?_)
      refine l_aload_n G dL_law_563 2 rfl rfl ?_
      refine l_aload_n G dL_law_564 0 rfl rfl ?_
      refine l_iload_n G dL_law_565 3 rfl rfl ?_
      refine l_iconst G (1 : Int32) dL_law_566 kc_1 ?_
      refine l_iadd G dL_law_567 ?_
      refine l_sld G hX hbl (hin 1 (by omega)) dL_law_568 ?_
      rw [hp1]
      refine l_cR G (ci := 5) (cq := (RX7, TX7, 9)) [.int p1] [.int r] (c_X7_count (k_l Γ) (k_D Γ) _ cI cZ _ _ _ h) 0 rfl wM_0 (cwV 1 G.2.2.2.2.1 gL_law_X7_count rfl rfl rfl hdv_X7_count ⟨Nat.le_of_ble_eq_true rfl, Nat.le_of_ble_eq_true rfl⟩) [0, 2] rfl (fun _ h => h.2.1) rfl rfl (Nat.le_of_ble_eq_true rfl) ⟨hc0 0 (Nat.zero_le _), hs0 0 (Nat.zero_le _)⟩ dL_law_569 (fun r' h => ?_)
      refine l_icmp_eq_t G 577 dL_law_572 (by decide) h.1 ?_
      exact next _ _ _ _ _ _ _ _ _ (by omega) (by omega) h.2
    refine l_tableOut G 577 dL_law_32 (by have z0 := lv_neT hs_0 kt_0; have z1 := lv_neT hs_1 kt_1; have z2 := lv_neT hs_2 kt_2; have z3 := lv_neT hs_3 kt_3; have z4 := lv_neT hs_4 kt_4; have z5 := lv_neT hs_5 kt_5; have z6 := lv_neT hs_6 kt_6; have z7 := lv_neT hs_7 kt_7; have z8 := lv_neT hs_8 kt_8; have z9 := lv_neT hs_9 kt_9; have z10 := lv_neT hs_10 kt_10; have z11 := lv_neT hs_11 kt_11; have z12 := lv_neT hs_12 kt_12; have z13 := lv_neT hs_13 kt_13; have z14 := lv_neT hs_14 kt_14; have z15 := lv_neT hs_15 kt_15; have z16 := lv_neT hs_16 kt_16; omega) (by decide) ?_
    exact next _ _ _ _ _ _ _ _ _ (by omega) (by omega) hR
