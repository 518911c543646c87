/-! image and restore of the class: worlds that grow, callees with a part of the world -/
def w1 (b : Nat → Nat) (cI : ClassId) : k_M → va_W := fun ρ => [(b 0, .inr (0, [.ref (b 1), .ref (b 2), .ref (b 3), .ref (b 4), .ref (b 5), .ref (b 6), .int (ρ 0 6), .int (ρ 0 7), .int (ρ 0 8), .int (ρ 0 9), .int (ρ 0 10), .int (ρ 0 11)])), (b 1, .inl (cI, 40, .inl (ρ 1))), (b 2, .inl (cI, 40, .inl (ρ 2))), (b 3, .inl (cI, 8, .inl (ρ 3))), (b 4, .inl (cI, 5, .inl (ρ 4))), (b 5, .inl (cI, 200, .inl (ρ 5))), (b 6, .inr (1, [.ref (b 7), .ref (b 8), .ref (b 9), .int (ρ 6 3)])), (b 7, .inl (cI, 24, .inl (ρ 7))), (b 8, .inl (cI, 24, .inl (ρ 8))), (b 9, .inl (cI, 24, .inl (ρ 9)))]
def wI (a : Nat → Nat) (cI cO : ClassId) (gI : Nat → Option Nat) (b : Nat → Nat) (σ ρ : k_M) : va_W := wC a cI cO gI σ ++ w1 b cI ρ
theorem wK_eq {a : Nat → Nat} {cI : ClassId} {μ : k_M} : wK a cI μ = w1 a cI μ ++ w1 (fun i => a (i + 10)) cI (fun i => μ (i + 10)) := rfl
/-- a copy's outcome: this half holds what the other half holds -/
def k_cp (μ μ' : k_M) : Prop := (∀ k, 6 ≤ k → k ≤ 11 → μ' 0 k = μ 10 k) ∧ (∀ k, k < 40 → μ' 1 k = μ 11 k) ∧ (∀ k, k < 40 → μ' 2 k = μ 12 k) ∧ (∀ k, k < 8 → μ' 3 k = μ 13 k) ∧ (∀ k, k < 5 → μ' 4 k = μ 14 k) ∧ (∀ k, k < 200 → μ' 5 k = μ 15 k) ∧ μ' 6 3 = μ 16 3 ∧ (∀ k, k < 24 → μ' 7 k = μ 17 k) ∧ (∀ k, k < 24 → μ' 8 k = μ 18 k) ∧ (∀ k, k < 24 → μ' 9 k = μ 19 k) ∧ ∀ i, 10 ≤ i → μ' i = μ i
theorem k_cpy0 {f g : Nat → Int32} {n : Int32} {N k : Nat} (hn : n.toNatClampNeg = N) (h : k < N) : va_cpy f g (0 : Int32).toNatClampNeg (0 : Int32).toNatClampNeg n.toNatClampNeg k = f k := by
  have h0 : (0 : Int32).toNatClampNeg = 0 := by decide
  rw [h0, hn, pk_cpy_in (Nat.zero_le _) (by omega)]
  simp
theorem k_cpspec {μ : k_M} {Q : k_M → Prop} (h : ∀ μ', k_cp μ μ' → Q μ') : wp_X0_copyFrom μ Q := by
  unfold wp_X0_copyFrom wp_X1_copyFrom
  apply h
  refine ⟨?_, ?_, ?_, ?_, ?_, ?_, ?_, ?_, ?_, ?_, ?_⟩
  · intro k h1 h2
    rcases (show k = 6 ∨ k = 7 ∨ k = 8 ∨ k = 9 ∨ k = 10 ∨ k = 11 by omega) with rfl | rfl | rfl | rfl | rfl | rfl <;> simp [k_put, k_set, upd]
  · intro k hk; simp only [k_put, k_set]; exact k_cpy0 (N := 40) (by decide) hk
  · intro k hk; simp only [k_put, k_set]; exact k_cpy0 (N := 40) (by decide) hk
  · intro k hk; simp only [k_put, k_set]; exact k_cpy0 (N := 8) (by decide) hk
  · intro k hk; simp only [k_put, k_set]; exact k_cpy0 (N := 5) (by decide) hk
  · intro k hk; simp only [k_put, k_set]; exact k_cpy0 (N := 200) (by decide) hk
  · simp [k_put, k_set, upd]
  · intro k hk; simp only [k_put, k_set]; exact k_cpy0 (N := 24) (by decide) hk
  · intro k hk; simp only [k_put, k_set]; exact k_cpy0 (N := 24) (by decide) hk
  · intro k hk; simp only [k_put, k_set]; exact k_cpy0 (N := 24) (by decide) hk
  · intro i hi
    have : i ≠ 0 ∧ i ≠ 1 ∧ i ≠ 2 ∧ i ≠ 3 ∧ i ≠ 4 ∧ i ≠ 5 ∧ i ≠ 6 ∧ i ≠ 7 ∧ i ≠ 8 ∧ i ≠ 9 := by omega
    simp [k_put, k_set, this]
/-- general contracts: a start in the world ws, an end in one of the worlds Y u -/
def k_PG (D : va_G) (tys : List (ClassId × FieldType)) (ws : va_W) (sz : Nat) (av : List Value) : Array Value → State → Prop := va_Pc av (fun U => U.heap.size = sz ∧ va_P D vwCl ws U.heap ∧ va_K D vwCl tys U ∧ k_N U ∧ va_D (fun _ => True) ws)
def k_QG {S : Type} (D : va_G) (ws : va_W) (sz : Nat) (r : Int32) (Y : S → va_W) (Q : S → Prop) : Array Value → State → Outcome → State → Prop := fun _ s0 oc t => ∃ u : S, oc = .returned (some (.int r)) ∧ Q u ∧ va_P D vwCl (Y u) t.heap ∧ va_D (va_A ws sz) (Y u) ∧ va_F (va_A ws sz) s0 t
theorem k_PG_blind {D : va_G} {tys : List (ClassId × FieldType)} {ws : va_W} {sz : Nat} {av : List Value} : FrameBlind (k_PG D tys ws sz av) := fun a U g mk q => by
  obtain ⟨q0, qz, qP, qK, qN, qD⟩ := q
  exact ⟨q0, qz, qP, va_K.moved (u := U) (U := U.calling g mk a) (Vm.Alike.refl U.vm) qK, k_N.same (s := U) (U := U.calling g mk a) rfl qN, qD⟩
def k_EG {S : Type} (Γ : k_C) (ws : va_W) (r : Int32) (Y : S → va_W) (Q : S → Prop) (mc ms : Nat) : Prop := k_Q Γ = MQ (k_be Γ) (k_QG (k_D Γ) ws (k_s Γ).heap.size r Y Q) (k_ar Γ) (k_s Γ) mc ms (va_A ws (k_s Γ).heap.size) ∧ (k_me Γ).sig.returnType = some .int ∧ (k_me Γ).locks = false
theorem k_metG {S : Type} {l : Launch} {y : MethodName} {ws ws' : List Cond} {rm : Room} {cc : ByteArray} {maxL mc ms : Nat} {D : va_G} {tys : List (ClassId × FieldType)} {w0 : va_W} {av : List Value} {r : Int32} {Y : S → va_W} {Q : S → Prop}
    (hy : plainName y.cls = true) (hw : ws = Cond.code y cc maxL (some .int) :: ws') (hav : (lg_sl av).length ≤ maxL) (body : ∀ Γ : k_C, k_G Γ maxL y.cls cc ws tys → k_EG Γ w0 r Y Q mc ms → (∀ q, (k_s Γ).heap.size ≤ q → va_A w0 (k_s Γ).heap.size q) → k_B Γ rm maxL (va_A w0 (k_s Γ).heap.size) w0 0 0 0 (lv_args 0 av) []) (sz : Nat) : Met l y ws rm (k_PG D tys w0 sz av) (k_QG D w0 sz r Y Q) mc ms (va_A w0 sz) := by
  refine Met.ofW (cc := cc) (maxL := maxL) (ret := some .int) hy hw ?_
  intro p e s m args below meth c s₁ B hml hv
  obtain ⟨rfl, rfl, hP, hK, hN, hD⟩ := hv
  have hts := atoms_spec (ws := ws) B.pre
  have hl := lv_entry av (n := maxL) hav
  rw [lg_entry_eq]
  exact body (p, l, e, s, m, av.toArray, below, meth, c, MQ below (k_QG D w0 s.heap.size r Y Q) av.toArray s mc ms (va_A w0 s.heap.size), D) ⟨B.exec, B.bytes, hml, findClass_of_methodNamed B.named, hts, hK, hN⟩ ⟨rfl, B.returns, B.notSynchronized⟩ (fun q h => Or.inr h) s.heap [] _ hP hD.self va_S.rf hl
section KI
variable {Γ : k_C} {R : Room} {nL : Nat} {A : Nat → Prop} {ws : va_W} {cs sl : Nat} {pc : Nat} {lv : List (Nat × Value)} {st : List Value} {own : String} {cc : ByteArray} {Ts : List Cond} {tys : List (ClassId × FieldType)}
theorem b_iretG {S : Type} (G : k_G Γ nL own cc Ts tys) {w0 : va_W} {v : Int32} {Y : S → va_W} {Q : S → Prop} (E : k_EG Γ w0 v Y Q cs sl) (u : S) (hq : Q u) (he : ws = Y u) (d : decode cc pc = .ok (.ireturn, 1)) : k_B Γ R nL (va_A w0 (k_s Γ).heap.size) ws cs sl pc lv [.int v] := by
  intro H locs ls hP hD hS hl
  obtain ⟨hQ, hr, hlk⟩ := E
  subst he
  rw [hQ]
  exact W.iret G.1 G.2.1 hr (fun t ht hW => ⟨u, rfl, hq, by rw [ht]; exact hP, hD, va_S.F hS ht⟩) hS.2.2 d hlk
theorem b_if_lt_f (G : k_G Γ nL own cc Ts tys) {x : Int32} {off : Int} (tgt : Nat) (d : decode cc pc = .ok (.ifCond .lt off, 3)) (ht : (pc : Int) + off = (tgt : Int)) (hc : ¬ x < 0) (k : k_B Γ R nL A ws cs sl (pc + 3) lv st) : k_B Γ R nL A ws cs sl pc lv (.int x :: st) := fun H locs ls hP hD hS hl => lv_if_lt G.1 G.2.1 d ht (fun h => absurd h hc) (fun _ => k H locs ls hP hD hS hl)
theorem b_icmp_lt_t (G : k_G Γ nL own cc Ts tys) {x y : Int32} {off : Int} (tgt : Nat) (d : decode cc pc = .ok (.if_icmp .lt off, 3)) (ht : (pc : Int) + off = (tgt : Int)) (hc : x < y) (k : k_B Γ R nL A ws cs sl tgt lv st) : k_B Γ R nL A ws cs sl pc lv (.int y :: .int x :: st) := fun H locs ls hP hD hS hl => lv_icmp_lt G.1 G.2.1 d ht (fun _ => k H locs ls hP hD hS hl) (fun h => absurd hc h)
theorem b_aald (G : k_G Γ nL own cc Ts tys) (q0 t0 : Nat) {ad : Nat} {cA : ClassId} {C : String} {n : Nat} {f : Nat → Option Nat} {i : Int32} (v : Value) (ha : ws[q0]? = some (ad, .inl (cA, n, .inr (.inr (.inr (.inr f)))))) (ht : tys[t0]? = some (cA, .object C)) (hin : vp_in i n) (hv : va_rf (f i.toNatClampNeg) = v) (d : decode cc pc = .ok (.aaload, 1)) (kk : k_B Γ R nL A ws cs sl (pc + 1) lv (v :: st)) : k_B Γ R nL A ws cs sl pc lv (.int i :: .ref ad :: st) :=
  fun H locs ls hP hD hS hl => va_aldq G.1 G.2.1 G.2.2.2.2.2.1 hP q0 t0 ha ht hin d (by rw [hv]; exact kk H locs ls hP hD hS hl)
theorem b_astore_n (G : k_G Γ nL own cc Ts tys) {n : Fin 4} {i : Nat} {x : Nat} {lv' : List (Nat × Value)} (d : decode cc pc = .ok (.astore_n n, 1)) (hi : (n : Nat) = i) (hn : i < nL) (hv : (i, Value.ref x) :: lv.filter (fun q => !(q.1 == i) && !(q.1 + 1 == i && q.2.category == 2)) = lv') (k : k_B Γ R nL A ws cs sl (pc + 1) lv' st) : k_B Γ R nL A ws cs sl pc lv (.ref x :: st) := fun H locs ls hP hD hS hl => lv_astore_n G.1 G.2.1 d hi hl hn hv (fun ls hl => k H locs ls hP hD hS hl)
theorem b_astore_nN (G : k_G Γ nL own cc Ts tys) {n : Fin 4} {i : Nat} {lv' : List (Nat × Value)} (d : decode cc pc = .ok (.astore_n n, 1)) (hi : (n : Nat) = i) (hn : i < nL) (hv : (i, Value.null) :: lv.filter (fun q => !(q.1 == i) && !(q.1 + 1 == i && q.2.category == 2)) = lv') (k : k_B Γ R nL A ws cs sl (pc + 1) lv' st) : k_B Γ R nL A ws cs sl pc lv (.null :: st) := fun H locs ls hP hD hS hl => lv_astore_nN G.1 G.2.1 d hi hl hn hv (fun ls hl => k H locs ls hP hD hS hl)
theorem b_aload_nN (G : k_G Γ nL own cc Ts tys) {n : Fin 4} {i : Nat} (d : decode cc pc = .ok (.aload_n n, 1)) (j : Nat) (hi : (n : Nat) = i) (hj : lv[j]? = some (i, .null)) (k : k_B Γ R nL A ws cs sl (pc + 1) lv (.null :: st)) : k_B Γ R nL A ws cs sl pc lv st := fun H locs ls hP hD hS hl => lv_aload_nN G.1 G.2.1 d hi (lv_at hl j hj) (k H locs ls hP hD hS hl)
theorem b_ifnonnull (G : k_G Γ nL own cc Ts tys) {x : Nat} {off : Int} (tgt : Nat) (d : decode cc pc = .ok (.ifnonnull off, 3)) (ht : (pc : Int) + off = (tgt : Int)) (k : k_B Γ R nL A ws cs sl tgt lv st) : k_B Γ R nL A ws cs sl pc lv (.ref x :: st) := fun H locs ls hP hD hS hl => lv_ifnonnull G.1 G.2.1 d ht (k H locs ls hP hD hS hl)
theorem b_ifnonnullN (G : k_G Γ nL own cc Ts tys) {off : Int} (d : decode cc pc = .ok (.ifnonnull off, 3)) (k : k_B Γ R nL A ws cs sl (pc + 3) lv st) : k_B Γ R nL A ws cs sl pc lv (.null :: st) := fun H locs ls hP hD hS hl => lv_ifnonnullN G.1 G.2.1 d (k H locs ls hP hD hS hl)
theorem b_astq (G : k_G Γ nL own cc Ts tys) (q0 t0 qk ci : Nat) {cA : ClassId} {r : vw_C} {n v ad : Nat} {vs : List Value} {f : Nat → Option Nat} {i : Int32} (ha : ws[q0]? = some (ad, .inl (cA, n, .inr (.inr (.inr (.inr f)))))) (ht : tys[t0]? = some (cA, .object r.1)) (hv : ws[qk]? = some (v, .inr (ci, vs))) (hc : vwCl[ci]? = some r) (hin : vp_in i n) {ws' : va_W} (hw : ws.set q0 (ad, .inl (cA, n, .inr (.inr (.inr (.inr (va_up f i.toNatClampNeg (some v))))))) = ws') (d : decode cc pc = .ok (.aastore, 1)) (kk : k_B Γ R nL A ws' cs sl (pc + 1) lv st) : k_B Γ R nL A ws cs sl pc lv (.ref v :: .int i :: .ref ad :: st) :=
  fun H locs ls hP hD hS hl => va_astq G.1 G.2.1 G.2.2.2.2.2.1 hP hD hS q0 t0 qk ci ha ht hv hc hin d (fun H1 locs1 h1 h2 h3 => kk H1 locs1 ls (hw ▸ h1) (hw ▸ h2) h3 hl)
theorem k_wAof {wd : k_M → va_W} {σ : k_M} (ha : ∀ σ σ', (wd σ).map (fun q => q.1) = (wd σ').map (fun q => q.1)) {q sz : Nat} (h : k_wA wd q) : va_A (wd σ) sz q := by
  obtain ⟨σ', k, e, h⟩ := h
  have h1 : ((wd σ').map (fun q => q.1))[k]? = some q := by rw [List.getElem?_map, h]; rfl
  rw [ha σ' σ, List.getElem?_map] at h1
  cases hk : (wd σ)[k]? with
  | none => rw [hk] at h1; cases h1
  | some z => rw [hk] at h1; cases h1; exact Or.inl ⟨k, z.2, hk⟩
/-- a writer, of an object, whose world is a part of this one -/
theorem b_cVWv (G : k_G Γ nL own cc Ts tys) (hA : ∀ q, (k_s Γ).heap.size ≤ q → A q) {y : MethodName} {bytes : ByteArray} {maxL n index : Nat} {ret : Option FieldType} {wsy : List Cond} {rm : Room} {wd : k_M → va_W} {σ : k_M} {tys' : List (ClassId × FieldType)} {Q' : k_M → Prop} {b ci : Nat} {fs : List Value} {cq : vw_C} (As rest : List Value)
    (hM : Met (k_l Γ) y wsy rm (k_PW (k_D Γ) tys' wd σ (.ref b :: As)) (k_Qv (k_D Γ) wd Q') 0 0 (k_wA wd)) (q0 : Nat) (hc : vwCl[ci]? = some cq) (he : ws[q0]? = some (b, .inr (ci, fs))) (cw : CallW R (k_s Γ) (k_ar Γ) own cq.1 index y bytes maxL ret wsy rm 0 0 n) (ts : List Nat) (hts : ts.filterMap (fun i => tys[i]?) = tys')
    (ha : ∀ σ σ', (wd σ).map (fun q => q.1) = (wd σ').map (fun q => q.1)) (isC : List Nat) (hC : isC.map (fun i => ws[i]?) = (wd σ).map some) (hCf : isC.filterMap (fun i => ws[i]?) = wd σ) (hCn : va_nd isC = true) (wr : va_W) (isR : List Nat) (hR : isR.map (fun i => ws[i]?) = wr.map some) (hn' : va_nd isR = true) (hdis : ∀ j ∈ isR, j ∉ isC)
    (hn : As.length = n) (hst : st = As.reverse ++ .ref b :: rest) (hrm : (rest.map fun v => v.category).sum ≤ 8) (hf : cs + 0 ≤ R.cells ∧ sl + 0 ≤ R.slots) (d : decode cc pc = .ok (.invokevirtual index, 3)) (kk : ∀ σ', Q' σ' → k_B Γ R nL A (wr ++ wd σ') cs sl (pc + 3) lv rest) : k_B Γ R nL A ws cs sl pc lv st := by
  intro H locs ls hP hD hS hl
  have hPc : va_P (k_D Γ) vwCl (wd σ) H := hP.sub isC hCf
  have hDc : va_D A (wd σ) := hD.sub isC hCn hC
  have hD0 : ∀ σ', va_D (k_wA wd) (wd σ') := fun σ' => ⟨fun i j x z hi hj hxz => by
    have e1 : ((wd σ').map (fun q => q.1))[i]? = some x.1 := by rw [List.getElem?_map, hi]; rfl
    have e2 : ((wd σ').map (fun q => q.1))[j]? = some z.1 := by rw [List.getElem?_map, hj]; rfl
    rw [ha σ' σ, List.getElem?_map] at e1 e2
    cases h1 : (wd σ)[i]? with
    | none => rw [h1] at e1; cases e1
    | some u1 =>
      cases h2 : (wd σ)[j]? with
      | none => rw [h2] at e2; cases e2
      | some u2 =>
        rw [h1] at e1; rw [h2] at e2
        exact hDc.1 i j u1 u2 h1 h2 ((Option.some.inj e1).trans (hxz.trans (Option.some.inj e2).symm)), fun k q h => ⟨σ', k, q.2, h⟩⟩
  have hFc := va_free (wc := wd σ) hD hS hA isC hC
  have hrun := W.runV (As := As) (rest := rest) (b := b) (p := k_p Γ) (e := k_e Γ) (below := k_be Γ) (meth := k_me Γ) (H := H) (locs := locs) (cells := cs) (slots := sl) (g := F0 (k_m Γ) pc ls st) ⟨G.1, G.2.1, G.2.2.1, G.2.2.2.1, G.2.2.2.2.1⟩ hM cw ⟨k_PW_blind, va_recv G.2.2.2.2.2.1 hP hc he, (k_PW_S G hD0 ts hts hPc).2⟩ rfl hn hl.1 hst (lv_room (rest := st) hrm) d hf
  intro T hT X1
  obtain ⟨v, st₀, t, T', L, h0', X', hL, e1, ⟨σ', hv, hq, hp, hz, hk⟩, hs⟩ := hrun T hT X1
  cases hv
  rw [h0'] at hz hk
  have hk2 : ∀ q : Nat, q < H.size → ¬ va_A (wd σ) H.size q → T'.heap[q]? = H[q]? := fun q h1 h2 => by rw [e1]; exact hk q h1 (fun z => h2 (k_wAof ha z))
  obtain ⟨jP, jD⟩ := va_join (wr := wr) (w1 := wd σ') (H1 := T'.heap) hP hD isC isR hC hR hn' hdis hk2 hFc (by rw [e1]; exact hp) ((hD0 σ').weaken (fun k q _ h => k_wAof ha h))
  obtain ⟨t2, a1, b1⟩ := kk σ' hq T'.heap (locs ++ L) ls jP jD ⟨Nat.le_trans hS.1 (by rw [e1]; exact hz), fun q h1 h2 => by rw [hk2 q (Nat.lt_of_lt_of_le h1 hS.1) (fun z => h2 (hFc q z))]; exact hS.2.1 q h1 h2, fun q hq => (List.mem_append.mp hq).elim (hS.2.2 q) (fun h => hFc _ (k_wAof ha (hL q h)))⟩ hl T' rfl X'
  exact ⟨t2, hs t2 a1, b1⟩
end KI
def k_iaK (a b : Nat → Nat) : Nat → Nat := fun i => if i < 10 then b i else a (i - 6)
def k_imK (σ ρ : k_M) : k_M := fun i => if i < 10 then ρ i else σ (i - 6)
def k_raK (a b : Nat → Nat) : Nat → Nat := fun i => if i < 10 then a (i + 4) else b (i - 10)
def k_rmK (σ ρ : k_M) : k_M := fun i => if i < 10 then σ (i + 4) else ρ (i - 10)
/-- the class's memory with a circle laid into it -/
def k_into (σ ρ : k_M) : k_M := fun i => if 4 ≤ i then (if i ≤ 13 then ρ (i - 4) else σ i) else σ i
abbrev rm_X6_image : Room := { frames := 3, cells := 10, slots := 381, locals := 120 }
abbrev rm_X6_imageH : Room := { frames := 3, cells := 0, slots := 0, locals := 120 }
theorem hd_X6_image : yX6_image.cls ≠ "java/lang/invoke/MethodHandle" ∧ yX6_image.cls ≠ "java/lang/invoke/VarHandle" ∧ (parseMethodDescriptor yX6_image.desc).map (fun d => d.parameters.length) = some 1 := by decide +kernel
theorem hdv_X6_image : yX6_image.cls = RX6 ∧ yX6_image.cls ≠ "java/lang/invoke/MethodHandle" ∧ yX6_image.cls ≠ "java/lang/invoke/VarHandle" ∧ (parseMethodDescriptor yX6_image.desc).map (fun d => d.parameters.length) = some 1 := ⟨rfl, hd_X6_image⟩
theorem hd_X6_restore : yX6_restore.cls ≠ "java/lang/invoke/MethodHandle" ∧ yX6_restore.cls ≠ "java/lang/invoke/VarHandle" ∧ (parseMethodDescriptor yX6_restore.desc).map (fun d => d.parameters.length) = some 1 := by decide +kernel
theorem hdv_X6_restore : yX6_restore.cls = RX6 ∧ yX6_restore.cls ≠ "java/lang/invoke/MethodHandle" ∧ yX6_restore.cls ≠ "java/lang/invoke/VarHandle" ∧ (parseMethodDescriptor yX6_restore.desc).map (fun d => d.parameters.length) = some 1 := ⟨rfl, hd_X6_restore⟩
set_option maxHeartbeats 4000000 in
set_option maxRecDepth 100000 in
/-- image(k), k there already: its circle becomes a copy -/
theorem c_X6_image_has (l : Launch) (D : va_G) (a : Nat → Nat) (cI cO : ClassId) (gI : Nat → Option Nat) (b : Nat → Nat) (σ ρ : k_M) (p1 : Int32) (h0 : ¬ p1 < 0) (h2 : p1 < 2) (hg : gI p1.toNatClampNeg = some (b 0)) (sz : Nat) : Met l yX6_image wsX6_image rm_X6_imageH (k_PG D [(cI, .int), (cO, .object "FreshShares$Circle")] (wI a cI cO gI b σ ρ) sz [.ref (a 0), .int p1]) (k_QG D (wI a cI cO gI b σ ρ) sz 1 (fun u : k_M × k_M => wI a cI cO gI b u.1 u.2) (fun u => ∃ μ, k_cp (k_imK σ ρ) μ ∧ u.1 = k_into σ (fun i => μ (i + 10)) ∧ u.2 = μ)) 0 0 (va_A (wI a cI cO gI b σ ρ) sz) := by
  refine k_metG (by decide) rfl (Nat.le_of_ble_eq_true rfl) ?_ sz
  intro Γ G E hA
  have inX6 : ∀ w ∈ wsX60, w ∈ wsX6_image := by decide +kernel
  have lk_30 := G.2.2.2.2.1 (.fieldLink RX6 30 "FreshShares" "images" "[LFreshShares$Circle;") (by decide +kernel)
  have lk_27 := G.2.2.2.2.1 (.fieldLink RX6 27 "FreshShares" "circle" "LFreshShares$Circle;") (by decide +kernel)
  have hin : vp_in p1 2 := by
    obtain ⟨j, hj, rfl⟩ := nI_of h0
    exact vp_in_nI ((nI_ltI (b := 2) hj (by omega)).mp h2) (by omega)
  show k_B Γ rm_X6_imageH 3 _ _ 0 0 0 [(0, .ref (a 0)), (1, .int p1)] []
  refine b_iload_n G dX6_image_0 1 rfl rfl ?_
  refine b_if_lt_f G 9 dX6_image_1 (by decide) h0 ?_
  refine b_iload_n G dX6_image_4 1 rfl rfl ?_
  refine b_iconst G (2 : Int32) dX6_image_5 kc_2 ?_
  refine b_icmp_lt_t G 12 dX6_image_6 (by decide) h2 ?_
  refine b_aload_n G dX6_image_12 0 rfl rfl ?_
  refine b_get G inX6 0 3 rfl rfl (by decide) lk_30 rfl rfl dX6_image_13 ?_
  refine b_iload_n G dX6_image_16 1 rfl rfl ?_
  refine b_aald G 18 1 (.ref (b 0)) rfl rfl hin (by rw [hg]; rfl) dX6_image_17 ?_
  refine b_astore_n (lv' := [(2, .ref (b 0)), (0, .ref (a 0)), (1, .int p1)]) G dX6_image_18 rfl (by decide) rfl ?_
  refine b_aload_n G dX6_image_19 0 rfl rfl ?_
  refine b_ifnonnull G 38 dX6_image_20 (by decide) ?_
  refine b_aload_n G dX6_image_38 0 rfl rfl ?_
  refine b_aload_n G dX6_image_39 1 rfl rfl ?_
  refine b_get G inX6 0 2 rfl rfl (by decide) lk_27 rfl rfl dX6_image_40 ?_
  refine b_cVWv (wd := wK (k_iaK a b) cI) (σ := k_imK σ ρ) (ci := 0) (cq := (RX0, TX0, 12)) G hA [.ref (a 4)] [] (c_X0_copyFrom (k_l Γ) (k_D Γ) (k_iaK a b) cI (k_imK σ ρ) (fun μ => k_cp (k_imK σ ρ) μ) (k_cpspec (fun _ h => h))) 19 rfl rfl (cwV 1 G.2.2.2.2.1 gX6_image_X0_copyFrom rfl rfl rfl hdv_X0_copyFrom ⟨Nat.le_of_ble_eq_true rfl, Nat.le_of_ble_eq_true rfl⟩) [0] rfl (fun _ _ => rfl) [19, 20, 21, 22, 23, 24, 25, 26, 27, 28, 4, 5, 6, 7, 8, 9, 10, 11, 12, 13] rfl rfl (by decide) (isR := [0, 1, 2, 3, 14, 15, 16, 17, 18]) (wr := [(a 0, .inr (4, [.ref (a 1), .ref (a 3), .ref (a 4), .ref (a 18)])), (a 1, .inr (3, [.ref (a 2), .int (σ 1 1)])), (a 2, .inl (cI, 10, .inl (σ 2))), (a 3, .inr (2, [.ref (a 4), .ref (a 14), .ref (a 15), .ref (a 16), .ref (a 17), .int (σ 3 5)])), (a 14, .inl (cI, 8, .inl (σ 14))), (a 15, .inl (cI, 40, .inl (σ 15))), (a 16, .inl (cI, 5, .inl (σ 16))), (a 17, .inl (cI, 8, .inl (σ 17))), (a 18, .inl (cO, 2, .inr (.inr (.inr (.inr gI)))))]) rfl (by decide) (by decide) rfl rfl (Nat.le_of_ble_eq_true rfl) ⟨Nat.zero_le _, Nat.zero_le _⟩ dX6_image_43 (fun μ hμ => ?_)
  refine b_sub (ws' := wI a cI cO gI b (k_into σ (fun i => μ (i + 10))) μ) [0, 1, 2, 3, 19, 20, 21, 22, 23, 24, 25, 26, 27, 28, 4, 5, 6, 7, 8, 9, 10, 11, 12, 13, 14, 15, 16, 17, 18] (by decide) rfl rfl ?_
  refine b_iconst G (1 : Int32) dX6_image_46 kc_1 ?_
  exact b_iretG G E (k_into σ (fun i => μ (i + 10)), μ) ⟨μ, hμ, rfl, rfl⟩ rfl dX6_image_47
set_option maxHeartbeats 4000000 in
set_option maxRecDepth 100000 in
/-- restore(k), k there: the circle becomes a copy of it -/
theorem c_X6_restore_has (l : Launch) (D : va_G) (a : Nat → Nat) (cI cO : ClassId) (gI : Nat → Option Nat) (b : Nat → Nat) (σ ρ : k_M) (p1 : Int32) (h0 : ¬ p1 < 0) (h2 : p1 < 2) (hg : gI p1.toNatClampNeg = some (b 0)) (sz : Nat) : Met l yX6_restore wsX6_restore rm_X6_imageH (k_PG D [(cI, .int), (cO, .object "FreshShares$Circle")] (wI a cI cO gI b σ ρ) sz [.ref (a 0), .int p1]) (k_QG D (wI a cI cO gI b σ ρ) sz 1 (fun u : k_M × k_M => wI a cI cO gI b u.1 u.2) (fun u => ∃ μ, k_cp (k_rmK σ ρ) μ ∧ u.1 = k_into σ μ ∧ u.2 = fun i => μ (i + 10))) 0 0 (va_A (wI a cI cO gI b σ ρ) sz) := by
  refine k_metG (by decide) rfl (Nat.le_of_ble_eq_true rfl) ?_ sz
  intro Γ G E hA
  have inX6 : ∀ w ∈ wsX60, w ∈ wsX6_restore := by decide +kernel
  have lk_30 := G.2.2.2.2.1 (.fieldLink RX6 30 "FreshShares" "images" "[LFreshShares$Circle;") (by decide +kernel)
  have lk_27 := G.2.2.2.2.1 (.fieldLink RX6 27 "FreshShares" "circle" "LFreshShares$Circle;") (by decide +kernel)
  have hin : vp_in p1 2 := by
    obtain ⟨j, hj, rfl⟩ := nI_of h0
    exact vp_in_nI ((nI_ltI (b := 2) hj (by omega)).mp h2) (by omega)
  show k_B Γ rm_X6_imageH 3 _ _ 0 0 0 [(0, .ref (a 0)), (1, .int p1)] []
  refine b_iload_n G dX6_restore_0 1 rfl rfl ?_
  refine b_if_lt_f G 9 dX6_restore_1 (by decide) h0 ?_
  refine b_iload_n G dX6_restore_4 1 rfl rfl ?_
  refine b_iconst G (2 : Int32) dX6_restore_5 kc_2 ?_
  refine b_icmp_lt_t G 12 dX6_restore_6 (by decide) h2 ?_
  refine b_aload_n G dX6_restore_12 0 rfl rfl ?_
  refine b_get G inX6 0 3 rfl rfl (by decide) lk_30 rfl rfl dX6_restore_13 ?_
  refine b_iload_n G dX6_restore_16 1 rfl rfl ?_
  refine b_aald G 18 1 (.ref (b 0)) rfl rfl hin (by rw [hg]; rfl) dX6_restore_17 ?_
  refine b_astore_n (lv' := [(2, .ref (b 0)), (0, .ref (a 0)), (1, .int p1)]) G dX6_restore_18 rfl (by decide) rfl ?_
  refine b_aload_n G dX6_restore_19 0 rfl rfl ?_
  refine b_ifnonnull G 26 dX6_restore_20 (by decide) ?_
  refine b_aload_n G dX6_restore_26 1 rfl rfl ?_
  refine b_get G inX6 0 2 rfl rfl (by decide) lk_27 rfl rfl dX6_restore_27 ?_
  refine b_aload_n G dX6_restore_30 0 rfl rfl ?_
  refine b_cVWv (wd := wK (k_raK a b) cI) (σ := k_rmK σ ρ) (ci := 0) (cq := (RX0, TX0, 12)) G hA [.ref (b 0)] [] (c_X0_copyFrom (k_l Γ) (k_D Γ) (k_raK a b) cI (k_rmK σ ρ) (fun μ => k_cp (k_rmK σ ρ) μ) (k_cpspec (fun _ h => h))) 4 rfl rfl (cwV 1 G.2.2.2.2.1 gX6_restore_X0_copyFrom rfl rfl rfl hdv_X0_copyFrom ⟨Nat.le_of_ble_eq_true rfl, Nat.le_of_ble_eq_true rfl⟩) [0] rfl (fun _ _ => rfl) [4, 5, 6, 7, 8, 9, 10, 11, 12, 13, 19, 20, 21, 22, 23, 24, 25, 26, 27, 28] rfl rfl (by decide) (isR := [0, 1, 2, 3, 14, 15, 16, 17, 18]) (wr := [(a 0, .inr (4, [.ref (a 1), .ref (a 3), .ref (a 4), .ref (a 18)])), (a 1, .inr (3, [.ref (a 2), .int (σ 1 1)])), (a 2, .inl (cI, 10, .inl (σ 2))), (a 3, .inr (2, [.ref (a 4), .ref (a 14), .ref (a 15), .ref (a 16), .ref (a 17), .int (σ 3 5)])), (a 14, .inl (cI, 8, .inl (σ 14))), (a 15, .inl (cI, 40, .inl (σ 15))), (a 16, .inl (cI, 5, .inl (σ 16))), (a 17, .inl (cI, 8, .inl (σ 17))), (a 18, .inl (cO, 2, .inr (.inr (.inr (.inr gI)))))]) rfl (by decide) (by decide) rfl rfl (Nat.le_of_ble_eq_true rfl) ⟨Nat.zero_le _, Nat.zero_le _⟩ dX6_restore_31 (fun μ hμ => ?_)
  refine b_sub (ws' := wI a cI cO gI b (k_into σ μ) (fun i => μ (i + 10))) [0, 1, 2, 3, 9, 10, 11, 12, 13, 14, 15, 16, 17, 18, 4, 5, 6, 7, 8, 19, 20, 21, 22, 23, 24, 25, 26, 27, 28] (by decide) rfl rfl ?_
  refine b_iconst G (1 : Int32) dX6_restore_34 kc_1 ?_
  exact b_iretG G E (k_into σ μ, fun i => μ (i + 10)) ⟨μ, hμ, rfl, rfl⟩ rfl dX6_restore_35
/-- a new circle's ints -/
def k_c0 : k_M := fun i => match i with
  | 0 => fun k => if k = 8 then -1 else 0
  | 2 => upd (upd (upd (upd (upd (upd (upd (fun _ => 0) (9 : Int32).toNatClampNeg (1 : Int32)) (14 : Int32).toNatClampNeg (1 : Int32)) (19 : Int32).toNatClampNeg (1 : Int32)) (24 : Int32).toNatClampNeg (1 : Int32)) (29 : Int32).toNatClampNeg (1 : Int32)) (34 : Int32).toNatClampNeg (1 : Int32)) (39 : Int32).toNatClampNeg (1 : Int32)
  | _ => fun _ => 0
def k_h0 (q : Nat) (b : Nat → Nat) : Nat → Nat := fun i => if i = 0 then q else b i
theorem xw_X0_eq {cI : ClassId} {q : Nat} {b : Nat → Nat} : xw_X0 cI q b = w1 (k_h0 q b) cI k_c0 := rfl
set_option maxHeartbeats 4000000 in
set_option maxRecDepth 100000 in
/-- image(k), k not there yet: a circle is made, and becomes a copy -/
theorem c_X6_image_new (l : Launch) (D : va_G) (a : Nat → Nat) (cI cO : ClassId) (gI : Nat → Option Nat) (σ : k_M) (p1 : Int32) (h0 : ¬ p1 < 0) (h2 : p1 < 2) (hg : gI p1.toNatClampNeg = none) (sz : Nat) : Met l yX6_image wsX6_image rm_X6_image (k_PG D [(cI, .int), (cO, .object "FreshShares$Circle")] (wC a cI cO gI σ) sz [.ref (a 0), .int p1]) (k_QG D (wC a cI cO gI σ) sz 1 (fun u : (Nat → Nat) × k_M × k_M => wI a cI cO (va_up gI p1.toNatClampNeg (some (u.1 0))) u.1 u.2.1 u.2.2) (fun u => ∃ μ, k_cp (k_imK σ k_c0) μ ∧ u.2.1 = k_into σ (fun i => μ (i + 10)) ∧ u.2.2 = μ)) 10 381 (va_A (wC a cI cO gI σ) sz) := by
  refine k_metG (by decide) rfl (Nat.le_of_ble_eq_true rfl) ?_ sz
  intro Γ G E hA
  have inX6 : ∀ w ∈ wsX60, w ∈ wsX6_image := by decide +kernel
  have inX0 : ∀ w ∈ wsX00, w ∈ wsX6_image := by decide +kernel
  have lk_30 := G.2.2.2.2.1 (.fieldLink RX6 30 "FreshShares" "images" "[LFreshShares$Circle;") (by decide +kernel)
  have lk_27 := G.2.2.2.2.1 (.fieldLink RX6 27 "FreshShares" "circle" "LFreshShares$Circle;") (by decide +kernel)
  have hin : vp_in p1 2 := by
    obtain ⟨j, hj, rfl⟩ := nI_of h0
    exact vp_in_nI ((nI_ltI (b := 2) hj (by omega)).mp h2) (by omega)
  show k_B Γ rm_X6_image 3 _ _ 0 0 0 [(0, .ref (a 0)), (1, .int p1)] []
  refine b_iload_n G dX6_image_0 1 rfl rfl ?_
  refine b_if_lt_f G 9 dX6_image_1 (by decide) h0 ?_
  refine b_iload_n G dX6_image_4 1 rfl rfl ?_
  refine b_iconst G (2 : Int32) dX6_image_5 kc_2 ?_
  refine b_icmp_lt_t G 12 dX6_image_6 (by decide) h2 ?_
  refine b_aload_n G dX6_image_12 0 rfl rfl ?_
  refine b_get G inX6 0 3 rfl rfl (by decide) lk_30 rfl rfl dX6_image_13 ?_
  refine b_iload_n G dX6_image_16 1 rfl rfl ?_
  refine b_aald G 18 1 .null rfl rfl hin (by rw [hg]; rfl) dX6_image_17 ?_
  refine b_astore_nN (lv' := [(2, .null), (0, .ref (a 0)), (1, .int p1)]) G dX6_image_18 rfl (by decide) rfl ?_
  refine b_aload_nN G dX6_image_19 0 rfl rfl ?_
  refine b_ifnonnullN G dX6_image_20 ?_
  refine b_new (ci := 0) G hA inX0 tyX0 tyX0_ok (G.2.2.2.2.1 (.classLink RX6 28 RX0) (by decide +kernel)) (G.2.2.2.2.1 (.instantiable RX0 12) (by decide +kernel)) (G.2.2.2.2.1 (.initialized RX0) (by decide +kernel)) rfl [.null, .null, .null, .null, .null, .null, .int 0, .int 0, .int 0, .int 0, .int 0, .int 0] (by decide) (by decide) (by decide) dX6_image_23 (fun q => ?_)
  refine b_dup G rfl dX6_image_26 ?_
  refine b_init G hA [.ref q] (c_X0_init (k_l Γ) (k_D Γ) cI q) (cwI 0 G.2.2.2.2.1 gX6_image_X0_init rfl rfl rfl (G.2.2.2.2.1 (.initialized RX0) (by decide +kernel)) (G.2.2.2.2.1 (.methodLink RX6 139 yX0_init) (by decide +kernel)) (G.2.2.2.2.1 (.instanceMethod yX0_init) (by decide +kernel)) rfl hd_X0_init ⟨by decide, by decide⟩) [0] rfl 19 rfl (wC a cI cO gI σ) [0, 1, 2, 3, 4, 5, 6, 7, 8, 9, 10, 11, 12, 13, 14, 15, 16, 17, 18] rfl (by decide) (by decide) (Nat.le_of_ble_eq_true rfl) ⟨by decide, by decide⟩ dX6_image_27 (fun b => ?_)
  refine b_eq (ws' := wI a cI cO gI (k_h0 q b) σ k_c0) rfl ?_
  refine b_astore_n (lv' := [(2, .ref q), (0, .ref (a 0)), (1, .int p1)]) G dX6_image_30 rfl (by decide) rfl ?_
  refine b_aload_n G dX6_image_31 1 rfl rfl ?_
  refine b_get G inX6 0 3 rfl rfl (by decide) lk_30 rfl rfl dX6_image_32 ?_
  refine b_iload_n G dX6_image_35 2 rfl rfl ?_
  refine b_aload_n G dX6_image_36 0 rfl rfl ?_
  refine b_astq (r := (RX0, TX0, 12)) (ws' := wI a cI cO (va_up gI p1.toNatClampNeg (some q)) (k_h0 q b) σ k_c0) G 18 1 19 0 rfl rfl rfl rfl hin rfl dX6_image_37 ?_
  refine b_aload_n G dX6_image_38 0 rfl rfl ?_
  refine b_aload_n G dX6_image_39 1 rfl rfl ?_
  refine b_get G inX6 0 2 rfl rfl (by decide) lk_27 rfl rfl dX6_image_40 ?_
  refine b_cVWv (wd := wK (k_iaK a (k_h0 q b)) cI) (σ := k_imK σ k_c0) (ci := 0) (cq := (RX0, TX0, 12)) G hA [.ref (a 4)] [] (c_X0_copyFrom (k_l Γ) (k_D Γ) (k_iaK a (k_h0 q b)) cI (k_imK σ k_c0) (fun μ => k_cp (k_imK σ k_c0) μ) (k_cpspec (fun _ h => h))) 19 rfl rfl (cwV 1 G.2.2.2.2.1 gX6_image_X0_copyFrom rfl rfl rfl hdv_X0_copyFrom ⟨Nat.le_of_ble_eq_true rfl, Nat.le_of_ble_eq_true rfl⟩) [0] rfl (fun _ _ => rfl) [19, 20, 21, 22, 23, 24, 25, 26, 27, 28, 4, 5, 6, 7, 8, 9, 10, 11, 12, 13] rfl rfl (by decide) (isR := [0, 1, 2, 3, 14, 15, 16, 17, 18]) (wr := [(a 0, .inr (4, [.ref (a 1), .ref (a 3), .ref (a 4), .ref (a 18)])), (a 1, .inr (3, [.ref (a 2), .int (σ 1 1)])), (a 2, .inl (cI, 10, .inl (σ 2))), (a 3, .inr (2, [.ref (a 4), .ref (a 14), .ref (a 15), .ref (a 16), .ref (a 17), .int (σ 3 5)])), (a 14, .inl (cI, 8, .inl (σ 14))), (a 15, .inl (cI, 40, .inl (σ 15))), (a 16, .inl (cI, 5, .inl (σ 16))), (a 17, .inl (cI, 8, .inl (σ 17))), (a 18, .inl (cO, 2, .inr (.inr (.inr (.inr (va_up gI p1.toNatClampNeg (some q)))))))]) rfl (by decide) (by decide) rfl rfl (Nat.le_of_ble_eq_true rfl) ⟨by decide, by decide⟩ dX6_image_43 (fun μ hμ => ?_)
  refine b_sub (ws' := wI a cI cO (va_up gI p1.toNatClampNeg (some q)) (k_h0 q b) (k_into σ (fun i => μ (i + 10))) μ) [0, 1, 2, 3, 19, 20, 21, 22, 23, 24, 25, 26, 27, 28, 4, 5, 6, 7, 8, 9, 10, 11, 12, 13, 14, 15, 16, 17, 18] (by decide) rfl rfl ?_
  refine b_iconst G (1 : Int32) dX6_image_46 kc_1 ?_
  exact b_iretG G E (k_h0 q b, k_into σ (fun i => μ (i + 10)), μ) ⟨μ, hμ, rfl, rfl⟩ rfl dX6_image_47
set_option maxHeartbeats 4000000 in
set_option maxRecDepth 100000 in
/-- image(k) of a k that is no image's -/
theorem c_X6_image_out (l : Launch) (D : va_G) (a : Nat → Nat) (cI cO : ClassId) (gI : Nat → Option Nat) (σ : k_M) (p1 : Int32) (Q : Int32 → Prop) (h : (p1 < 0 ∨ ¬ p1 < 2) ∧ Q (-2)) : Met l yX6_image wsX6_image rm_X6_imageH (k_PR D [(cI, .int), (cO, .object "FreshShares$Circle")] (wC a cI cO gI) σ [.ref (a 0), .int p1]) (vp_Si Q) 0 0 (fun _ => False) := by
  refine k_metR (by decide) rfl (Nat.le_of_ble_eq_true rfl) ?_
  intro Γ G E
  show k_J Γ rm_X6_imageH 3 true (wC a cI cO gI) 0 [(0, .ref (a 0)), (1, .int p1)] [] σ
  refine r_iload_n G dX6_image_0 1 rfl rfl ?_
  refine r_if_lt G 9 dX6_image_1 (by decide) (fun hc => ?_) (fun hc => ?_)
  · refine r_bipush G (-2 : Int32) dX6_image_9 kb_m2 ?_
    exact r_iretR G E dX6_image_11 h.2
  · refine r_iload_n G dX6_image_4 1 rfl rfl ?_
    refine r_iconst G (2 : Int32) dX6_image_5 kc_2 ?_
    refine r_icmp_lt G 12 dX6_image_6 (by decide) (fun hd => ?_) (fun hd => ?_)
    · rcases h.1 with h1 | h1
      · exact absurd h1 hc
      · exact absurd hd h1
    · refine r_bipush G (-2 : Int32) dX6_image_9 kb_m2 ?_
      exact r_iretR G E dX6_image_11 h.2
section KI2
variable {Γ : k_C} {R : Room} {nL : Nat} {rd : Bool} {wd : k_M → va_W} {pc : Nat} {lv : List (Nat × Value)} {st : List Value} {σ : k_M} {own : String} {cc : ByteArray} {Ts : List Cond} {tys : List (ClassId × FieldType)}
theorem r_astore_nN (G : k_G Γ nL own cc Ts tys) {n : Fin 4} {i : Nat} {lv' : List (Nat × Value)} (d : decode cc pc = .ok (.astore_n n, 1)) (hi : (n : Nat) = i) (hn : i < nL) (hv : (i, Value.null) :: lv.filter (fun q => !(q.1 == i) && !(q.1 + 1 == i && q.2.category == 2)) = lv') (k : k_J Γ R nL rd wd (pc + 1) lv' st σ) : k_J Γ R nL rd wd pc lv (.null :: st) σ := fun H locs ls hP hF hl => lv_astore_nN G.1 G.2.1 d hi hl hn hv (fun ls hl => k H locs ls hP hF hl)
theorem r_aload_nN (G : k_G Γ nL own cc Ts tys) {n : Fin 4} {i : Nat} (d : decode cc pc = .ok (.aload_n n, 1)) (j : Nat) (hi : (n : Nat) = i) (hj : lv[j]? = some (i, .null)) (k : k_J Γ R nL rd wd (pc + 1) lv (.null :: st) σ) : k_J Γ R nL rd wd pc lv st σ := fun H locs ls hP hF hl => lv_aload_nN G.1 G.2.1 d hi (lv_at hl j hj) (k H locs ls hP hF hl)
theorem r_ifnonnullN (G : k_G Γ nL own cc Ts tys) {off : Int} (d : decode cc pc = .ok (.ifnonnull off, 3)) (k : k_J Γ R nL rd wd (pc + 3) lv st σ) : k_J Γ R nL rd wd pc lv (.null :: st) σ := fun H locs ls hP hF hl => lv_ifnonnullN G.1 G.2.1 d (k H locs ls hP hF hl)
theorem r_aaldV (G : k_G Γ nL own cc Ts tys) (q0 t0 : Nat) {ad : Nat} {cA : ClassId} {C : String} {n : Nat} {f : Nat → Option Nat} {i : Int32} (v : Value) (ha : (wd σ)[q0]? = some (ad, .inl (cA, n, .inr (.inr (.inr (.inr f)))))) (ht : tys[t0]? = some (cA, .object C)) (hin : vp_in i n) (hv : va_rf (f i.toNatClampNeg) = v) (d : decode cc pc = .ok (.aaload, 1)) (kk : k_J Γ R nL rd wd (pc + 1) lv (v :: st) σ) : k_J Γ R nL rd wd pc lv (.int i :: .ref ad :: st) σ :=
  fun H locs ls hP hF hl => va_aldq G.1 G.2.1 G.2.2.2.2.2.1 hP q0 t0 ha ht hin d (by rw [hv]; exact kk H locs ls hP hF hl)
end KI2
set_option maxHeartbeats 4000000 in
set_option maxRecDepth 100000 in
/-- restore(k) of a k that is no image's, or of one that isn't there -/
theorem c_X6_restore_no (l : Launch) (D : va_G) (a : Nat → Nat) (cI cO : ClassId) (gI : Nat → Option Nat) (σ : k_M) (p1 : Int32) (Q : Int32 → Prop) (h : ((p1 < 0 ∨ ¬ p1 < 2) ∧ Q (-2)) ∨ (¬ p1 < 0 ∧ p1 < 2 ∧ gI p1.toNatClampNeg = none ∧ Q (-5))) : Met l yX6_restore wsX6_restore rm_X6_imageH (k_PR D [(cI, .int), (cO, .object "FreshShares$Circle")] (wC a cI cO gI) σ [.ref (a 0), .int p1]) (vp_Si Q) 0 0 (fun _ => False) := by
  refine k_metR (by decide) rfl (Nat.le_of_ble_eq_true rfl) ?_
  intro Γ G E
  have inX6 : ∀ w ∈ wsX60, w ∈ wsX6_restore := by decide +kernel
  have lk_30 := G.2.2.2.2.1 (.fieldLink RX6 30 "FreshShares" "images" "[LFreshShares$Circle;") (by decide +kernel)
  show k_J Γ rm_X6_imageH 3 true (wC a cI cO gI) 0 [(0, .ref (a 0)), (1, .int p1)] [] σ
  refine r_iload_n G dX6_restore_0 1 rfl rfl ?_
  refine r_if_lt G 9 dX6_restore_1 (by decide) (fun hc => ?_) (fun hc => ?_)
  · refine r_bipush G (-2 : Int32) dX6_restore_9 kb_m2 ?_
    exact r_iretR G E dX6_restore_11 (h.elim (fun h => h.2) (fun h => absurd hc h.1))
  · refine r_iload_n G dX6_restore_4 1 rfl rfl ?_
    refine r_iconst G (2 : Int32) dX6_restore_5 kc_2 ?_
    refine r_icmp_lt G 12 dX6_restore_6 (by decide) (fun hd => ?_) (fun hd => ?_)
    · have h := h.resolve_left (fun z => z.1.elim hc (fun y => y hd))
      have hin : vp_in p1 2 := by
        obtain ⟨j, hj, rfl⟩ := nI_of hc
        exact vp_in_nI ((nI_ltI (b := 2) hj (by omega)).mp hd) (by omega)
      refine r_aload_n G dX6_restore_12 0 rfl rfl ?_
      refine r_get G inX6 0 3 wC_0 rfl (by decide) lk_30 rfl rfl dX6_restore_13 ?_
      refine r_iload_n G dX6_restore_16 1 rfl rfl ?_
      refine r_aaldV G 18 1 .null wC_18 rfl hin (by rw [h.2.2.1]; rfl) dX6_restore_17 ?_
      refine r_astore_nN (lv' := [(2, .null), (0, .ref (a 0)), (1, .int p1)]) G dX6_restore_18 rfl (by decide) rfl ?_
      refine r_aload_nN G dX6_restore_19 0 rfl rfl ?_
      refine r_ifnonnullN G dX6_restore_20 ?_
      refine r_bipush G (-5 : Int32) dX6_restore_23 kb_m5 ?_
      exact r_iretR G E dX6_restore_25 h.2.2.2
    · refine r_bipush G (-2 : Int32) dX6_restore_9 kb_m2 ?_
      exact r_iretR G E dX6_restore_11 (h.elim (fun h => h.2) (fun h => absurd h.2.1 hd))
