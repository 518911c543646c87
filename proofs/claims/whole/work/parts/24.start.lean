/-- the class's ints when it is new; the reference's -/
def k_s0 : k_M := fun i => match i with
  | 4 => fun k => if k = 8 then -1 else 0
  | 6 => (upd (upd (upd (upd (upd (upd (upd (fun _ => 0) (9 : Int32).toNatClampNeg (1 : Int32)) (14 : Int32).toNatClampNeg (1 : Int32)) (19 : Int32).toNatClampNeg (1 : Int32)) (24 : Int32).toNatClampNeg (1 : Int32)) (29 : Int32).toNatClampNeg (1 : Int32)) (34 : Int32).toNatClampNeg (1 : Int32)) (39 : Int32).toNatClampNeg (1 : Int32))
  | _ => fun _ => 0
def k_t0 : k_M := fun i => match i with
  | 1 => (upd (upd (upd (upd (upd (upd (upd (upd (upd (upd (upd (upd (upd (upd (upd (upd (fun _ => 0) (41 : Int32).toNatClampNeg (-6 : Int32)) (81 : Int32).toNatClampNeg (1 : Int32)) (42 : Int32).toNatClampNeg (-6 : Int32)) (82 : Int32).toNatClampNeg (1 : Int32)) (43 : Int32).toNatClampNeg (-6 : Int32)) (83 : Int32).toNatClampNeg (1 : Int32)) (44 : Int32).toNatClampNeg (-6 : Int32)) (84 : Int32).toNatClampNeg (1 : Int32)) (45 : Int32).toNatClampNeg (-6 : Int32)) (85 : Int32).toNatClampNeg (1 : Int32)) (46 : Int32).toNatClampNeg (-6 : Int32)) (86 : Int32).toNatClampNeg (1 : Int32)) (47 : Int32).toNatClampNeg (-6 : Int32)) (87 : Int32).toNatClampNeg (1 : Int32)) (88 : Int32).toNatClampNeg (-6 : Int32)) (89 : Int32).toNatClampNeg (-6 : Int32))
  | _ => fun _ => 0
set_option maxRecDepth 20000 in
theorem k_nests_in : ∀ w ∈ k_nests, w ∈ lw_tbl := by decide +kernel
theorem b_toL {Γ : k_C} {R : Room} {cI cO cZ : ClassId} {cs sl : Nat} {pc : Nat} {lv : List (Nat × Value)} {st : List Value} {a c : Nat → Nat} {σ τ : k_M} (b : Nat → Nat → Nat) (ρ : Nat → k_M) (k : k_L Γ R cI cO cZ cs sl pc lv st a b c (fun _ => none) σ ρ τ) : k_B Γ R 4 (fun q => (k_s Γ).heap.size ≤ q) (wC a cI cO (fun _ => none) σ ++ wM c cI cZ τ) cs sl pc lv st := by
  intro H locs ls hP hD hS hl
  obtain ⟨hP1, hP2⟩ := k_va_P_app hP
  have ha : ∀ i, i < 19 → ∃ e, (wC a cI cO (fun _ => none) σ ++ wM c cI cZ τ)[i]? = some (a i, e) := by
    intro i hi
    obtain ⟨e, he⟩ := k_adr2 (wC_adr (a := a) (cI := cI) (cO := cO) (gI := fun _ => none) σ) hi
    exact ⟨e, by rw [List.getElem?_append_left (show i < (wC a cI cO (fun _ => none) σ).length from hi)]; exact he⟩
  have hc : ∀ i, i < 8 → ∃ e, (wC a cI cO (fun _ => none) σ ++ wM c cI cZ τ)[19 + i]? = some (c i, e) := by
    intro i hi
    obtain ⟨e, he⟩ := k_adr2 (wM_adr (a := c) (cI := cI) (cZ := cZ) τ) hi
    refine ⟨e, ?_⟩
    rw [List.getElem?_append_right (show (wC a cI cO (fun _ => none) σ).length ≤ 19 + i by show 19 ≤ 19 + i; omega)]
    show (wM c cI cZ τ)[19 + i - 19]? = _
    rw [show 19 + i - 19 = i by omega]
    exact he
  refine k H locs ls ⟨?_, ?_, ?_, ?_, ?_, fun k _ h => absurd rfl h, fun k k' _ _ _ h => absurd rfl h⟩ ⟨hP1, hP2, fun k _ q h => by cases h⟩ hS hl
  · intro i j hi hj e
    obtain ⟨e1, q1⟩ := ha i hi
    obtain ⟨e2, q2⟩ := ha j hj
    exact hD.1 i j _ _ q1 q2 e
  · intro i hi
    obtain ⟨e1, q1⟩ := ha i hi
    exact hD.2 _ _ q1
  · intro i j hi hj e
    obtain ⟨e1, q1⟩ := hc i hi
    obtain ⟨e2, q2⟩ := hc j hj
    have := hD.1 (19 + i) (19 + j) _ _ q1 q2 e
    omega
  · intro i hi
    obtain ⟨e1, q1⟩ := hc i hi
    exact hD.2 _ _ q1
  · intro i j hi hj e
    obtain ⟨e1, q1⟩ := ha i hi
    obtain ⟨e2, q2⟩ := hc j hj
    have := hD.1 i (19 + j) _ _ q1 q2 e
    omega
set_option maxHeartbeats 8000000 in
set_option maxRecDepth 100000 in
/-- the law, from its entry, over any relation that the pure part gives -/
theorem start_open {RR : (Nat → Bool) → k_M → (Nat → k_M) → k_M → Prop} (S : k_Sim RR) (hI : ∀ ρ, RR (fun _ => false) k_s0 ρ k_t0) {p : Program} {e : Env} {s : State} {m : MethodId} {below : List Frame} {meth : Method} {c : Code} (l : Launch) {b L : Nat} {xs : Nat → Int32} (hL : L ≤ 2048) (C0 : lw_At p s m meth c b L xs) : W p l e room_1 s m #[Value.ref b] below meth c s.heap [] 0 0 (lw_Z below #[Value.ref b] s) (entryFrame m ([Value.ref b] : List Value).toArray 4) := by
  obtain ⟨hx, hb, hr, hml, hown, hts, hX, hbl, hlocks, hgv⟩ := id C0
  have hts' : ∀ w ∈ wsL_law, w.before #[Value.ref b] s = true := fun w h => hts w (wsL_law_in w h)
  obtain ⟨c0, iS0, hKn0⟩ := u_known (C := RX0) (T := TX0) (N := 12) (n := 12) hts wsL_f_X0 (hts (.instantiable RX0 12) (by decide +kernel))
  obtain ⟨c1, iS1, hKn1⟩ := u_known (C := RX1) (T := TX1) (N := 4) (n := 4) hts wsL_f_X1 (hts (.instantiable RX1 4) (by decide +kernel))
  obtain ⟨c2, iS2, hKn2⟩ := u_known (C := RX2) (T := TX2) (N := 6) (n := 6) hts wsL_f_X2 (hts (.instantiable RX2 6) (by decide +kernel))
  obtain ⟨c3, iS3, hKn3⟩ := u_known (C := RX3) (T := TX3) (N := 2) (n := 2) hts wsL_f_X3 (hts (.instantiable RX3 2) (by decide +kernel))
  obtain ⟨c4, iS4, hKn4⟩ := u_known (C := RX6) (T := TX6) (N := 4) (n := 4) hts wsL_f_X6 (hts (.instantiable RX6 4) (by decide +kernel))
  obtain ⟨c5, iS5, hKn5⟩ := u_known (C := RX7) (T := TX7) (N := 9) (n := 9) hts wsL_f_X7 (hts (.instantiable RX7 9) (by decide +kernel))
  obtain ⟨dC, dI, hKc⟩ : ∃ (dC : Nat → ClassId) (dI : Nat → Nat → Nat), ∀ (k : Nat) (q : vw_C), vwCl[k]? = some q → u_Kn s q.1 q.2.1 q.2.2 (dC k) (dI k) := by
    refine ⟨fun k => if k = 0 then c0 else if k = 1 then c1 else if k = 2 then c2 else if k = 3 then c3 else if k = 4 then c4 else c5, fun k => if k = 0 then iS0 else if k = 1 then iS1 else if k = 2 then iS2 else if k = 3 then iS3 else if k = 4 then iS4 else iS5, ?_⟩
    intro k q hq
    match k, hq with
    | 0, hq => cases hq; exact hKn0
    | 1, hq => cases hq; exact hKn1
    | 2, hq => cases hq; exact hKn2
    | 3, hq => cases hq; exact hKn3
    | 4, hq => cases hq; exact hKn4
    | 5, hq => cases hq; exact hKn5
    | k + 6, hq => simp [vwCl] at hq
  obtain ⟨cI, kI, oI, f1, f2, f3⟩ := Cond.arrayClass_spec (hts (.arrayClass .int) (by decide +kernel))
  obtain ⟨cZ, kZ, oZ, g1, g2, g3⟩ := Cond.arrayClass_spec (hts (.arrayClass .boolean) (by decide +kernel))
  obtain ⟨oO, cO, kO, h1, h2, h3, h4, h5⟩ := Cond.arrayOver_spec (hts (.arrayOver (.object "FreshShares$Circle")) (by decide +kernel))
  have hK : va_K (dC, dI) vwCl [(cI, .int), (cO, .object "FreshShares$Circle"), (cZ, .boolean)] s := by
    refine ⟨hKc, fun k q h => ?_⟩
    match k, h with
    | 0, h => cases h; exact ⟨fun n z => ⟨fun k h => (by cases h), kI, f2, oI, f3⟩, f1⟩
    | 1, h => cases h; exact ⟨fun n z => ⟨fun k h => (by cases h), kO, h3, oO, h4⟩, kO, oO, h3, h4, h1, h5⟩
    | 2, h => cases h; exact ⟨fun n z => ⟨fun k h => (by cases h), kZ, g2, oZ, g3⟩, g1⟩
    | k + 3, h => simp at h
  have hN : k_N s := ⟨fun w hw => va_Nw.of (by rcases k_nests_ok w hw with ⟨_, _, _, _, _, _, rfl⟩ | ⟨_, _, _, _, rfl⟩ <;> rfl) (hts w (k_nests_in w hw)), va_AO.of (hts (.arrayOver (.object "FreshShares$Circle")) (by decide +kernel))⟩
  have G : k_G (p, l, e, s, m, #[Value.ref b], below, meth, c, lw_Z below #[Value.ref b] s, (dC, dI)) 4 RL cL_law wsL_law [(cI, .int), (cO, .object "FreshShares$Circle"), (cZ, .boolean)] := ⟨hx, hb, hml, hown, hts', hK, hN⟩
  generalize hΓ : ((p, l, e, s, m, #[Value.ref b], below, meth, c, lw_Z below #[Value.ref b] s, (dC, dI)) : k_C) = Γ at G
  have hA : ∀ q, (k_s Γ).heap.size ≤ q → (fun q : Nat => (k_s Γ).heap.size ≤ q) q := fun _ h => h
  have key : k_B Γ room_1 4 (fun q => (k_s Γ).heap.size ≤ q) [] 0 0 0 [(0, .ref b)] [] := by
    refine b_new (ci := 4) G hA inlX6 tyX6 tyX6_ok (G.2.2.2.2.1 (.classLink RL 7 RX6) (List.mem_append_left _ (List.mem_append_left _ (List.mem_append_left _ (List.mem_append_left _ (List.mem_append_left _ (List.mem_append_left _ (List.mem_append_left _ (List.mem_append_left _ (List.mem_of_getElem? (i := 0) rfl)))))))))) (G.2.2.2.2.1 (.instantiable RX6 4) (List.mem_append_left _ (List.mem_append_left _ (List.mem_append_left _ (List.mem_append_left _ (List.mem_append_left _ (List.mem_append_left _ (List.mem_append_left _ (List.mem_append_left _ (List.mem_of_getElem? (i := 1) rfl)))))))))) (G.2.2.2.2.1 (.initialized RX6) (List.mem_append_left _ (List.mem_append_left _ (List.mem_append_left _ (List.mem_append_left _ (List.mem_append_left _ (List.mem_append_left _ (List.mem_append_left _ (List.mem_append_left _ (List.mem_of_getElem? (i := 2) rfl)))))))))) rfl [.null, .null, .null, .null] (by decide) (by decide) (by decide) dL_law_0 (fun q => ?_)
    refine b_eq (ws' := [(q, .inr (4, [.null, .null, .null, .null]))]) rfl ?_
    refine b_dup G rfl dL_law_3 ?_
    refine b_init G hA [.ref q] (c_X6_init (k_l Γ) (k_D Γ) cI cO q) (cwI 0 G.2.2.2.2.1 gL_law_X6_init rfl rfl rfl (G.2.2.2.2.1 (.initialized RX6) (List.mem_append_left _ (List.mem_append_left _ (List.mem_append_left _ (List.mem_append_left _ (List.mem_append_left _ (List.mem_append_left _ (List.mem_append_left _ (List.mem_append_left _ (List.mem_of_getElem? (i := 2) rfl)))))))))) (G.2.2.2.2.1 (.methodLink RL 9 yX6_init) (List.mem_append_left _ (List.mem_append_left _ (List.mem_append_left _ (List.mem_append_left _ (List.mem_append_left _ (List.mem_append_left _ (List.mem_append_left _ (List.mem_append_left _ (List.mem_of_getElem? (i := 6) rfl)))))))))) (G.2.2.2.2.1 (.instanceMethod yX6_init) (List.mem_append_left _ (List.mem_append_left _ (List.mem_append_left _ (List.mem_append_left _ (List.mem_append_left _ (List.mem_append_left _ (List.mem_append_left _ (List.mem_append_left _ (List.mem_of_getElem? (i := 7) rfl)))))))))) rfl hd_X6_init ⟨by decide, by decide⟩) [0, 1] rfl 0 rfl [] [] rfl (by decide) (by decide) (Nat.le_of_ble_eq_true rfl) ⟨by decide, by decide⟩ dL_law_4 (fun b1 => ?_)
    refine b_eq (ws' := wC (k_h0 q b1) cI cO (fun _ => none) k_s0) rfl ?_
    refine b_astore_n (lv' := [(1, .ref q), (0, .ref b)]) G dL_law_7 rfl (by decide) rfl ?_
    refine b_new (ci := 5) G hA inlX7 tyX7 tyX7_ok (G.2.2.2.2.1 (.classLink RL 10 RX7) (List.mem_append_left _ (List.mem_append_left _ (List.mem_append_left _ (List.mem_append_left _ (List.mem_append_left _ (List.mem_append_left _ (List.mem_append_left _ (List.mem_append_left _ (List.mem_of_getElem? (i := 3) rfl)))))))))) (G.2.2.2.2.1 (.instantiable RX7 9) (List.mem_append_left _ (List.mem_append_left _ (List.mem_append_left _ (List.mem_append_left _ (List.mem_append_left _ (List.mem_append_left _ (List.mem_append_left _ (List.mem_append_left _ (List.mem_of_getElem? (i := 4) rfl)))))))))) (G.2.2.2.2.1 (.initialized RX7) (List.mem_append_left _ (List.mem_append_left _ (List.mem_append_left _ (List.mem_append_left _ (List.mem_append_left _ (List.mem_append_left _ (List.mem_append_left _ (List.mem_append_left _ (List.mem_of_getElem? (i := 5) rfl)))))))))) rfl [.null, .null, .int 0, .null, .int 0, .null, .null, .null, .null] (by decide) (by decide) (by decide) dL_law_8 (fun q2 => ?_)
    refine b_dup G rfl dL_law_11 ?_
    refine b_init G hA [.ref q2] (c_X7_init (k_l Γ) (k_D Γ) cI cZ q2) (cwI 0 G.2.2.2.2.1 gL_law_X7_init rfl rfl rfl (G.2.2.2.2.1 (.initialized RX7) (List.mem_append_left _ (List.mem_append_left _ (List.mem_append_left _ (List.mem_append_left _ (List.mem_append_left _ (List.mem_append_left _ (List.mem_append_left _ (List.mem_append_left _ (List.mem_of_getElem? (i := 5) rfl)))))))))) (G.2.2.2.2.1 (.methodLink RL 12 yX7_init) (List.mem_append_left _ (List.mem_append_left _ (List.mem_append_left _ (List.mem_append_left _ (List.mem_append_left _ (List.mem_append_left _ (List.mem_append_left _ (List.mem_append_right _ (List.mem_append_right _ (List.mem_append_left _ (List.mem_of_getElem? (i := 22) rfl)))))))))))) (G.2.2.2.2.1 (.instanceMethod yX7_init) (List.mem_append_left _ (List.mem_append_left _ (List.mem_append_left _ (List.mem_append_left _ (List.mem_append_left _ (List.mem_append_left _ (List.mem_append_left _ (List.mem_append_right _ (List.mem_append_right _ (List.mem_append_left _ (List.mem_of_getElem? (i := 23) rfl)))))))))))) rfl hd_X7_init ⟨by decide, by decide⟩) [0, 2] rfl 19 rfl (wC (k_h0 q b1) cI cO (fun _ => none) k_s0) [0, 1, 2, 3, 4, 5, 6, 7, 8, 9, 10, 11, 12, 13, 14, 15, 16, 17, 18] rfl (by decide) (by decide) (Nat.le_of_ble_eq_true rfl) ⟨by decide, by decide⟩ dL_law_12 (fun b2 => ?_)
    refine b_eq (ws' := wC (k_h0 q b1) cI cO (fun _ => none) k_s0 ++ wM (k_h0 q2 b2) cI cZ k_t0) rfl ?_
    refine b_astore_n (lv' := [(2, .ref q2), (1, .ref q), (0, .ref b)]) G dL_law_15 rfl (by decide) rfl ?_
    refine b_iconst G (0 : Int32) dL_law_16 kc_0 ?_
    refine b_istore_n (lv' := [(3, .int (0 : Int32)), (2, .ref q2), (1, .ref q), (0, .ref b)]) G dL_law_17 rfl (by decide) rfl ?_
    refine b_toL (fun _ _ => 0) (fun _ => k_0) ?_
    refine l_widen (cs' := 30) (sl' := 2000) (by decide) (by decide) ?_
    subst hΓ
    exact l_sub [3, 2, 1, 0] rfl (law_loop S hL G hX hbl hr hlocks rfl rfl (L + 1) 0 0 (Nat.zero_le _) (by omega) rfl _ _ _ _ _ _ _ (hI _))
  have hl := lv_entry ([.ref b]) (n := 4) (Nat.le_of_ble_eq_true rfl)
  rw [lg_entry_eq]
  subst hΓ
  exact key s.heap [] _ (fun k q h => by simp at h) ⟨fun i j p q h => by simp at h, fun k q h => by simp at h⟩ va_S.rf hl
