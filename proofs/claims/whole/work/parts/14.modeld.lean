abbrev rm_X7_isWorld : Room := { frames := 2, cells := 0, slots := 0, locals := 47 }
def wp_X7_isWorld (σ : k_M) (p1 : Int32) (Q : Int32 → Prop) : Prop :=
  (k_lp1 (fun (B_2 : Int32 → Prop) (x2_2 : Int32) => ((((σ 1) (367 : Int32).toNatClampNeg) ≤ x2_2 → Q (1 : Int32)) ∧ (¬ ((σ 1) (367 : Int32).toNatClampNeg) ≤ x2_2 → wp_X7_lootOf σ x2_2 (1 : Int32) (fun (r_17 : Int32) => ((r_17 = p1 → wp_X7_lootOf σ x2_2 (0 : Int32) (fun (r_28 : Int32) => wp_X7_polyAt σ r_28 (fun (r_31 : Int32) => wp_X7_lootOf σ x2_2 (2 : Int32) (fun (r_37 : Int32) => ((r_31 = r_37 → B_2 (x2_2 + (1 : Int32))) ∧ (¬ r_31 = r_37 → Q (0 : Int32))))))) ∧ (¬ r_17 = p1 → B_2 (x2_2 + (1 : Int32)))))))) (0 : Int32))
theorem hd_X7_isWorld : yX7_isWorld.cls ≠ "java/lang/invoke/MethodHandle" ∧ yX7_isWorld.cls ≠ "java/lang/invoke/VarHandle" ∧ (parseMethodDescriptor yX7_isWorld.desc).map (fun d => d.parameters.length) = some 1 := by decide +kernel
theorem hdv_X7_isWorld : yX7_isWorld.cls = RX7 ∧ yX7_isWorld.cls ≠ "java/lang/invoke/MethodHandle" ∧ yX7_isWorld.cls ≠ "java/lang/invoke/VarHandle" ∧ (parseMethodDescriptor yX7_isWorld.desc).map (fun d => d.parameters.length) = some 1 := ⟨rfl, hd_X7_isWorld⟩
set_option maxHeartbeats 4000000 in
set_option maxRecDepth 100000 in
theorem c_X7_isWorld (l : Launch) (D : va_G) (a : Nat → Nat) (cI cZ : ClassId) (σ : k_M) (p1 : Int32) (Q : Int32 → Prop) (h : wp_X7_isWorld σ p1 Q) : Met l yX7_isWorld wsX7_isWorld rm_X7_isWorld (k_PR D [(cI, .int), (cZ, .boolean)] (wM a cI cZ) σ [.ref (a 0), .int p1]) (vp_Si (fun r => (r = 0 ∨ r = 1) ∧ Q r)) 0 0 (fun _ => False) := by
  refine k_metR (by decide) rfl (Nat.le_of_ble_eq_true rfl) ?_
  intro Γ G E
  unfold wp_X7_isWorld at h
  have inX7 : ∀ w ∈ wsX70, w ∈ wsX7_isWorld := by decide +kernel
  have lk_7 := G.2.2.2.2.1 (.fieldLink RX7 7 "FreshSharesModel" "state" "[I") (by decide +kernel)
  show k_J Γ rm_X7_isWorld 3 true (wM a cI cZ) 0 [(0, .ref (a 0)), (1, .int p1)] [] σ
  refine r_iconst G (0 : Int32) dX7_isWorld_0 kc_0 ?_
  refine r_istore_n (lv' := [(2, .int (0 : Int32)), (0, .ref (a 0)), (1, .int p1)]) G dX7_isWorld_1 rfl (by decide) rfl ?_
  obtain ⟨I_2, n_2, h, hI_2⟩ := h
  have key_2 : ∀ (n : Nat) (x2_2 : Int32), I_2 n x2_2 → k_J Γ rm_X7_isWorld 3 true (wM a cI cZ) 2 [(0, .ref (a 0)), (1, .int p1), (2, .int x2_2)] [] σ := by
    intro n
    induction n using Nat.strongRecOn with
    | ind n ih_2 =>
      intro x2_2 h
      replace h := hI_2 n x2_2 h
      refine r_iload_n G dX7_isWorld_2 2 rfl rfl ?_
      refine r_aload_n G dX7_isWorld_3 0 rfl rfl ?_
      refine r_get G inX7 0 0 wM_0 rfl (by decide) lk_7 rfl rfl dX7_isWorld_4 ?_
      refine r_sipush G (367 : Int32) dX7_isWorld_7 ks_367 ?_
      refine r_iald G 1 0 wM_1 rfl (by unfold vp_in; decide) dX7_isWorld_10 ?_
      refine r_icmp_ge G 51 dX7_isWorld_11 (by decide) (fun hc => ?_) (fun hc => ?_)
      · replace h := h.1 hc
        refine r_iconst G (1 : Int32) dX7_isWorld_51 kc_1 ?_
        exact r_zretR G E kz_1 dX7_isWorld_52 ⟨kzo_1, h⟩
      · replace h := h.2 hc
        refine r_aload_n G dX7_isWorld_14 0 rfl rfl ?_
        refine r_iload_n G dX7_isWorld_15 2 rfl rfl ?_
        refine r_iconst G (1 : Int32) dX7_isWorld_16 kc_1 ?_
        refine r_cVR G (ci := 5) (cq := (RX7, TX7, 9)) [.int x2_2, .int (1 : Int32)] [] (c_X7_lootOf (k_l Γ) (k_D Γ) a cI cZ _ _ _ _ h) 0 rfl wM_0 (cwV 2 G.2.2.2.2.1 gX7_isWorld_X7_lootOf rfl rfl rfl hdv_X7_lootOf ⟨Nat.le_of_ble_eq_true rfl, Nat.le_of_ble_eq_true rfl⟩) [0, 1] rfl (fun _ hP => hP) rfl rfl (Nat.le_of_ble_eq_true rfl) dX7_isWorld_17 (fun r_17 h => ?_)
        refine r_iload_n G dX7_isWorld_20 1 rfl rfl ?_
        refine r_icmp_ne G 45 dX7_isWorld_21 (by decide) (fun hc => ?_) (fun hc => ?_)
        · replace h := h.2 hc
          refine r_iinc (lv' := [(2, .int (x2_2 + (1 : Int32))), (0, .ref (a 0)), (1, .int p1)]) G 2 dX7_isWorld_45 kc_1 rfl (by decide) rfl ?_
          refine r_goto G 2 dX7_isWorld_48 (by decide) ?_
          obtain ⟨m_2, hm_2, h⟩ := h
          exact r_sub [1, 2, 0] rfl (ih_2 m_2 hm_2 _ h)
        · replace h := h.1 hc
          refine r_aload_n G dX7_isWorld_24 0 rfl rfl ?_
          refine r_aload_n G dX7_isWorld_25 0 rfl rfl ?_
          refine r_iload_n G dX7_isWorld_26 2 rfl rfl ?_
          refine r_iconst G (0 : Int32) dX7_isWorld_27 kc_0 ?_
          refine r_cVR G (ci := 5) (cq := (RX7, TX7, 9)) [.int x2_2, .int (0 : Int32)] [.ref (a 0)] (c_X7_lootOf (k_l Γ) (k_D Γ) a cI cZ _ _ _ _ h) 0 rfl wM_0 (cwV 2 G.2.2.2.2.1 gX7_isWorld_X7_lootOf rfl rfl rfl hdv_X7_lootOf ⟨Nat.le_of_ble_eq_true rfl, Nat.le_of_ble_eq_true rfl⟩) [0, 1] rfl (fun _ hP => hP) rfl rfl (Nat.le_of_ble_eq_true rfl) dX7_isWorld_28 (fun r_28 h => ?_)
          refine r_cVR G (ci := 5) (cq := (RX7, TX7, 9)) [.int r_28] [] (c_X7_polyAt (k_l Γ) (k_D Γ) a cI cZ _ _ _ h) 0 rfl wM_0 (cwV 1 G.2.2.2.2.1 gX7_isWorld_X7_polyAt rfl rfl rfl hdv_X7_polyAt ⟨Nat.le_of_ble_eq_true rfl, Nat.le_of_ble_eq_true rfl⟩) [0, 1] rfl (fun _ hP => hP) rfl rfl (Nat.le_of_ble_eq_true rfl) dX7_isWorld_31 (fun r_31 h => ?_)
          refine r_aload_n G dX7_isWorld_34 0 rfl rfl ?_
          refine r_iload_n G dX7_isWorld_35 2 rfl rfl ?_
          refine r_iconst G (2 : Int32) dX7_isWorld_36 kc_2 ?_
          refine r_cVR G (ci := 5) (cq := (RX7, TX7, 9)) [.int x2_2, .int (2 : Int32)] [.int r_31] (c_X7_lootOf (k_l Γ) (k_D Γ) a cI cZ _ _ _ _ h) 0 rfl wM_0 (cwV 2 G.2.2.2.2.1 gX7_isWorld_X7_lootOf rfl rfl rfl hdv_X7_lootOf ⟨Nat.le_of_ble_eq_true rfl, Nat.le_of_ble_eq_true rfl⟩) [0, 1] rfl (fun _ hP => hP) rfl rfl (Nat.le_of_ble_eq_true rfl) dX7_isWorld_37 (fun r_37 h => ?_)
          refine r_icmp_eq G 45 dX7_isWorld_40 (by decide) (fun hc => ?_) (fun hc => ?_)
          · replace h := h.1 hc
            refine r_iinc (lv' := [(2, .int (x2_2 + (1 : Int32))), (0, .ref (a 0)), (1, .int p1)]) G 2 dX7_isWorld_45 kc_1 rfl (by decide) rfl ?_
            refine r_goto G 2 dX7_isWorld_48 (by decide) ?_
            obtain ⟨m_2, hm_2, h⟩ := h
            exact r_sub [1, 2, 0] rfl (ih_2 m_2 hm_2 _ h)
          · replace h := h.2 hc
            refine r_iconst G (0 : Int32) dX7_isWorld_43 kc_0 ?_
            exact r_zretR G E kz_0 dX7_isWorld_44 ⟨kzo_0, h⟩
  exact r_sub [1, 2, 0] rfl (key_2 n_2 _ h)
abbrev rm_X7_loot : Room := { frames := 1, cells := 0, slots := 0, locals := 22 }
def wp_X7_loot (σ : k_M) (p1 p2 : Int32) (Q : Int32 → Prop) : Prop :=
  wp_X7_in p2 (0 : Int32) (2 : Int32) (fun (r_3 : Int32) => ((r_3 = 0 → Q (-2 : Int32)) ∧ (¬ r_3 = 0 → wp_X7_in p1 (0 : Int32) (((σ 1) (367 : Int32).toNatClampNeg) - (1 : Int32)) (fun (r_24 : Int32) => ((r_24 = 0 → Q (-6 : Int32)) ∧ (¬ r_24 = 0 → (vp_in (((295 : Int32) + ((3 : Int32) * p1)) + p2) 371 ∧ Q ((σ 1) (((295 : Int32) + ((3 : Int32) * p1)) + p2).toNatClampNeg))))))))
theorem hd_X7_loot : yX7_loot.cls ≠ "java/lang/invoke/MethodHandle" ∧ yX7_loot.cls ≠ "java/lang/invoke/VarHandle" ∧ (parseMethodDescriptor yX7_loot.desc).map (fun d => d.parameters.length) = some 2 := by decide +kernel
theorem hdv_X7_loot : yX7_loot.cls = RX7 ∧ yX7_loot.cls ≠ "java/lang/invoke/MethodHandle" ∧ yX7_loot.cls ≠ "java/lang/invoke/VarHandle" ∧ (parseMethodDescriptor yX7_loot.desc).map (fun d => d.parameters.length) = some 2 := ⟨rfl, hd_X7_loot⟩
set_option maxHeartbeats 4000000 in
set_option maxRecDepth 100000 in
theorem c_X7_loot (l : Launch) (D : va_G) (a : Nat → Nat) (cI cZ : ClassId) (σ : k_M) (p1 p2 : Int32) (Q : Int32 → Prop) (h : wp_X7_loot σ p1 p2 Q) : Met l yX7_loot wsX7_loot rm_X7_loot (k_PR D [(cI, .int), (cZ, .boolean)] (wM a cI cZ) σ [.ref (a 0), .int p1, .int p2]) (vp_Si Q) 0 0 (fun _ => False) := by
  refine k_metR (by decide) rfl (Nat.le_of_ble_eq_true rfl) ?_
  intro Γ G E
  unfold wp_X7_loot at h
  have inX7 : ∀ w ∈ wsX70, w ∈ wsX7_loot := by decide +kernel
  have lk_7 := G.2.2.2.2.1 (.fieldLink RX7 7 "FreshSharesModel" "state" "[I") (by decide +kernel)
  show k_J Γ rm_X7_loot 3 true (wM a cI cZ) 0 [(0, .ref (a 0)), (1, .int p1), (2, .int p2)] [] σ
  refine r_iload_n G dX7_loot_0 2 rfl rfl ?_
  refine r_iconst G (0 : Int32) dX7_loot_1 kc_0 ?_
  refine r_iconst G (2 : Int32) dX7_loot_2 kc_2 ?_
  refine r_cSR G [.int p2, .int (0 : Int32), .int (2 : Int32)] [] (c_X7_in (k_l Γ) (k_D Γ) _ _ _ _ h) (va_cwS 3 G.2.2.2.2.1 gX7_loot_X7_in rfl rfl rfl hd_X7_in ⟨Nat.le_of_ble_eq_true rfl, Nat.le_of_ble_eq_true rfl⟩) [] rfl (fun _ _ => k_E0) rfl rfl (Nat.le_of_ble_eq_true rfl) dX7_loot_3 (fun r_3 h => ?_)
  have hz_3 := h.1
  replace h := h.2
  refine r_if_ne G 12 dX7_loot_6 (by decide) (fun hc => ?_) (fun hc => ?_)
  · replace h := h.2 hc
    refine r_iload_n G dX7_loot_12 1 rfl rfl ?_
    refine r_iconst G (0 : Int32) dX7_loot_13 kc_0 ?_
    refine r_aload_n G dX7_loot_14 0 rfl rfl ?_
    refine r_get G inX7 0 0 wM_0 rfl (by decide) lk_7 rfl rfl dX7_loot_15 ?_
    refine r_sipush G (367 : Int32) dX7_loot_18 ks_367 ?_
    refine r_iald G 1 0 wM_1 rfl (by unfold vp_in; decide) dX7_loot_21 ?_
    refine r_iconst G (1 : Int32) dX7_loot_22 kc_1 ?_
    refine r_isub G dX7_loot_23 ?_
    refine r_cSR G [.int p1, .int (0 : Int32), .int (((σ 1) (367 : Int32).toNatClampNeg) - (1 : Int32))] [] (c_X7_in (k_l Γ) (k_D Γ) _ _ _ _ h) (va_cwS 3 G.2.2.2.2.1 gX7_loot_X7_in rfl rfl rfl hd_X7_in ⟨Nat.le_of_ble_eq_true rfl, Nat.le_of_ble_eq_true rfl⟩) [] rfl (fun _ _ => k_E0) rfl rfl (Nat.le_of_ble_eq_true rfl) dX7_loot_24 (fun r_24 h => ?_)
    have hz_24 := h.1
    replace h := h.2
    refine r_if_eq G 47 dX7_loot_27 (by decide) (fun hc => ?_) (fun hc => ?_)
    · replace h := h.1 hc
      refine r_bipush G (-6 : Int32) dX7_loot_47 kb_m6 ?_
      exact r_iretR G E dX7_loot_49 h
    · replace h := h.2 hc
      refine r_aload_n G dX7_loot_30 0 rfl rfl ?_
      refine r_get G inX7 0 0 wM_0 rfl (by decide) lk_7 rfl rfl dX7_loot_31 ?_
      refine r_sipush G (295 : Int32) dX7_loot_34 ks_295 ?_
      refine r_iconst G (3 : Int32) dX7_loot_37 kc_3 ?_
      refine r_iload_n G dX7_loot_38 1 rfl rfl ?_
      refine r_imul G dX7_loot_39 ?_
      refine r_iadd G dX7_loot_40 ?_
      refine r_iload_n G dX7_loot_41 2 rfl rfl ?_
      refine r_iadd G dX7_loot_42 ?_
      refine r_iald G 1 0 wM_1 rfl h.1 dX7_loot_43 ?_
      replace h := h.2
      refine r_goto G 49 dX7_loot_44 (by decide) ?_
      exact r_iretR G E dX7_loot_49 h
  · replace h := h.1 hc
    refine r_bipush G (-2 : Int32) dX7_loot_9 kb_m2 ?_
    exact r_iretR G E dX7_loot_11 h
abbrev rm_X7_lootFrom : Room := { frames := 1, cells := 0, slots := 0, locals := 22 }
def wp_X7_lootFrom (σ : k_M) (p1 p2 : Int32) (Q : Int32 → Prop) : Prop :=
  (k_lp1 (fun (B_2 : Int32 → Prop) (x3_2 : Int32) => ((((σ 1) (367 : Int32).toNatClampNeg) ≤ x3_2 → Q (-6 : Int32)) ∧ (¬ ((σ 1) (367 : Int32).toNatClampNeg) ≤ x3_2 → wp_X7_lootOf σ x3_2 (0 : Int32) (fun (r_17 : Int32) => ((r_17 = p1 → ((p2 < 0 → Q x3_2) ∧ (¬ p2 < 0 → wp_X7_lootOf σ x3_2 (1 : Int32) (fun (r_31 : Int32) => ((r_31 = p2 → Q x3_2) ∧ (¬ r_31 = p2 → B_2 (x3_2 + (1 : Int32)))))))) ∧ (¬ r_17 = p1 → B_2 (x3_2 + (1 : Int32)))))))) (0 : Int32))
theorem hd_X7_lootFrom : yX7_lootFrom.cls ≠ "java/lang/invoke/MethodHandle" ∧ yX7_lootFrom.cls ≠ "java/lang/invoke/VarHandle" ∧ (parseMethodDescriptor yX7_lootFrom.desc).map (fun d => d.parameters.length) = some 2 := by decide +kernel
theorem hdv_X7_lootFrom : yX7_lootFrom.cls = RX7 ∧ yX7_lootFrom.cls ≠ "java/lang/invoke/MethodHandle" ∧ yX7_lootFrom.cls ≠ "java/lang/invoke/VarHandle" ∧ (parseMethodDescriptor yX7_lootFrom.desc).map (fun d => d.parameters.length) = some 2 := ⟨rfl, hd_X7_lootFrom⟩
set_option maxHeartbeats 4000000 in
set_option maxRecDepth 100000 in
theorem c_X7_lootFrom (l : Launch) (D : va_G) (a : Nat → Nat) (cI cZ : ClassId) (σ : k_M) (p1 p2 : Int32) (Q : Int32 → Prop) (h : wp_X7_lootFrom σ p1 p2 Q) : Met l yX7_lootFrom wsX7_lootFrom rm_X7_lootFrom (k_PR D [(cI, .int), (cZ, .boolean)] (wM a cI cZ) σ [.ref (a 0), .int p1, .int p2]) (vp_Si Q) 0 0 (fun _ => False) := by
  refine k_metR (by decide) rfl (Nat.le_of_ble_eq_true rfl) ?_
  intro Γ G E
  unfold wp_X7_lootFrom at h
  have inX7 : ∀ w ∈ wsX70, w ∈ wsX7_lootFrom := by decide +kernel
  have lk_7 := G.2.2.2.2.1 (.fieldLink RX7 7 "FreshSharesModel" "state" "[I") (by decide +kernel)
  show k_J Γ rm_X7_lootFrom 4 true (wM a cI cZ) 0 [(0, .ref (a 0)), (1, .int p1), (2, .int p2)] [] σ
  refine r_iconst G (0 : Int32) dX7_lootFrom_0 kc_0 ?_
  refine r_istore_n (lv' := [(3, .int (0 : Int32)), (0, .ref (a 0)), (1, .int p1), (2, .int p2)]) G dX7_lootFrom_1 rfl (by decide) rfl ?_
  obtain ⟨I_2, n_2, h, hI_2⟩ := h
  have key_2 : ∀ (n : Nat) (x3_2 : Int32), I_2 n x3_2 → k_J Γ rm_X7_lootFrom 4 true (wM a cI cZ) 2 [(0, .ref (a 0)), (1, .int p1), (2, .int p2), (3, .int x3_2)] [] σ := by
    intro n
    induction n using Nat.strongRecOn with
    | ind n ih_2 =>
      intro x3_2 h
      replace h := hI_2 n x3_2 h
      refine r_iload_n G dX7_lootFrom_2 3 rfl rfl ?_
      refine r_aload_n G dX7_lootFrom_3 0 rfl rfl ?_
      refine r_get G inX7 0 0 wM_0 rfl (by decide) lk_7 rfl rfl dX7_lootFrom_4 ?_
      refine r_sipush G (367 : Int32) dX7_lootFrom_7 ks_367 ?_
      refine r_iald G 1 0 wM_1 rfl (by unfold vp_in; decide) dX7_lootFrom_10 ?_
      refine r_icmp_ge G 46 dX7_lootFrom_11 (by decide) (fun hc => ?_) (fun hc => ?_)
      · replace h := h.1 hc
        refine r_bipush G (-6 : Int32) dX7_lootFrom_46 kb_m6 ?_
        exact r_iretR G E dX7_lootFrom_48 h
      · replace h := h.2 hc
        refine r_aload_n G dX7_lootFrom_14 0 rfl rfl ?_
        refine r_iload_n G dX7_lootFrom_15 3 rfl rfl ?_
        refine r_iconst G (0 : Int32) dX7_lootFrom_16 kc_0 ?_
        refine r_cVR G (ci := 5) (cq := (RX7, TX7, 9)) [.int x3_2, .int (0 : Int32)] [] (c_X7_lootOf (k_l Γ) (k_D Γ) a cI cZ _ _ _ _ h) 0 rfl wM_0 (cwV 2 G.2.2.2.2.1 gX7_lootFrom_X7_lootOf rfl rfl rfl hdv_X7_lootOf ⟨Nat.le_of_ble_eq_true rfl, Nat.le_of_ble_eq_true rfl⟩) [0, 1] rfl (fun _ hP => hP) rfl rfl (Nat.le_of_ble_eq_true rfl) dX7_lootFrom_17 (fun r_17 h => ?_)
        refine r_iload_n G dX7_lootFrom_20 1 rfl rfl ?_
        refine r_icmp_ne G 40 dX7_lootFrom_21 (by decide) (fun hc => ?_) (fun hc => ?_)
        · replace h := h.2 hc
          refine r_iinc (lv' := [(3, .int (x3_2 + (1 : Int32))), (0, .ref (a 0)), (1, .int p1), (2, .int p2)]) G 3 dX7_lootFrom_40 kc_1 rfl (by decide) rfl ?_
          refine r_goto G 2 dX7_lootFrom_43 (by decide) ?_
          obtain ⟨m_2, hm_2, h⟩ := h
          exact r_sub [1, 2, 3, 0] rfl (ih_2 m_2 hm_2 _ h)
        · replace h := h.1 hc
          refine r_iload_n G dX7_lootFrom_24 2 rfl rfl ?_
          refine r_if_lt G 38 dX7_lootFrom_25 (by decide) (fun hc => ?_) (fun hc => ?_)
          · replace h := h.1 hc
            refine r_iload_n G dX7_lootFrom_38 3 rfl rfl ?_
            exact r_iretR G E dX7_lootFrom_39 h
          · replace h := h.2 hc
            refine r_aload_n G dX7_lootFrom_28 0 rfl rfl ?_
            refine r_iload_n G dX7_lootFrom_29 3 rfl rfl ?_
            refine r_iconst G (1 : Int32) dX7_lootFrom_30 kc_1 ?_
            refine r_cVR G (ci := 5) (cq := (RX7, TX7, 9)) [.int x3_2, .int (1 : Int32)] [] (c_X7_lootOf (k_l Γ) (k_D Γ) a cI cZ _ _ _ _ h) 0 rfl wM_0 (cwV 2 G.2.2.2.2.1 gX7_lootFrom_X7_lootOf rfl rfl rfl hdv_X7_lootOf ⟨Nat.le_of_ble_eq_true rfl, Nat.le_of_ble_eq_true rfl⟩) [0, 1] rfl (fun _ hP => hP) rfl rfl (Nat.le_of_ble_eq_true rfl) dX7_lootFrom_31 (fun r_31 h => ?_)
            refine r_iload_n G dX7_lootFrom_34 2 rfl rfl ?_
            refine r_icmp_ne G 40 dX7_lootFrom_35 (by decide) (fun hc => ?_) (fun hc => ?_)
            · replace h := h.2 hc
              refine r_iinc (lv' := [(3, .int (x3_2 + (1 : Int32))), (0, .ref (a 0)), (1, .int p1), (2, .int p2)]) G 3 dX7_lootFrom_40 kc_1 rfl (by decide) rfl ?_
              refine r_goto G 2 dX7_lootFrom_43 (by decide) ?_
              obtain ⟨m_2, hm_2, h⟩ := h
              exact r_sub [1, 2, 3, 0] rfl (ih_2 m_2 hm_2 _ h)
            · replace h := h.1 hc
              refine r_iload_n G dX7_lootFrom_38 3 rfl rfl ?_
              exact r_iretR G E dX7_lootFrom_39 h
  exact r_sub [1, 2, 3, 0] rfl (key_2 n_2 _ h)
abbrev rm_X7_member : Room := { frames := 3, cells := 0, slots := 0, locals := 68 }
def wp_X7_member (σ : k_M) (p1 p2 : Int32) (Q : Int32 → Prop) : Prop :=
  wp_X7_isMember p1 (fun (r_1 : Int32) => ((r_1 = 0 → Q (-1 : Int32)) ∧ (¬ r_1 = 0 → wp_X7_in p2 (3 : Int32) (7 : Int32) (fun (r_13 : Int32) => ((r_13 = 0 → wp_X7_in p2 (10 : Int32) (14 : Int32) (fun (r_33 : Int32) => ((r_33 = 0 → wp_X7_in p2 (0 : Int32) (2 : Int32) (fun (r_58 : Int32) => ((r_58 = 0 → Q (-2 : Int32)) ∧ (¬ r_58 = 0 → wp_X7_hasShare σ p1 (fun (r_69 : Int32) => ((r_69 = 0 → Q (-6 : Int32)) ∧ (¬ r_69 = 0 → ((p2 = 0 → (vp_in ((40 : Int32) + p1) 371 ∧ Q ((σ 1) ((40 : Int32) + p1).toNatClampNeg))) ∧ (¬ p2 = 0 → ((p2 = (1 : Int32) → wp_X7_told σ p1 (fun (r_101 : Int32) => Q r_101)) ∧ (¬ p2 = (1 : Int32) → wp_X7_told σ p1 (fun (r_110 : Int32) => wp_X7_isFit σ r_110 p1 (fun (r_114 : Int32) => ((r_114 = 0 → Q (0 : Int32)) ∧ (¬ r_114 = 0 → Q (1 : Int32)))))))))))))))) ∧ (¬ r_33 = 0 → (vp_in ((((0 : Int32) + ((5 : Int32) * p1)) + p2) - (10 : Int32)) 371 ∧ Q ((σ 1) ((((0 : Int32) + ((5 : Int32) * p1)) + p2) - (10 : Int32)).toNatClampNeg)))))) ∧ (¬ r_13 = 0 → wp_X7_bentOf σ p1 (p2 - (3 : Int32)) (fun (r_24 : Int32) => Q r_24)))))))
theorem hd_X7_member : yX7_member.cls ≠ "java/lang/invoke/MethodHandle" ∧ yX7_member.cls ≠ "java/lang/invoke/VarHandle" ∧ (parseMethodDescriptor yX7_member.desc).map (fun d => d.parameters.length) = some 2 := by decide +kernel
theorem hdv_X7_member : yX7_member.cls = RX7 ∧ yX7_member.cls ≠ "java/lang/invoke/MethodHandle" ∧ yX7_member.cls ≠ "java/lang/invoke/VarHandle" ∧ (parseMethodDescriptor yX7_member.desc).map (fun d => d.parameters.length) = some 2 := ⟨rfl, hd_X7_member⟩
set_option maxHeartbeats 4000000 in
set_option maxRecDepth 100000 in
theorem c_X7_member (l : Launch) (D : va_G) (a : Nat → Nat) (cI cZ : ClassId) (σ : k_M) (p1 p2 : Int32) (Q : Int32 → Prop) (h : wp_X7_member σ p1 p2 Q) : Met l yX7_member wsX7_member rm_X7_member (k_PR D [(cI, .int), (cZ, .boolean)] (wM a cI cZ) σ [.ref (a 0), .int p1, .int p2]) (vp_Si Q) 0 0 (fun _ => False) := by
  refine k_metR (by decide) rfl (Nat.le_of_ble_eq_true rfl) ?_
  intro Γ G E
  unfold wp_X7_member at h
  have inX7 : ∀ w ∈ wsX70, w ∈ wsX7_member := by decide +kernel
  have lk_7 := G.2.2.2.2.1 (.fieldLink RX7 7 "FreshSharesModel" "state" "[I") (by decide +kernel)
  show k_J Γ rm_X7_member 3 true (wM a cI cZ) 0 [(0, .ref (a 0)), (1, .int p1), (2, .int p2)] [] σ
  refine r_iload_n G dX7_member_0 1 rfl rfl ?_
  refine r_cSR G [.int p1] [] (c_X7_isMember (k_l Γ) (k_D Γ) _ _ h) (va_cwS 1 G.2.2.2.2.1 gX7_member_X7_isMember rfl rfl rfl hd_X7_isMember ⟨Nat.le_of_ble_eq_true rfl, Nat.le_of_ble_eq_true rfl⟩) [] rfl (fun _ _ => k_E0) rfl rfl (Nat.le_of_ble_eq_true rfl) dX7_member_1 (fun r_1 h => ?_)
  have hz_1 := h.1
  replace h := h.2
  refine r_if_ne G 9 dX7_member_4 (by decide) (fun hc => ?_) (fun hc => ?_)
  · replace h := h.2 hc
    refine r_iload_n G dX7_member_9 2 rfl rfl ?_
    refine r_iconst G (3 : Int32) dX7_member_10 kc_3 ?_
    refine r_bipush G (7 : Int32) dX7_member_11 kb_7 ?_
    refine r_cSR G [.int p2, .int (3 : Int32), .int (7 : Int32)] [] (c_X7_in (k_l Γ) (k_D Γ) _ _ _ _ h) (va_cwS 3 G.2.2.2.2.1 gX7_member_X7_in rfl rfl rfl hd_X7_in ⟨Nat.le_of_ble_eq_true rfl, Nat.le_of_ble_eq_true rfl⟩) [] rfl (fun _ _ => k_E0) rfl rfl (Nat.le_of_ble_eq_true rfl) dX7_member_13 (fun r_13 h => ?_)
    have hz_13 := h.1
    replace h := h.2
    refine r_if_eq G 28 dX7_member_16 (by decide) (fun hc => ?_) (fun hc => ?_)
    · replace h := h.1 hc
      refine r_iload_n G dX7_member_28 2 rfl rfl ?_
      refine r_bipush G (10 : Int32) dX7_member_29 kb_10 ?_
      refine r_bipush G (14 : Int32) dX7_member_31 kb_14 ?_
      refine r_cSR G [.int p2, .int (10 : Int32), .int (14 : Int32)] [] (c_X7_in (k_l Γ) (k_D Γ) _ _ _ _ h) (va_cwS 3 G.2.2.2.2.1 gX7_member_X7_in rfl rfl rfl hd_X7_in ⟨Nat.le_of_ble_eq_true rfl, Nat.le_of_ble_eq_true rfl⟩) [] rfl (fun _ _ => k_E0) rfl rfl (Nat.le_of_ble_eq_true rfl) dX7_member_33 (fun r_33 h => ?_)
      have hz_33 := h.1
      replace h := h.2
      refine r_if_eq G 55 dX7_member_36 (by decide) (fun hc => ?_) (fun hc => ?_)
      · replace h := h.1 hc
        refine r_iload_n G dX7_member_55 2 rfl rfl ?_
        refine r_iconst G (0 : Int32) dX7_member_56 kc_0 ?_
        refine r_iconst G (2 : Int32) dX7_member_57 kc_2 ?_
        refine r_cSR G [.int p2, .int (0 : Int32), .int (2 : Int32)] [] (c_X7_in (k_l Γ) (k_D Γ) _ _ _ _ h) (va_cwS 3 G.2.2.2.2.1 gX7_member_X7_in rfl rfl rfl hd_X7_in ⟨Nat.le_of_ble_eq_true rfl, Nat.le_of_ble_eq_true rfl⟩) [] rfl (fun _ _ => k_E0) rfl rfl (Nat.le_of_ble_eq_true rfl) dX7_member_58 (fun r_58 h => ?_)
        have hz_58 := h.1
        replace h := h.2
        refine r_if_ne G 67 dX7_member_61 (by decide) (fun hc => ?_) (fun hc => ?_)
        · replace h := h.2 hc
          refine r_aload_n G dX7_member_67 0 rfl rfl ?_
          refine r_iload_n G dX7_member_68 1 rfl rfl ?_
          refine r_cVR G (ci := 5) (cq := (RX7, TX7, 9)) [.int p1] [] (c_X7_hasShare (k_l Γ) (k_D Γ) a cI cZ _ _ _ h) 0 rfl wM_0 (cwV 1 G.2.2.2.2.1 gX7_member_X7_hasShare rfl rfl rfl hdv_X7_hasShare ⟨Nat.le_of_ble_eq_true rfl, Nat.le_of_ble_eq_true rfl⟩) [0, 1] rfl (fun _ hP => hP) rfl rfl (Nat.le_of_ble_eq_true rfl) dX7_member_69 (fun r_69 h => ?_)
          have hz_69 := h.1
          replace h := h.2
          refine r_if_ne G 78 dX7_member_72 (by decide) (fun hc => ?_) (fun hc => ?_)
          · replace h := h.2 hc
            refine r_iload_n G dX7_member_78 2 rfl rfl ?_
            refine r_if_ne G 94 dX7_member_79 (by decide) (fun hc => ?_) (fun hc => ?_)
            · replace h := h.2 hc
              refine r_iload_n G dX7_member_94 2 rfl rfl ?_
              refine r_iconst G (1 : Int32) dX7_member_95 kc_1 ?_
              refine r_icmp_ne G 107 dX7_member_96 (by decide) (fun hc => ?_) (fun hc => ?_)
              · replace h := h.2 hc
                refine r_aload_n G dX7_member_107 0 rfl rfl ?_
                refine r_aload_n G dX7_member_108 0 rfl rfl ?_
                refine r_iload_n G dX7_member_109 1 rfl rfl ?_
                refine r_cVR G (ci := 5) (cq := (RX7, TX7, 9)) [.int p1] [.ref (a 0)] (c_X7_told (k_l Γ) (k_D Γ) a cI cZ _ _ _ h) 0 rfl wM_0 (cwV 1 G.2.2.2.2.1 gX7_member_X7_told rfl rfl rfl hdv_X7_told ⟨Nat.le_of_ble_eq_true rfl, Nat.le_of_ble_eq_true rfl⟩) [0, 1] rfl (fun _ hP => hP) rfl rfl (Nat.le_of_ble_eq_true rfl) dX7_member_110 (fun r_110 h => ?_)
                refine r_iload_n G dX7_member_113 1 rfl rfl ?_
                refine r_cVR G (ci := 5) (cq := (RX7, TX7, 9)) [.int r_110, .int p1] [] (c_X7_isFit (k_l Γ) (k_D Γ) a cI cZ _ _ _ _ h) 0 rfl wM_0 (cwV 2 G.2.2.2.2.1 gX7_member_X7_isFit rfl rfl rfl hdv_X7_isFit ⟨Nat.le_of_ble_eq_true rfl, Nat.le_of_ble_eq_true rfl⟩) [0, 1] rfl (fun _ hP => hP) rfl rfl (Nat.le_of_ble_eq_true rfl) dX7_member_114 (fun r_114 h => ?_)
                have hz_114 := h.1
                replace h := h.2
                refine r_if_eq G 124 dX7_member_117 (by decide) (fun hc => ?_) (fun hc => ?_)
                · replace h := h.1 hc
                  refine r_iconst G (0 : Int32) dX7_member_124 kc_0 ?_
                  exact r_iretR G E dX7_member_125 h
                · replace h := h.2 hc
                  refine r_iconst G (1 : Int32) dX7_member_120 kc_1 ?_
                  refine r_goto G 125 dX7_member_121 (by decide) ?_
                  exact r_iretR G E dX7_member_125 h
              · replace h := h.1 hc
                refine r_aload_n G dX7_member_99 0 rfl rfl ?_
                refine r_iload_n G dX7_member_100 1 rfl rfl ?_
                refine r_cVR G (ci := 5) (cq := (RX7, TX7, 9)) [.int p1] [] (c_X7_told (k_l Γ) (k_D Γ) a cI cZ _ _ _ h) 0 rfl wM_0 (cwV 1 G.2.2.2.2.1 gX7_member_X7_told rfl rfl rfl hdv_X7_told ⟨Nat.le_of_ble_eq_true rfl, Nat.le_of_ble_eq_true rfl⟩) [0, 1] rfl (fun _ hP => hP) rfl rfl (Nat.le_of_ble_eq_true rfl) dX7_member_101 (fun r_101 h => ?_)
                refine r_goto G 125 dX7_member_104 (by decide) ?_
                exact r_iretR G E dX7_member_125 h
            · replace h := h.1 hc
              refine r_aload_n G dX7_member_82 0 rfl rfl ?_
              refine r_get G inX7 0 0 wM_0 rfl (by decide) lk_7 rfl rfl dX7_member_83 ?_
              refine r_bipush G (40 : Int32) dX7_member_86 kb_40 ?_
              refine r_iload_n G dX7_member_88 1 rfl rfl ?_
              refine r_iadd G dX7_member_89 ?_
              refine r_iald G 1 0 wM_1 rfl h.1 dX7_member_90 ?_
              replace h := h.2
              refine r_goto G 125 dX7_member_91 (by decide) ?_
              exact r_iretR G E dX7_member_125 h
          · replace h := h.1 hc
            refine r_bipush G (-6 : Int32) dX7_member_75 kb_m6 ?_
            exact r_iretR G E dX7_member_77 h
        · replace h := h.1 hc
          refine r_bipush G (-2 : Int32) dX7_member_64 kb_m2 ?_
          exact r_iretR G E dX7_member_66 h
      · replace h := h.2 hc
        refine r_aload_n G dX7_member_39 0 rfl rfl ?_
        refine r_get G inX7 0 0 wM_0 rfl (by decide) lk_7 rfl rfl dX7_member_40 ?_
        refine r_iconst G (0 : Int32) dX7_member_43 kc_0 ?_
        refine r_iconst G (5 : Int32) dX7_member_44 kc_5 ?_
        refine r_iload_n G dX7_member_45 1 rfl rfl ?_
        refine r_imul G dX7_member_46 ?_
        refine r_iadd G dX7_member_47 ?_
        refine r_iload_n G dX7_member_48 2 rfl rfl ?_
        refine r_iadd G dX7_member_49 ?_
        refine r_bipush G (10 : Int32) dX7_member_50 kb_10 ?_
        refine r_isub G dX7_member_52 ?_
        refine r_iald G 1 0 wM_1 rfl h.1 dX7_member_53 ?_
        replace h := h.2
        exact r_iretR G E dX7_member_54 h
    · replace h := h.2 hc
      refine r_aload_n G dX7_member_19 0 rfl rfl ?_
      refine r_iload_n G dX7_member_20 1 rfl rfl ?_
      refine r_iload_n G dX7_member_21 2 rfl rfl ?_
      refine r_iconst G (3 : Int32) dX7_member_22 kc_3 ?_
      refine r_isub G dX7_member_23 ?_
      refine r_cVR G (ci := 5) (cq := (RX7, TX7, 9)) [.int p1, .int (p2 - (3 : Int32))] [] (c_X7_bentOf (k_l Γ) (k_D Γ) a cI cZ _ _ _ _ h) 0 rfl wM_0 (cwV 2 G.2.2.2.2.1 gX7_member_X7_bentOf rfl rfl rfl hdv_X7_bentOf ⟨Nat.le_of_ble_eq_true rfl, Nat.le_of_ble_eq_true rfl⟩) [0, 1] rfl (fun _ hP => hP) rfl rfl (Nat.le_of_ble_eq_true rfl) dX7_member_24 (fun r_24 h => ?_)
      exact r_iretR G E dX7_member_27 h
  · replace h := h.1 hc
    refine r_iconst G (-1 : Int32) dX7_member_7 kc_m1 ?_
    exact r_iretR G E dX7_member_8 h
abbrev rm_X7_named : Room := { frames := 0, cells := 0, slots := 0, locals := 0 }
def wp_X7_named (σ : k_M) (p1 : Int32) (Q : Int32 → Prop) : Prop :=
  ((p1 = 0 → Q ((σ 1) (369 : Int32).toNatClampNeg)) ∧ (¬ p1 = 0 → ((p1 = (1 : Int32) → Q ((σ 1) (370 : Int32).toNatClampNeg)) ∧ (¬ p1 = (1 : Int32) → Q (-2 : Int32)))))
theorem hd_X7_named : yX7_named.cls ≠ "java/lang/invoke/MethodHandle" ∧ yX7_named.cls ≠ "java/lang/invoke/VarHandle" ∧ (parseMethodDescriptor yX7_named.desc).map (fun d => d.parameters.length) = some 1 := by decide +kernel
theorem hdv_X7_named : yX7_named.cls = RX7 ∧ yX7_named.cls ≠ "java/lang/invoke/MethodHandle" ∧ yX7_named.cls ≠ "java/lang/invoke/VarHandle" ∧ (parseMethodDescriptor yX7_named.desc).map (fun d => d.parameters.length) = some 1 := ⟨rfl, hd_X7_named⟩
set_option maxHeartbeats 4000000 in
set_option maxRecDepth 100000 in
theorem c_X7_named (l : Launch) (D : va_G) (a : Nat → Nat) (cI cZ : ClassId) (σ : k_M) (p1 : Int32) (Q : Int32 → Prop) (h : wp_X7_named σ p1 Q) : Met l yX7_named wsX7_named rm_X7_named (k_PR D [(cI, .int), (cZ, .boolean)] (wM a cI cZ) σ [.ref (a 0), .int p1]) (vp_Si Q) 0 0 (fun _ => False) := by
  refine k_metR (by decide) rfl (Nat.le_of_ble_eq_true rfl) ?_
  intro Γ G E
  unfold wp_X7_named at h
  have inX7 : ∀ w ∈ wsX70, w ∈ wsX7_named := by decide +kernel
  have lk_7 := G.2.2.2.2.1 (.fieldLink RX7 7 "FreshSharesModel" "state" "[I") (by decide +kernel)
  show k_J Γ rm_X7_named 2 true (wM a cI cZ) 0 [(0, .ref (a 0)), (1, .int p1)] [] σ
  refine r_iload_n G dX7_named_0 1 rfl rfl ?_
  refine r_if_ne G 15 dX7_named_1 (by decide) (fun hc => ?_) (fun hc => ?_)
  · replace h := h.2 hc
    refine r_iload_n G dX7_named_15 1 rfl rfl ?_
    refine r_iconst G (1 : Int32) dX7_named_16 kc_1 ?_
    refine r_icmp_ne G 31 dX7_named_17 (by decide) (fun hc => ?_) (fun hc => ?_)
    · replace h := h.2 hc
      refine r_bipush G (-2 : Int32) dX7_named_31 kb_m2 ?_
      exact r_iretR G E dX7_named_33 h
    · replace h := h.1 hc
      refine r_aload_n G dX7_named_20 0 rfl rfl ?_
      refine r_get G inX7 0 0 wM_0 rfl (by decide) lk_7 rfl rfl dX7_named_21 ?_
      refine r_sipush G (370 : Int32) dX7_named_24 ks_370 ?_
      refine r_iald G 1 0 wM_1 rfl (by unfold vp_in; decide) dX7_named_27 ?_
      refine r_goto G 33 dX7_named_28 (by decide) ?_
      exact r_iretR G E dX7_named_33 h
  · replace h := h.1 hc
    refine r_aload_n G dX7_named_4 0 rfl rfl ?_
    refine r_get G inX7 0 0 wM_0 rfl (by decide) lk_7 rfl rfl dX7_named_5 ?_
    refine r_sipush G (369 : Int32) dX7_named_8 ks_369 ?_
    refine r_iald G 1 0 wM_1 rfl (by unfold vp_in; decide) dX7_named_11 ?_
    refine r_goto G 33 dX7_named_12 (by decide) ?_
    exact r_iretR G E dX7_named_33 h
abbrev rm_X7_opened : Room := { frames := 3, cells := 0, slots := 0, locals := 68 }
def wp_X7_opened (σ : k_M) (p1 p2 : Int32) (Q : Int32 → Prop) : Prop :=
  (k_lp2 (fun (B_5 : Int32 → Int32 → Prop) (x3_5 : Int32) (x4_5 : Int32) => (((7 : Int32) < x4_5 → Q (k_rem x3_5 (23 : Int32))) ∧ (¬ (7 : Int32) < x4_5 → wp_X7_has p1 x4_5 (fun (r_16 : Int32) => ((r_16 = 0 → B_5 (x3_5 + (0 : Int32)) (x4_5 + (1 : Int32))) ∧ (¬ r_16 = 0 → wp_X7_lootFrom σ x4_5 p2 (fun (r_27 : Int32) => wp_X7_lootOf σ r_27 (2 : Int32) (fun (r_31 : Int32) => wp_X7_weight x4_5 p1 (0 : Int32) (fun (r_38 : Int32) => B_5 (x3_5 + (r_31 * r_38)) (x4_5 + (1 : Int32))))))))))) (0 : Int32) (1 : Int32))
theorem hd_X7_opened : yX7_opened.cls ≠ "java/lang/invoke/MethodHandle" ∧ yX7_opened.cls ≠ "java/lang/invoke/VarHandle" ∧ (parseMethodDescriptor yX7_opened.desc).map (fun d => d.parameters.length) = some 2 := by decide +kernel
theorem hdv_X7_opened : yX7_opened.cls = RX7 ∧ yX7_opened.cls ≠ "java/lang/invoke/MethodHandle" ∧ yX7_opened.cls ≠ "java/lang/invoke/VarHandle" ∧ (parseMethodDescriptor yX7_opened.desc).map (fun d => d.parameters.length) = some 2 := ⟨rfl, hd_X7_opened⟩
set_option maxHeartbeats 4000000 in
set_option maxRecDepth 100000 in
theorem c_X7_opened (l : Launch) (D : va_G) (a : Nat → Nat) (cI cZ : ClassId) (σ : k_M) (p1 p2 : Int32) (Q : Int32 → Prop) (h : wp_X7_opened σ p1 p2 Q) : Met l yX7_opened wsX7_opened rm_X7_opened (k_PR D [(cI, .int), (cZ, .boolean)] (wM a cI cZ) σ [.ref (a 0), .int p1, .int p2]) (vp_Si Q) 0 0 (fun _ => False) := by
  refine k_metR (by decide) rfl (Nat.le_of_ble_eq_true rfl) ?_
  intro Γ G E
  unfold wp_X7_opened at h
  show k_J Γ rm_X7_opened 5 true (wM a cI cZ) 0 [(0, .ref (a 0)), (1, .int p1), (2, .int p2)] [] σ
  refine r_iconst G (0 : Int32) dX7_opened_0 kc_0 ?_
  refine r_istore_n (lv' := [(3, .int (0 : Int32)), (0, .ref (a 0)), (1, .int p1), (2, .int p2)]) G dX7_opened_1 rfl (by decide) rfl ?_
  refine r_iconst G (1 : Int32) dX7_opened_2 kc_1 ?_
  refine r_istore (lv' := [(4, .int (1 : Int32)), (3, .int (0 : Int32)), (0, .ref (a 0)), (1, .int p1), (2, .int p2)]) G dX7_opened_3 (by decide) rfl ?_
  obtain ⟨I_5, n_5, h, hI_5⟩ := h
  have key_5 : ∀ (n : Nat) (x3_5 : Int32) (x4_5 : Int32), I_5 n x3_5 x4_5 → k_J Γ rm_X7_opened 5 true (wM a cI cZ) 5 [(0, .ref (a 0)), (1, .int p1), (2, .int p2), (3, .int x3_5), (4, .int x4_5)] [] σ := by
    intro n
    induction n using Nat.strongRecOn with
    | ind n ih_5 =>
      intro x3_5 x4_5 h
      replace h := hI_5 n x3_5 x4_5 h
      refine r_iload G dX7_opened_5 4 rfl ?_
      refine r_bipush G (7 : Int32) dX7_opened_7 kb_7 ?_
      refine r_icmp_gt G 54 dX7_opened_9 (by decide) (fun hc => ?_) (fun hc => ?_)
      · replace h := h.1 hc
        refine r_iload_n G dX7_opened_54 3 rfl rfl ?_
        refine r_bipush G (23 : Int32) dX7_opened_55 kb_23 ?_
        refine r_irem G kne_23 dX7_opened_57 ?_
        exact r_iretR G E dX7_opened_58 h
      · replace h := h.2 hc
        refine r_iload_n G dX7_opened_12 3 rfl rfl ?_
        refine r_iload_n G dX7_opened_13 1 rfl rfl ?_
        refine r_iload G dX7_opened_14 4 rfl ?_
        refine r_cSR G [.int p1, .int x4_5] [.int x3_5] (c_X7_has (k_l Γ) (k_D Γ) _ _ _ h) (va_cwS 2 G.2.2.2.2.1 gX7_opened_X7_has rfl rfl rfl hd_X7_has ⟨Nat.le_of_ble_eq_true rfl, Nat.le_of_ble_eq_true rfl⟩) [] rfl (fun _ _ => k_E0) rfl rfl (Nat.le_of_ble_eq_true rfl) dX7_opened_16 (fun r_16 h => ?_)
        have hz_16 := h.1
        replace h := h.2
        refine r_if_eq G 45 dX7_opened_19 (by decide) (fun hc => ?_) (fun hc => ?_)
        · replace h := h.1 hc
          refine r_iconst G (0 : Int32) dX7_opened_45 kc_0 ?_
          refine r_iadd G dX7_opened_46 ?_
          refine r_istore_n (lv' := [(3, .int (x3_5 + (0 : Int32))), (0, .ref (a 0)), (1, .int p1), (2, .int p2), (4, .int x4_5)]) G dX7_opened_47 rfl (by decide) rfl ?_
          refine r_iinc (lv' := [(4, .int (x4_5 + (1 : Int32))), (3, .int (x3_5 + (0 : Int32))), (0, .ref (a 0)), (1, .int p1), (2, .int p2)]) G 4 dX7_opened_48 kc_1 rfl (by decide) rfl ?_
          refine r_goto G 5 dX7_opened_51 (by decide) ?_
          obtain ⟨m_5, hm_5, h⟩ := h
          exact r_sub [2, 3, 4, 1, 0] rfl (ih_5 m_5 hm_5 _ _ h)
        · replace h := h.2 hc
          refine r_aload_n G dX7_opened_22 0 rfl rfl ?_
          refine r_aload_n G dX7_opened_23 0 rfl rfl ?_
          refine r_iload G dX7_opened_24 4 rfl ?_
          refine r_iload_n G dX7_opened_26 2 rfl rfl ?_
          refine r_cVR G (ci := 5) (cq := (RX7, TX7, 9)) [.int x4_5, .int p2] [.ref (a 0), .int x3_5] (c_X7_lootFrom (k_l Γ) (k_D Γ) a cI cZ _ _ _ _ h) 0 rfl wM_0 (cwV 2 G.2.2.2.2.1 gX7_opened_X7_lootFrom rfl rfl rfl hdv_X7_lootFrom ⟨Nat.le_of_ble_eq_true rfl, Nat.le_of_ble_eq_true rfl⟩) [0, 1] rfl (fun _ hP => hP) rfl rfl (Nat.le_of_ble_eq_true rfl) dX7_opened_27 (fun r_27 h => ?_)
          refine r_iconst G (2 : Int32) dX7_opened_30 kc_2 ?_
          refine r_cVR G (ci := 5) (cq := (RX7, TX7, 9)) [.int r_27, .int (2 : Int32)] [.int x3_5] (c_X7_lootOf (k_l Γ) (k_D Γ) a cI cZ _ _ _ _ h) 0 rfl wM_0 (cwV 2 G.2.2.2.2.1 gX7_opened_X7_lootOf rfl rfl rfl hdv_X7_lootOf ⟨Nat.le_of_ble_eq_true rfl, Nat.le_of_ble_eq_true rfl⟩) [0, 1] rfl (fun _ hP => hP) rfl rfl (Nat.le_of_ble_eq_true rfl) dX7_opened_31 (fun r_31 h => ?_)
          refine r_iload G dX7_opened_34 4 rfl ?_
          refine r_iload_n G dX7_opened_36 1 rfl rfl ?_
          refine r_iconst G (0 : Int32) dX7_opened_37 kc_0 ?_
          refine r_cSR G [.int x4_5, .int p1, .int (0 : Int32)] [.int r_31, .int x3_5] (c_X7_weight (k_l Γ) (k_D Γ) _ _ _ _ h) (va_cwS 3 G.2.2.2.2.1 gX7_opened_X7_weight rfl rfl rfl hd_X7_weight ⟨Nat.le_of_ble_eq_true rfl, Nat.le_of_ble_eq_true rfl⟩) [] rfl (fun _ _ => k_E0) rfl rfl (Nat.le_of_ble_eq_true rfl) dX7_opened_38 (fun r_38 h => ?_)
          refine r_imul G dX7_opened_41 ?_
          refine r_goto G 46 dX7_opened_42 (by decide) ?_
          refine r_iadd G dX7_opened_46 ?_
          refine r_istore_n (lv' := [(3, .int (x3_5 + (r_31 * r_38))), (0, .ref (a 0)), (1, .int p1), (2, .int p2), (4, .int x4_5)]) G dX7_opened_47 rfl (by decide) rfl ?_
          refine r_iinc (lv' := [(4, .int (x4_5 + (1 : Int32))), (3, .int (x3_5 + (r_31 * r_38))), (0, .ref (a 0)), (1, .int p1), (2, .int p2)]) G 4 dX7_opened_48 kc_1 rfl (by decide) rfl ?_
          refine r_goto G 5 dX7_opened_51 (by decide) ?_
          obtain ⟨m_5, hm_5, h⟩ := h
          exact r_sub [2, 3, 4, 1, 0] rfl (ih_5 m_5 hm_5 _ _ h)
  exact r_sub [2, 3, 4, 1, 0] rfl (key_5 n_5 _ _ h)
abbrev rm_X7_restore : Room := { frames := 1, cells := 0, slots := 0, locals := 22 }
def wp_X7_restore (σ : k_M) (p1 : Int32) (Q : Int32 → k_M → Prop) : Prop :=
  wp_X7_in p1 (0 : Int32) (1 : Int32) (fun (r_3 : Int32) => ((r_3 = 0 → Q (-2 : Int32) σ) ∧ (¬ r_3 = 0 → (vp_in p1 2 ∧ ((((σ 7) p1.toNatClampNeg) = 0 → Q (-5 : Int32) σ) ∧ (¬ ((σ 7) p1.toNatClampNeg) = 0 → (k_lp2 (fun (B_26 : Int32 → k_M → Prop) (x2_26 : Int32) (σ_26 : k_M) => (((371 : Int32) ≤ x2_26 → Q (1 : Int32) σ_26) ∧ (¬ (371 : Int32) ≤ x2_26 → (vp_in (((371 : Int32) * p1) + x2_26) 742 ∧ (vp_in x2_26 371 ∧ B_26 (x2_26 + (1 : Int32)) (k_put σ_26 1 x2_26.toNatClampNeg ((σ_26 6) (((371 : Int32) * p1) + x2_26).toNatClampNeg))))))) (0 : Int32) σ)))))))
theorem hd_X7_restore : yX7_restore.cls ≠ "java/lang/invoke/MethodHandle" ∧ yX7_restore.cls ≠ "java/lang/invoke/VarHandle" ∧ (parseMethodDescriptor yX7_restore.desc).map (fun d => d.parameters.length) = some 1 := by decide +kernel
theorem hdv_X7_restore : yX7_restore.cls = RX7 ∧ yX7_restore.cls ≠ "java/lang/invoke/MethodHandle" ∧ yX7_restore.cls ≠ "java/lang/invoke/VarHandle" ∧ (parseMethodDescriptor yX7_restore.desc).map (fun d => d.parameters.length) = some 1 := ⟨rfl, hd_X7_restore⟩
set_option maxHeartbeats 4000000 in
set_option maxRecDepth 100000 in
theorem c_X7_restore (l : Launch) (D : va_G) (a : Nat → Nat) (cI cZ : ClassId) (σ : k_M) (p1 : Int32) (Q : Int32 → k_M → Prop) (h : wp_X7_restore σ p1 Q) : Met l yX7_restore wsX7_restore rm_X7_restore (k_PW D [(cI, .int), (cZ, .boolean)] (wM a cI cZ) σ [.ref (a 0), .int p1]) (k_Qi D (wM a cI cZ) Q) 0 0 (k_wA (wM a cI cZ)) := by
  refine k_metW (Qc := fun D => k_Qi D (wM a cI cZ) Q) (by decide) rfl (Nat.le_of_ble_eq_true rfl) ?_
  intro Γ G hD E
  unfold wp_X7_restore at h
  have inX7 : ∀ w ∈ wsX70, w ∈ wsX7_restore := by decide +kernel
  have lk_7 := G.2.2.2.2.1 (.fieldLink RX7 7 "FreshSharesModel" "state" "[I") (by decide +kernel)
  have lk_25 := G.2.2.2.2.1 (.fieldLink RX7 25 "FreshSharesModel" "images" "[I") (by decide +kernel)
  have lk_28 := G.2.2.2.2.1 (.fieldLink RX7 28 "FreshSharesModel" "isKept" "[Z") (by decide +kernel)
  show k_J Γ rm_X7_restore 3 false (wM a cI cZ) 0 [(0, .ref (a 0)), (1, .int p1)] [] σ
  refine r_iload_n G dX7_restore_0 1 rfl rfl ?_
  refine r_iconst G (0 : Int32) dX7_restore_1 kc_0 ?_
  refine r_iconst G (1 : Int32) dX7_restore_2 kc_1 ?_
  refine r_cSR G [.int p1, .int (0 : Int32), .int (1 : Int32)] [] (c_X7_in (k_l Γ) (k_D Γ) _ _ _ _ h) (va_cwS 3 G.2.2.2.2.1 gX7_restore_X7_in rfl rfl rfl hd_X7_in ⟨Nat.le_of_ble_eq_true rfl, Nat.le_of_ble_eq_true rfl⟩) [] rfl (fun _ _ => k_E0) rfl rfl (Nat.le_of_ble_eq_true rfl) dX7_restore_3 (fun r_3 h => ?_)
  have hz_3 := h.1
  replace h := h.2
  refine r_if_ne G 12 dX7_restore_6 (by decide) (fun hc => ?_) (fun hc => ?_)
  · replace h := h.2 hc
    refine r_aload_n G dX7_restore_12 0 rfl rfl ?_
    refine r_get G inX7 0 8 wM_0 rfl (by decide) lk_28 rfl rfl dX7_restore_13 ?_
    refine r_iload_n G dX7_restore_16 1 rfl rfl ?_
    refine r_zald G 7 1 wM_7 rfl h.1 dX7_restore_17 ?_
    replace h := h.2
    refine r_if_ne G 24 dX7_restore_18 (by decide) (fun hc => ?_) (fun hc => ?_)
    · replace h := h.2 hc
      refine r_iconst G (0 : Int32) dX7_restore_24 kc_0 ?_
      refine r_istore_n (lv' := [(2, .int (0 : Int32)), (0, .ref (a 0)), (1, .int p1)]) G dX7_restore_25 rfl (by decide) rfl ?_
      obtain ⟨I_26, n_26, h, hI_26⟩ := h
      have key_26 : ∀ (n : Nat) (x2_26 : Int32) (σ_26 : k_M), I_26 n x2_26 σ_26 → k_J Γ rm_X7_restore 3 false (wM a cI cZ) 26 [(0, .ref (a 0)), (1, .int p1), (2, .int x2_26)] [] σ_26 := by
        intro n
        induction n using Nat.strongRecOn with
        | ind n ih_26 =>
          intro x2_26 σ_26 h
          replace h := hI_26 n x2_26 σ_26 h
          refine r_iload_n G dX7_restore_26 2 rfl rfl ?_
          refine r_sipush G (371 : Int32) dX7_restore_27 ks_371 ?_
          refine r_icmp_ge G 57 dX7_restore_30 (by decide) (fun hc => ?_) (fun hc => ?_)
          · replace h := h.1 hc
            refine r_iconst G (1 : Int32) dX7_restore_57 kc_1 ?_
            exact r_iretW G E dX7_restore_58 h
          · replace h := h.2 hc
            refine r_aload_n G dX7_restore_33 0 rfl rfl ?_
            refine r_get G inX7 0 0 wM_0 rfl (by decide) lk_7 rfl rfl dX7_restore_34 ?_
            refine r_iload_n G dX7_restore_37 2 rfl rfl ?_
            refine r_aload_n G dX7_restore_38 0 rfl rfl ?_
            refine r_get G inX7 0 7 wM_0 rfl (by decide) lk_25 rfl rfl dX7_restore_39 ?_
            refine r_sipush G (371 : Int32) dX7_restore_42 ks_371 ?_
            refine r_iload_n G dX7_restore_45 1 rfl rfl ?_
            refine r_imul G dX7_restore_46 ?_
            refine r_iload_n G dX7_restore_47 2 rfl rfl ?_
            refine r_iadd G dX7_restore_48 ?_
            refine r_iald G 6 0 wM_6 rfl h.1 dX7_restore_49 ?_
            replace h := h.2
            refine r_iast G hD 1 0 wM_1 rfl h.1 _ wM_1_s dX7_restore_50 ?_
            replace h := h.2
            refine r_iinc (lv' := [(2, .int (x2_26 + (1 : Int32))), (0, .ref (a 0)), (1, .int p1)]) G 2 dX7_restore_51 kc_1 rfl (by decide) rfl ?_
            refine r_goto G 26 dX7_restore_54 (by decide) ?_
            obtain ⟨m_26, hm_26, h⟩ := h
            exact r_sub [1, 2, 0] rfl (ih_26 m_26 hm_26 _ _ h)
      exact r_sub [1, 2, 0] rfl (key_26 n_26 _ _ h)
    · replace h := h.1 hc
      refine r_bipush G (-5 : Int32) dX7_restore_21 kb_m5 ?_
      exact r_iretW G E dX7_restore_23 h
  · replace h := h.1 hc
    refine r_bipush G (-2 : Int32) dX7_restore_9 kb_m2 ?_
    exact r_iretW G E dX7_restore_11 h
abbrev rm_X7_robbed : Room := { frames := 2, cells := 0, slots := 0, locals := 45 }
def wp_X7_robbed (σ : k_M) (p1 : Int32) (Q : Int32 → Prop) : Prop :=
  (k_lp2 (fun (B_4 : Int32 → Int32 → Prop) (x2_4 : Int32) (x3_4 : Int32) => (((7 : Int32) < x3_4 → Q x2_4) ∧ (¬ (7 : Int32) < x3_4 → wp_X7_lootFrom σ x3_4 p1 (fun (r_14 : Int32) => ((r_14 < 0 → B_4 (x2_4 ||| (0 : Int32)) (x3_4 + (1 : Int32))) ∧ (¬ r_14 < 0 → B_4 (x2_4 ||| ((1 : Int32) <<< (x3_4 &&& 31))) (x3_4 + (1 : Int32)))))))) (0 : Int32) (1 : Int32))
theorem hd_X7_robbed : yX7_robbed.cls ≠ "java/lang/invoke/MethodHandle" ∧ yX7_robbed.cls ≠ "java/lang/invoke/VarHandle" ∧ (parseMethodDescriptor yX7_robbed.desc).map (fun d => d.parameters.length) = some 1 := by decide +kernel
theorem hdv_X7_robbed : yX7_robbed.cls = RX7 ∧ yX7_robbed.cls ≠ "java/lang/invoke/MethodHandle" ∧ yX7_robbed.cls ≠ "java/lang/invoke/VarHandle" ∧ (parseMethodDescriptor yX7_robbed.desc).map (fun d => d.parameters.length) = some 1 := ⟨rfl, hd_X7_robbed⟩
set_option maxHeartbeats 4000000 in
set_option maxRecDepth 100000 in
theorem c_X7_robbed (l : Launch) (D : va_G) (a : Nat → Nat) (cI cZ : ClassId) (σ : k_M) (p1 : Int32) (Q : Int32 → Prop) (h : wp_X7_robbed σ p1 Q) : Met l yX7_robbed wsX7_robbed rm_X7_robbed (k_PR D [(cI, .int), (cZ, .boolean)] (wM a cI cZ) σ [.ref (a 0), .int p1]) (vp_Si Q) 0 0 (fun _ => False) := by
  refine k_metR (by decide) rfl (Nat.le_of_ble_eq_true rfl) ?_
  intro Γ G E
  unfold wp_X7_robbed at h
  show k_J Γ rm_X7_robbed 4 true (wM a cI cZ) 0 [(0, .ref (a 0)), (1, .int p1)] [] σ
  refine r_iconst G (0 : Int32) dX7_robbed_0 kc_0 ?_
  refine r_istore_n (lv' := [(2, .int (0 : Int32)), (0, .ref (a 0)), (1, .int p1)]) G dX7_robbed_1 rfl (by decide) rfl ?_
  refine r_iconst G (1 : Int32) dX7_robbed_2 kc_1 ?_
  refine r_istore_n (lv' := [(3, .int (1 : Int32)), (2, .int (0 : Int32)), (0, .ref (a 0)), (1, .int p1)]) G dX7_robbed_3 rfl (by decide) rfl ?_
  obtain ⟨I_4, n_4, h, hI_4⟩ := h
  have key_4 : ∀ (n : Nat) (x2_4 : Int32) (x3_4 : Int32), I_4 n x2_4 x3_4 → k_J Γ rm_X7_robbed 4 true (wM a cI cZ) 4 [(0, .ref (a 0)), (1, .int p1), (2, .int x2_4), (3, .int x3_4)] [] σ := by
    intro n
    induction n using Nat.strongRecOn with
    | ind n ih_4 =>
      intro x2_4 x3_4 h
      replace h := hI_4 n x2_4 x3_4 h
      refine r_iload_n G dX7_robbed_4 3 rfl rfl ?_
      refine r_bipush G (7 : Int32) dX7_robbed_5 kb_7 ?_
      refine r_icmp_gt G 35 dX7_robbed_7 (by decide) (fun hc => ?_) (fun hc => ?_)
      · replace h := h.1 hc
        refine r_iload_n G dX7_robbed_35 2 rfl rfl ?_
        exact r_iretR G E dX7_robbed_36 h
      · replace h := h.2 hc
        refine r_iload_n G dX7_robbed_10 2 rfl rfl ?_
        refine r_aload_n G dX7_robbed_11 0 rfl rfl ?_
        refine r_iload_n G dX7_robbed_12 3 rfl rfl ?_
        refine r_iload_n G dX7_robbed_13 1 rfl rfl ?_
        refine r_cVR G (ci := 5) (cq := (RX7, TX7, 9)) [.int x3_4, .int p1] [.int x2_4] (c_X7_lootFrom (k_l Γ) (k_D Γ) a cI cZ _ _ _ _ h) 0 rfl wM_0 (cwV 2 G.2.2.2.2.1 gX7_robbed_X7_lootFrom rfl rfl rfl hdv_X7_lootFrom ⟨Nat.le_of_ble_eq_true rfl, Nat.le_of_ble_eq_true rfl⟩) [0, 1] rfl (fun _ hP => hP) rfl rfl (Nat.le_of_ble_eq_true rfl) dX7_robbed_14 (fun r_14 h => ?_)
        refine r_if_lt G 26 dX7_robbed_17 (by decide) (fun hc => ?_) (fun hc => ?_)
        · replace h := h.1 hc
          refine r_iconst G (0 : Int32) dX7_robbed_26 kc_0 ?_
          refine r_ior G dX7_robbed_27 ?_
          refine r_istore_n (lv' := [(2, .int (x2_4 ||| (0 : Int32))), (0, .ref (a 0)), (1, .int p1), (3, .int x3_4)]) G dX7_robbed_28 rfl (by decide) rfl ?_
          refine r_iinc (lv' := [(3, .int (x3_4 + (1 : Int32))), (2, .int (x2_4 ||| (0 : Int32))), (0, .ref (a 0)), (1, .int p1)]) G 3 dX7_robbed_29 kc_1 rfl (by decide) rfl ?_
          refine r_goto G 4 dX7_robbed_32 (by decide) ?_
          obtain ⟨m_4, hm_4, h⟩ := h
          exact r_sub [2, 3, 1, 0] rfl (ih_4 m_4 hm_4 _ _ h)
        · replace h := h.2 hc
          refine r_iconst G (1 : Int32) dX7_robbed_20 kc_1 ?_
          refine r_iload_n G dX7_robbed_21 3 rfl rfl ?_
          refine r_ishl G dX7_robbed_22 ?_
          refine r_goto G 27 dX7_robbed_23 (by decide) ?_
          refine r_ior G dX7_robbed_27 ?_
          refine r_istore_n (lv' := [(2, .int (x2_4 ||| ((1 : Int32) <<< (x3_4 &&& 31)))), (0, .ref (a 0)), (1, .int p1), (3, .int x3_4)]) G dX7_robbed_28 rfl (by decide) rfl ?_
          refine r_iinc (lv' := [(3, .int (x3_4 + (1 : Int32))), (2, .int (x2_4 ||| ((1 : Int32) <<< (x3_4 &&& 31)))), (0, .ref (a 0)), (1, .int p1)]) G 3 dX7_robbed_29 kc_1 rfl (by decide) rfl ?_
          refine r_goto G 4 dX7_robbed_32 (by decide) ?_
          obtain ⟨m_4, hm_4, h⟩ := h
          exact r_sub [2, 3, 1, 0] rfl (ih_4 m_4 hm_4 _ _ h)
  exact r_sub [2, 3, 1, 0] rfl (key_4 n_4 _ _ h)
abbrev rm_X7_row : Room := { frames := 2, cells := 0, slots := 0, locals := 42 }
def wp_X7_row (σ : k_M) (p1 p2 p3 : Int32) (Q : Int32 → k_M → Prop) : Prop :=
  wp_X7_in p1 (0 : Int32) (7 : Int32) (fun (r_4 : Int32) => ((r_4 = 0 → Q (-1 : Int32) σ) ∧ (¬ r_4 = 0 → wp_X7_in p2 (0 : Int32) (4 : Int32) (fun (r_15 : Int32) => ((r_15 = 0 → Q (-2 : Int32) σ) ∧ (¬ r_15 = 0 → wp_X7_isValue p3 (fun (r_22 : Int32) => ((r_22 = 0 → Q (-2 : Int32) σ) ∧ (¬ r_22 = 0 → (vp_in (((0 : Int32) + ((5 : Int32) * p1)) + p2) 371 ∧ (vp_in (((0 : Int32) + ((5 : Int32) * p1)) + p2) 371 ∧ Q ((σ 1) (((0 : Int32) + ((5 : Int32) * p1)) + p2).toNatClampNeg) (k_put σ 1 (((0 : Int32) + ((5 : Int32) * p1)) + p2).toNatClampNeg p3))))))))))))
theorem hd_X7_row : yX7_row.cls ≠ "java/lang/invoke/MethodHandle" ∧ yX7_row.cls ≠ "java/lang/invoke/VarHandle" ∧ (parseMethodDescriptor yX7_row.desc).map (fun d => d.parameters.length) = some 3 := by decide +kernel
theorem hdv_X7_row : yX7_row.cls = RX7 ∧ yX7_row.cls ≠ "java/lang/invoke/MethodHandle" ∧ yX7_row.cls ≠ "java/lang/invoke/VarHandle" ∧ (parseMethodDescriptor yX7_row.desc).map (fun d => d.parameters.length) = some 3 := ⟨rfl, hd_X7_row⟩
set_option maxHeartbeats 4000000 in
set_option maxRecDepth 100000 in
theorem c_X7_row (l : Launch) (D : va_G) (a : Nat → Nat) (cI cZ : ClassId) (σ : k_M) (p1 p2 p3 : Int32) (Q : Int32 → k_M → Prop) (h : wp_X7_row σ p1 p2 p3 Q) : Met l yX7_row wsX7_row rm_X7_row (k_PW D [(cI, .int), (cZ, .boolean)] (wM a cI cZ) σ [.ref (a 0), .int p1, .int p2, .int p3]) (k_Qi D (wM a cI cZ) Q) 0 0 (k_wA (wM a cI cZ)) := by
  refine k_metW (Qc := fun D => k_Qi D (wM a cI cZ) Q) (by decide) rfl (Nat.le_of_ble_eq_true rfl) ?_
  intro Γ G hD E
  unfold wp_X7_row at h
  have inX7 : ∀ w ∈ wsX70, w ∈ wsX7_row := by decide +kernel
  have lk_7 := G.2.2.2.2.1 (.fieldLink RX7 7 "FreshSharesModel" "state" "[I") (by decide +kernel)
  show k_J Γ rm_X7_row 5 false (wM a cI cZ) 0 [(0, .ref (a 0)), (1, .int p1), (2, .int p2), (3, .int p3)] [] σ
  refine r_iload_n G dX7_row_0 1 rfl rfl ?_
  refine r_iconst G (0 : Int32) dX7_row_1 kc_0 ?_
  refine r_bipush G (7 : Int32) dX7_row_2 kb_7 ?_
  refine r_cSR G [.int p1, .int (0 : Int32), .int (7 : Int32)] [] (c_X7_in (k_l Γ) (k_D Γ) _ _ _ _ h) (va_cwS 3 G.2.2.2.2.1 gX7_row_X7_in rfl rfl rfl hd_X7_in ⟨Nat.le_of_ble_eq_true rfl, Nat.le_of_ble_eq_true rfl⟩) [] rfl (fun _ _ => k_E0) rfl rfl (Nat.le_of_ble_eq_true rfl) dX7_row_4 (fun r_4 h => ?_)
  have hz_4 := h.1
  replace h := h.2
  refine r_if_ne G 12 dX7_row_7 (by decide) (fun hc => ?_) (fun hc => ?_)
  · replace h := h.2 hc
    refine r_iload_n G dX7_row_12 2 rfl rfl ?_
    refine r_iconst G (0 : Int32) dX7_row_13 kc_0 ?_
    refine r_iconst G (4 : Int32) dX7_row_14 kc_4 ?_
    refine r_cSR G [.int p2, .int (0 : Int32), .int (4 : Int32)] [] (c_X7_in (k_l Γ) (k_D Γ) _ _ _ _ h) (va_cwS 3 G.2.2.2.2.1 gX7_row_X7_in rfl rfl rfl hd_X7_in ⟨Nat.le_of_ble_eq_true rfl, Nat.le_of_ble_eq_true rfl⟩) [] rfl (fun _ _ => k_E0) rfl rfl (Nat.le_of_ble_eq_true rfl) dX7_row_15 (fun r_15 h => ?_)
    have hz_15 := h.1
    replace h := h.2
    refine r_if_eq G 28 dX7_row_18 (by decide) (fun hc => ?_) (fun hc => ?_)
    · replace h := h.1 hc
      refine r_bipush G (-2 : Int32) dX7_row_28 kb_m2 ?_
      exact r_iretW G E dX7_row_30 h
    · replace h := h.2 hc
      refine r_iload_n G dX7_row_21 3 rfl rfl ?_
      refine r_cSR G [.int p3] [] (c_X7_isValue (k_l Γ) (k_D Γ) _ _ h) (va_cwS 1 G.2.2.2.2.1 gX7_row_X7_isValue rfl rfl rfl hd_X7_isValue ⟨Nat.le_of_ble_eq_true rfl, Nat.le_of_ble_eq_true rfl⟩) [] rfl (fun _ _ => k_E0) rfl rfl (Nat.le_of_ble_eq_true rfl) dX7_row_22 (fun r_22 h => ?_)
      have hz_22 := h.1
      replace h := h.2
      refine r_if_ne G 31 dX7_row_25 (by decide) (fun hc => ?_) (fun hc => ?_)
      · replace h := h.2 hc
        refine r_aload_n G dX7_row_31 0 rfl rfl ?_
        refine r_get G inX7 0 0 wM_0 rfl (by decide) lk_7 rfl rfl dX7_row_32 ?_
        refine r_iconst G (0 : Int32) dX7_row_35 kc_0 ?_
        refine r_iconst G (5 : Int32) dX7_row_36 kc_5 ?_
        refine r_iload_n G dX7_row_37 1 rfl rfl ?_
        refine r_imul G dX7_row_38 ?_
        refine r_iadd G dX7_row_39 ?_
        refine r_iload_n G dX7_row_40 2 rfl rfl ?_
        refine r_iadd G dX7_row_41 ?_
        refine r_iald G 1 0 wM_1 rfl h.1 dX7_row_42 ?_
        replace h := h.2
        refine r_istore (lv' := [(4, .int ((σ 1) (((0 : Int32) + ((5 : Int32) * p1)) + p2).toNatClampNeg)), (0, .ref (a 0)), (1, .int p1), (2, .int p2), (3, .int p3)]) G dX7_row_43 (by decide) rfl ?_
        refine r_aload_n G dX7_row_45 1 rfl rfl ?_
        refine r_get G inX7 0 0 wM_0 rfl (by decide) lk_7 rfl rfl dX7_row_46 ?_
        refine r_iconst G (0 : Int32) dX7_row_49 kc_0 ?_
        refine r_iconst G (5 : Int32) dX7_row_50 kc_5 ?_
        refine r_iload_n G dX7_row_51 2 rfl rfl ?_
        refine r_imul G dX7_row_52 ?_
        refine r_iadd G dX7_row_53 ?_
        refine r_iload_n G dX7_row_54 3 rfl rfl ?_
        refine r_iadd G dX7_row_55 ?_
        refine r_iload_n G dX7_row_56 4 rfl rfl ?_
        refine r_iast G hD 1 0 wM_1 rfl h.1 _ wM_1_s dX7_row_57 ?_
        replace h := h.2
        refine r_iload G dX7_row_58 0 rfl ?_
        exact r_iretW G E dX7_row_60 h
      · replace h := h.1 hc
        refine r_bipush G (-2 : Int32) dX7_row_28 kb_m2 ?_
        exact r_iretW G E dX7_row_30 h
  · replace h := h.1 hc
    refine r_iconst G (-1 : Int32) dX7_row_10 kc_m1 ?_
    exact r_iretW G E dX7_row_11 h
abbrev rm_X7_say : Room := { frames := 1, cells := 0, slots := 0, locals := 22 }
def wp_X7_say (σ : k_M) (p1 : Int32) (Q : Int32 → k_M → Prop) : Prop :=
  wp_X7_in p1 (33 : Int32) (126 : Int32) (fun (r_5 : Int32) => ((r_5 = 0 → Q (-2 : Int32) σ) ∧ (¬ r_5 = 0 → (((σ 0 2) = (10 : Int32) → Q (-4 : Int32) σ) ∧ (¬ (σ 0 2) = (10 : Int32) → (vp_in (σ 0 2) 10 ∧ Q ((k_put (k_put σ 2 (σ 0 2).toNatClampNeg p1) 0 2 (((k_put σ 2 (σ 0 2).toNatClampNeg p1) 0 2) + (1 : Int32))) 0 2) (k_put (k_put σ 2 (σ 0 2).toNatClampNeg p1) 0 2 (((k_put σ 2 (σ 0 2).toNatClampNeg p1) 0 2) + (1 : Int32)))))))))
theorem hd_X7_say : yX7_say.cls ≠ "java/lang/invoke/MethodHandle" ∧ yX7_say.cls ≠ "java/lang/invoke/VarHandle" ∧ (parseMethodDescriptor yX7_say.desc).map (fun d => d.parameters.length) = some 1 := by decide +kernel
theorem hdv_X7_say : yX7_say.cls = RX7 ∧ yX7_say.cls ≠ "java/lang/invoke/MethodHandle" ∧ yX7_say.cls ≠ "java/lang/invoke/VarHandle" ∧ (parseMethodDescriptor yX7_say.desc).map (fun d => d.parameters.length) = some 1 := ⟨rfl, hd_X7_say⟩
set_option maxHeartbeats 4000000 in
set_option maxRecDepth 100000 in
theorem c_X7_say (l : Launch) (D : va_G) (a : Nat → Nat) (cI cZ : ClassId) (σ : k_M) (p1 : Int32) (Q : Int32 → k_M → Prop) (h : wp_X7_say σ p1 Q) : Met l yX7_say wsX7_say rm_X7_say (k_PW D [(cI, .int), (cZ, .boolean)] (wM a cI cZ) σ [.ref (a 0), .int p1]) (k_Qi D (wM a cI cZ) Q) 0 0 (k_wA (wM a cI cZ)) := by
  refine k_metW (Qc := fun D => k_Qi D (wM a cI cZ) Q) (by decide) rfl (Nat.le_of_ble_eq_true rfl) ?_
  intro Γ G hD E
  unfold wp_X7_say at h
  have inX7 : ∀ w ∈ wsX70, w ∈ wsX7_say := by decide +kernel
  have lk_13 := G.2.2.2.2.1 (.fieldLink RX7 13 "FreshSharesModel" "text" "[I") (by decide +kernel)
  have lk_71 := G.2.2.2.2.1 (.fieldLink RX7 71 "FreshSharesModel" "signs" "I") (by decide +kernel)
  show k_J Γ rm_X7_say 2 false (wM a cI cZ) 0 [(0, .ref (a 0)), (1, .int p1)] [] σ
  refine r_iload_n G dX7_say_0 1 rfl rfl ?_
  refine r_bipush G (33 : Int32) dX7_say_1 kb_33 ?_
  refine r_bipush G (126 : Int32) dX7_say_3 kb_126 ?_
  refine r_cSR G [.int p1, .int (33 : Int32), .int (126 : Int32)] [] (c_X7_in (k_l Γ) (k_D Γ) _ _ _ _ h) (va_cwS 3 G.2.2.2.2.1 gX7_say_X7_in rfl rfl rfl hd_X7_in ⟨Nat.le_of_ble_eq_true rfl, Nat.le_of_ble_eq_true rfl⟩) [] rfl (fun _ _ => k_E0) rfl rfl (Nat.le_of_ble_eq_true rfl) dX7_say_5 (fun r_5 h => ?_)
  have hz_5 := h.1
  replace h := h.2
  refine r_if_ne G 14 dX7_say_8 (by decide) (fun hc => ?_) (fun hc => ?_)
  · replace h := h.2 hc
    refine r_aload_n G dX7_say_14 0 rfl rfl ?_
    refine r_get G inX7 0 2 wM_0 rfl (by decide) lk_71 rfl rfl dX7_say_15 ?_
    refine r_bipush G (10 : Int32) dX7_say_18 kb_10 ?_
    refine r_icmp_ne G 26 dX7_say_20 (by decide) (fun hc => ?_) (fun hc => ?_)
    · replace h := h.2 hc
      refine r_aload_n G dX7_say_26 0 rfl rfl ?_
      refine r_get G inX7 0 1 wM_0 rfl (by decide) lk_13 rfl rfl dX7_say_27 ?_
      refine r_aload_n G dX7_say_30 0 rfl rfl ?_
      refine r_get G inX7 0 2 wM_0 rfl (by decide) lk_71 rfl rfl dX7_say_31 ?_
      refine r_iload_n G dX7_say_34 1 rfl rfl ?_
      refine r_iast G hD 2 0 wM_2 rfl h.1 _ wM_2_s dX7_say_35 ?_
      replace h := h.2
      refine r_aload_n G dX7_say_36 0 rfl rfl ?_
      refine r_dup G rfl dX7_say_37 ?_
      refine r_get G inX7 0 2 wM_0 rfl (by decide) lk_71 rfl rfl dX7_say_38 ?_
      refine r_iconst G (1 : Int32) dX7_say_41 kc_1 ?_
      refine r_iadd G dX7_say_42 ?_
      refine r_put G hD tyX7 tyX7_ok nmX7 inX7 0 2 wM_0 rfl (by decide) lk_71 rfl rfl (ty := .int) (by decide +kernel) rfl rfl (Nat.le_of_ble_eq_true rfl) _ wM_0_2 dX7_say_43 ?_
      refine r_aload_n G dX7_say_46 0 rfl rfl ?_
      refine r_get G inX7 0 2 wM_0 rfl (by decide) lk_71 rfl rfl dX7_say_47 ?_
      exact r_iretW G E dX7_say_50 h
    · replace h := h.1 hc
      refine r_bipush G (-4 : Int32) dX7_say_23 kb_m4 ?_
      exact r_iretW G E dX7_say_25 h
  · replace h := h.1 hc
    refine r_bipush G (-2 : Int32) dX7_say_11 kb_m2 ?_
    exact r_iretW G E dX7_say_13 h
abbrev rm_X7_seal : Room := { frames := 1, cells := 0, slots := 0, locals := 22 }
def wp_X7_seal (σ : k_M) (p1 : Int32) (Q : Int32 → Prop) : Prop :=
  wp_X7_isDealt σ (fun (r_1 : Int32) => ((r_1 = 0 → Q (-3 : Int32)) ∧ (¬ r_1 = 0 → wp_X7_in p1 (0 : Int32) (((σ 1) (88 : Int32).toNatClampNeg) - (1 : Int32)) (fun (r_21 : Int32) => ((r_21 = 0 → Q (-6 : Int32)) ∧ (¬ r_21 = 0 → (vp_in ((90 : Int32) + p1) 371 ∧ Q ((σ 1) ((90 : Int32) + p1).toNatClampNeg))))))))
theorem hd_X7_seal : yX7_seal.cls ≠ "java/lang/invoke/MethodHandle" ∧ yX7_seal.cls ≠ "java/lang/invoke/VarHandle" ∧ (parseMethodDescriptor yX7_seal.desc).map (fun d => d.parameters.length) = some 1 := by decide +kernel
theorem hdv_X7_seal : yX7_seal.cls = RX7 ∧ yX7_seal.cls ≠ "java/lang/invoke/MethodHandle" ∧ yX7_seal.cls ≠ "java/lang/invoke/VarHandle" ∧ (parseMethodDescriptor yX7_seal.desc).map (fun d => d.parameters.length) = some 1 := ⟨rfl, hd_X7_seal⟩
set_option maxHeartbeats 4000000 in
set_option maxRecDepth 100000 in
theorem c_X7_seal (l : Launch) (D : va_G) (a : Nat → Nat) (cI cZ : ClassId) (σ : k_M) (p1 : Int32) (Q : Int32 → Prop) (h : wp_X7_seal σ p1 Q) : Met l yX7_seal wsX7_seal rm_X7_seal (k_PR D [(cI, .int), (cZ, .boolean)] (wM a cI cZ) σ [.ref (a 0), .int p1]) (vp_Si Q) 0 0 (fun _ => False) := by
  refine k_metR (by decide) rfl (Nat.le_of_ble_eq_true rfl) ?_
  intro Γ G E
  unfold wp_X7_seal at h
  have inX7 : ∀ w ∈ wsX70, w ∈ wsX7_seal := by decide +kernel
  have lk_7 := G.2.2.2.2.1 (.fieldLink RX7 7 "FreshSharesModel" "state" "[I") (by decide +kernel)
  show k_J Γ rm_X7_seal 2 true (wM a cI cZ) 0 [(0, .ref (a 0)), (1, .int p1)] [] σ
  refine r_aload_n G dX7_seal_0 0 rfl rfl ?_
  refine r_cVR G (ci := 5) (cq := (RX7, TX7, 9)) [] [] (c_X7_isDealt (k_l Γ) (k_D Γ) a cI cZ _ _ h) 0 rfl wM_0 (cwV 0 G.2.2.2.2.1 gX7_seal_X7_isDealt rfl rfl rfl hdv_X7_isDealt ⟨Nat.le_of_ble_eq_true rfl, Nat.le_of_ble_eq_true rfl⟩) [0, 1] rfl (fun _ hP => hP) rfl rfl (Nat.le_of_ble_eq_true rfl) dX7_seal_1 (fun r_1 h => ?_)
  have hz_1 := h.1
  replace h := h.2
  refine r_if_ne G 10 dX7_seal_4 (by decide) (fun hc => ?_) (fun hc => ?_)
  · replace h := h.2 hc
    refine r_iload_n G dX7_seal_10 1 rfl rfl ?_
    refine r_iconst G (0 : Int32) dX7_seal_11 kc_0 ?_
    refine r_aload_n G dX7_seal_12 0 rfl rfl ?_
    refine r_get G inX7 0 0 wM_0 rfl (by decide) lk_7 rfl rfl dX7_seal_13 ?_
    refine r_bipush G (88 : Int32) dX7_seal_16 kb_88 ?_
    refine r_iald G 1 0 wM_1 rfl (by unfold vp_in; decide) dX7_seal_18 ?_
    refine r_iconst G (1 : Int32) dX7_seal_19 kc_1 ?_
    refine r_isub G dX7_seal_20 ?_
    refine r_cSR G [.int p1, .int (0 : Int32), .int (((σ 1) (88 : Int32).toNatClampNeg) - (1 : Int32))] [] (c_X7_in (k_l Γ) (k_D Γ) _ _ _ _ h) (va_cwS 3 G.2.2.2.2.1 gX7_seal_X7_in rfl rfl rfl hd_X7_in ⟨Nat.le_of_ble_eq_true rfl, Nat.le_of_ble_eq_true rfl⟩) [] rfl (fun _ _ => k_E0) rfl rfl (Nat.le_of_ble_eq_true rfl) dX7_seal_21 (fun r_21 h => ?_)
    have hz_21 := h.1
    replace h := h.2
    refine r_if_eq G 39 dX7_seal_24 (by decide) (fun hc => ?_) (fun hc => ?_)
    · replace h := h.1 hc
      refine r_bipush G (-6 : Int32) dX7_seal_39 kb_m6 ?_
      exact r_iretR G E dX7_seal_41 h
    · replace h := h.2 hc
      refine r_aload_n G dX7_seal_27 0 rfl rfl ?_
      refine r_get G inX7 0 0 wM_0 rfl (by decide) lk_7 rfl rfl dX7_seal_28 ?_
      refine r_bipush G (90 : Int32) dX7_seal_31 kb_90 ?_
      refine r_iload_n G dX7_seal_33 1 rfl rfl ?_
      refine r_iadd G dX7_seal_34 ?_
      refine r_iald G 1 0 wM_1 rfl h.1 dX7_seal_35 ?_
      replace h := h.2
      refine r_goto G 41 dX7_seal_36 (by decide) ?_
      exact r_iretR G E dX7_seal_41 h
  · replace h := h.1 hc
    refine r_bipush G (-3 : Int32) dX7_seal_7 kb_m3 ?_
    exact r_iretR G E dX7_seal_9 h
abbrev rm_X7_thief : Room := { frames := 4, cells := 0, slots := 0, locals := 92 }
def wp_X7_thief (σ : k_M) (p1 : Int32) (Q : Int32 → Prop) : Prop :=
  wp_X7_in p1 (0 : Int32) (2 : Int32) (fun (r_3 : Int32) => ((r_3 = 0 → Q (-2 : Int32)) ∧ (¬ r_3 = 0 → wp_X7_isDealt σ (fun (r_13 : Int32) => ((r_13 = 0 → Q (-3 : Int32)) ∧ (¬ r_13 = 0 → ((p1 = (2 : Int32) → wp_X7_robbed σ (-6 : Int32) (fun (r_30 : Int32) => wp_X7_bits r_30 (fun (r_35 : Int32) => ((((σ 1) (88 : Int32).toNatClampNeg) ≤ r_35 → wp_X7_firstOf r_30 ((σ 1) (88 : Int32).toNatClampNeg) (fun (r_62 : Int32) => wp_X7_opened σ r_62 (-6 : Int32) (fun (r_67 : Int32) => Q r_67))) ∧ (¬ ((σ 1) (88 : Int32).toNatClampNeg) ≤ r_35 → Q (-6 : Int32)))))) ∧ (¬ p1 = (2 : Int32) → (k_lp1 (fun (B_73 : Int32 → Prop) (x2_73 : Int32) => ((((σ 1) (89 : Int32).toNatClampNeg) < x2_73 → Q (-6 : Int32)) ∧ (¬ ((σ 1) (89 : Int32).toNatClampNeg) < x2_73 → wp_X7_robbed σ x2_73 (fun (r_86 : Int32) => wp_X7_bits r_86 (fun (r_91 : Int32) => (vp_in ((95 : Int32) + x2_73) 371 ∧ ((r_91 < ((σ 1) ((95 : Int32) + x2_73).toNatClampNeg) → B_73 (x2_73 + (1 : Int32))) ∧ (¬ r_91 < ((σ 1) ((95 : Int32) + x2_73).toNatClampNeg) → ((p1 = 0 → Q x2_73) ∧ (¬ p1 = 0 → (vp_in ((95 : Int32) + x2_73) 371 ∧ wp_X7_firstOf r_86 ((σ 1) ((95 : Int32) + x2_73).toNatClampNeg) (fun (r_125 : Int32) => wp_X7_opened σ r_125 x2_73 (fun (r_129 : Int32) => Q r_129))))))))))))) (0 : Int32))))))))))
theorem hd_X7_thief : yX7_thief.cls ≠ "java/lang/invoke/MethodHandle" ∧ yX7_thief.cls ≠ "java/lang/invoke/VarHandle" ∧ (parseMethodDescriptor yX7_thief.desc).map (fun d => d.parameters.length) = some 1 := by decide +kernel
theorem hdv_X7_thief : yX7_thief.cls = RX7 ∧ yX7_thief.cls ≠ "java/lang/invoke/MethodHandle" ∧ yX7_thief.cls ≠ "java/lang/invoke/VarHandle" ∧ (parseMethodDescriptor yX7_thief.desc).map (fun d => d.parameters.length) = some 1 := ⟨rfl, hd_X7_thief⟩
set_option maxHeartbeats 4000000 in
set_option maxRecDepth 100000 in
theorem c_X7_thief (l : Launch) (D : va_G) (a : Nat → Nat) (cI cZ : ClassId) (σ : k_M) (p1 : Int32) (Q : Int32 → Prop) (h : wp_X7_thief σ p1 Q) : Met l yX7_thief wsX7_thief rm_X7_thief (k_PR D [(cI, .int), (cZ, .boolean)] (wM a cI cZ) σ [.ref (a 0), .int p1]) (vp_Si Q) 0 0 (fun _ => False) := by
  refine k_metR (by decide) rfl (Nat.le_of_ble_eq_true rfl) ?_
  intro Γ G E
  unfold wp_X7_thief at h
  have inX7 : ∀ w ∈ wsX70, w ∈ wsX7_thief := by decide +kernel
  have lk_7 := G.2.2.2.2.1 (.fieldLink RX7 7 "FreshSharesModel" "state" "[I") (by decide +kernel)
  show k_J Γ rm_X7_thief 4 true (wM a cI cZ) 0 [(0, .ref (a 0)), (1, .int p1)] [] σ
  refine r_iload_n G dX7_thief_0 1 rfl rfl ?_
  refine r_iconst G (0 : Int32) dX7_thief_1 kc_0 ?_
  refine r_iconst G (2 : Int32) dX7_thief_2 kc_2 ?_
  refine r_cSR G [.int p1, .int (0 : Int32), .int (2 : Int32)] [] (c_X7_in (k_l Γ) (k_D Γ) _ _ _ _ h) (va_cwS 3 G.2.2.2.2.1 gX7_thief_X7_in rfl rfl rfl hd_X7_in ⟨Nat.le_of_ble_eq_true rfl, Nat.le_of_ble_eq_true rfl⟩) [] rfl (fun _ _ => k_E0) rfl rfl (Nat.le_of_ble_eq_true rfl) dX7_thief_3 (fun r_3 h => ?_)
  have hz_3 := h.1
  replace h := h.2
  refine r_if_ne G 12 dX7_thief_6 (by decide) (fun hc => ?_) (fun hc => ?_)
  · replace h := h.2 hc
    refine r_aload_n G dX7_thief_12 0 rfl rfl ?_
    refine r_cVR G (ci := 5) (cq := (RX7, TX7, 9)) [] [] (c_X7_isDealt (k_l Γ) (k_D Γ) a cI cZ _ _ h) 0 rfl wM_0 (cwV 0 G.2.2.2.2.1 gX7_thief_X7_isDealt rfl rfl rfl hdv_X7_isDealt ⟨Nat.le_of_ble_eq_true rfl, Nat.le_of_ble_eq_true rfl⟩) [0, 1] rfl (fun _ hP => hP) rfl rfl (Nat.le_of_ble_eq_true rfl) dX7_thief_13 (fun r_13 h => ?_)
    have hz_13 := h.1
    replace h := h.2
    refine r_if_ne G 22 dX7_thief_16 (by decide) (fun hc => ?_) (fun hc => ?_)
    · replace h := h.2 hc
      refine r_iload_n G dX7_thief_22 1 rfl rfl ?_
      refine r_iconst G (2 : Int32) dX7_thief_23 kc_2 ?_
      refine r_icmp_ne G 71 dX7_thief_24 (by decide) (fun hc => ?_) (fun hc => ?_)
      · replace h := h.2 hc
        refine r_iconst G (0 : Int32) dX7_thief_71 kc_0 ?_
        refine r_istore_n (lv' := [(2, .int (0 : Int32)), (0, .ref (a 0)), (1, .int p1)]) G dX7_thief_72 rfl (by decide) rfl ?_
        obtain ⟨I_73, n_73, h, hI_73⟩ := h
        have key_73 : ∀ (n : Nat) (x2_73 : Int32), I_73 n x2_73 → k_J Γ rm_X7_thief 4 true (wM a cI cZ) 73 [(0, .ref (a 0)), (1, .int p1), (2, .int x2_73)] [] σ := by
          intro n
          induction n using Nat.strongRecOn with
          | ind n ih_73 =>
            intro x2_73 h
            replace h := hI_73 n x2_73 h
            refine r_iload_n G dX7_thief_73 2 rfl rfl ?_
            refine r_aload_n G dX7_thief_74 0 rfl rfl ?_
            refine r_get G inX7 0 0 wM_0 rfl (by decide) lk_7 rfl rfl dX7_thief_75 ?_
            refine r_bipush G (89 : Int32) dX7_thief_78 kb_89 ?_
            refine r_iald G 1 0 wM_1 rfl (by unfold vp_in; decide) dX7_thief_80 ?_
            refine r_icmp_gt G 139 dX7_thief_81 (by decide) (fun hc => ?_) (fun hc => ?_)
            · replace h := h.1 hc
              refine r_bipush G (-6 : Int32) dX7_thief_139 kb_m6 ?_
              exact r_iretR G E dX7_thief_141 h
            · replace h := h.2 hc
              refine r_aload_n G dX7_thief_84 0 rfl rfl ?_
              refine r_iload_n G dX7_thief_85 2 rfl rfl ?_
              refine r_cVR G (ci := 5) (cq := (RX7, TX7, 9)) [.int x2_73] [] (c_X7_robbed (k_l Γ) (k_D Γ) a cI cZ _ _ _ h) 0 rfl wM_0 (cwV 1 G.2.2.2.2.1 gX7_thief_X7_robbed rfl rfl rfl hdv_X7_robbed ⟨Nat.le_of_ble_eq_true rfl, Nat.le_of_ble_eq_true rfl⟩) [0, 1] rfl (fun _ hP => hP) rfl rfl (Nat.le_of_ble_eq_true rfl) dX7_thief_86 (fun r_86 h => ?_)
              refine r_istore_n (lv' := [(3, .int r_86), (0, .ref (a 0)), (1, .int p1), (2, .int x2_73)]) G dX7_thief_89 rfl (by decide) rfl ?_
              refine r_iload_n G dX7_thief_90 0 rfl rfl ?_
              refine r_cSR G [.int r_86] [] (c_X7_bits (k_l Γ) (k_D Γ) _ _ h) (va_cwS 1 G.2.2.2.2.1 gX7_thief_X7_bits rfl rfl rfl hd_X7_bits ⟨Nat.le_of_ble_eq_true rfl, Nat.le_of_ble_eq_true rfl⟩) [] rfl (fun _ _ => k_E0) rfl rfl (Nat.le_of_ble_eq_true rfl) dX7_thief_91 (fun r_91 h => ?_)
              refine r_aload_n G dX7_thief_94 1 rfl rfl ?_
              refine r_get G inX7 0 0 wM_0 rfl (by decide) lk_7 rfl rfl dX7_thief_95 ?_
              refine r_bipush G (95 : Int32) dX7_thief_98 kb_95 ?_
              refine r_iload_n G dX7_thief_100 3 rfl rfl ?_
              refine r_iadd G dX7_thief_101 ?_
              refine r_iald G 1 0 wM_1 rfl h.1 dX7_thief_102 ?_
              replace h := h.2
              refine r_icmp_lt G 133 dX7_thief_103 (by decide) (fun hc => ?_) (fun hc => ?_)
              · replace h := h.1 hc
                refine r_iinc (lv' := [(2, .int (x2_73 + (1 : Int32))), (3, .int r_86), (0, .ref (a 0)), (1, .int p1)]) G 3 dX7_thief_133 kc_1 rfl (by decide) rfl ?_
                refine r_goto G 73 dX7_thief_136 (by decide) ?_
                obtain ⟨m_73, hm_73, h⟩ := h
                exact r_sub [2, 3, 0] rfl (ih_73 m_73 hm_73 _ h)
              · replace h := h.2 hc
                refine r_iload_n G dX7_thief_106 2 rfl rfl ?_
                refine r_if_ne G 114 dX7_thief_107 (by decide) (fun hc => ?_) (fun hc => ?_)
                · replace h := h.2 hc
                  refine r_aload_n G dX7_thief_114 1 rfl rfl ?_
                  refine r_iload_n G dX7_thief_115 0 rfl rfl ?_
                  refine r_aload_n G dX7_thief_116 1 rfl rfl ?_
                  refine r_get G inX7 0 0 wM_0 rfl (by decide) lk_7 rfl rfl dX7_thief_117 ?_
                  refine r_bipush G (95 : Int32) dX7_thief_120 kb_95 ?_
                  refine r_iload_n G dX7_thief_122 3 rfl rfl ?_
                  refine r_iadd G dX7_thief_123 ?_
                  refine r_iald G 1 0 wM_1 rfl h.1 dX7_thief_124 ?_
                  replace h := h.2
                  refine r_cSR G [.int r_86, .int ((σ 1) ((95 : Int32) + x2_73).toNatClampNeg)] [.ref (a 0)] (c_X7_firstOf (k_l Γ) (k_D Γ) _ _ _ h) (va_cwS 2 G.2.2.2.2.1 gX7_thief_X7_firstOf rfl rfl rfl hd_X7_firstOf ⟨Nat.le_of_ble_eq_true rfl, Nat.le_of_ble_eq_true rfl⟩) [] rfl (fun _ _ => k_E0) rfl rfl (Nat.le_of_ble_eq_true rfl) dX7_thief_125 (fun r_125 h => ?_)
                  refine r_iload_n G dX7_thief_128 3 rfl rfl ?_
                  refine r_cVR G (ci := 5) (cq := (RX7, TX7, 9)) [.int r_125, .int x2_73] [] (c_X7_opened (k_l Γ) (k_D Γ) a cI cZ _ _ _ _ h) 0 rfl wM_0 (cwV 2 G.2.2.2.2.1 gX7_thief_X7_opened rfl rfl rfl hdv_X7_opened ⟨Nat.le_of_ble_eq_true rfl, Nat.le_of_ble_eq_true rfl⟩) [0, 1] rfl (fun _ hP => hP) rfl rfl (Nat.le_of_ble_eq_true rfl) dX7_thief_129 (fun r_129 h => ?_)
                  exact r_iretR G E dX7_thief_132 h
                · replace h := h.1 hc
                  refine r_iload_n G dX7_thief_110 3 rfl rfl ?_
                  refine r_goto G 132 dX7_thief_111 (by decide) ?_
                  exact r_iretR G E dX7_thief_132 h
        exact r_sub [1, 2, 0] rfl (key_73 n_73 _ h)
      · replace h := h.1 hc
        refine r_aload_n G dX7_thief_27 0 rfl rfl ?_
        refine r_bipush G (-6 : Int32) dX7_thief_28 kb_m6 ?_
        refine r_cVR G (ci := 5) (cq := (RX7, TX7, 9)) [.int (-6 : Int32)] [] (c_X7_robbed (k_l Γ) (k_D Γ) a cI cZ _ _ _ h) 0 rfl wM_0 (cwV 1 G.2.2.2.2.1 gX7_thief_X7_robbed rfl rfl rfl hdv_X7_robbed ⟨Nat.le_of_ble_eq_true rfl, Nat.le_of_ble_eq_true rfl⟩) [0, 1] rfl (fun _ hP => hP) rfl rfl (Nat.le_of_ble_eq_true rfl) dX7_thief_30 (fun r_30 h => ?_)
        refine r_istore_n (lv' := [(2, .int r_30), (0, .ref (a 0)), (1, .int p1)]) G dX7_thief_33 rfl (by decide) rfl ?_
        refine r_iload_n G dX7_thief_34 0 rfl rfl ?_
        refine r_cSR G [.int r_30] [] (c_X7_bits (k_l Γ) (k_D Γ) _ _ h) (va_cwS 1 G.2.2.2.2.1 gX7_thief_X7_bits rfl rfl rfl hd_X7_bits ⟨Nat.le_of_ble_eq_true rfl, Nat.le_of_ble_eq_true rfl⟩) [] rfl (fun _ _ => k_E0) rfl rfl (Nat.le_of_ble_eq_true rfl) dX7_thief_35 (fun r_35 h => ?_)
        refine r_aload_n G dX7_thief_38 1 rfl rfl ?_
        refine r_get G inX7 0 0 wM_0 rfl (by decide) lk_7 rfl rfl dX7_thief_39 ?_
        refine r_bipush G (88 : Int32) dX7_thief_42 kb_88 ?_
        refine r_iald G 1 0 wM_1 rfl (by unfold vp_in; decide) dX7_thief_44 ?_
        refine r_icmp_ge G 53 dX7_thief_45 (by decide) (fun hc => ?_) (fun hc => ?_)
        · replace h := h.1 hc
          refine r_aload_n G dX7_thief_53 1 rfl rfl ?_
          refine r_iload_n G dX7_thief_54 0 rfl rfl ?_
          refine r_aload_n G dX7_thief_55 1 rfl rfl ?_
          refine r_get G inX7 0 0 wM_0 rfl (by decide) lk_7 rfl rfl dX7_thief_56 ?_
          refine r_bipush G (88 : Int32) dX7_thief_59 kb_88 ?_
          refine r_iald G 1 0 wM_1 rfl (by unfold vp_in; decide) dX7_thief_61 ?_
          refine r_cSR G [.int r_30, .int ((σ 1) (88 : Int32).toNatClampNeg)] [.ref (a 0)] (c_X7_firstOf (k_l Γ) (k_D Γ) _ _ _ h) (va_cwS 2 G.2.2.2.2.1 gX7_thief_X7_firstOf rfl rfl rfl hd_X7_firstOf ⟨Nat.le_of_ble_eq_true rfl, Nat.le_of_ble_eq_true rfl⟩) [] rfl (fun _ _ => k_E0) rfl rfl (Nat.le_of_ble_eq_true rfl) dX7_thief_62 (fun r_62 h => ?_)
          refine r_bipush G (-6 : Int32) dX7_thief_65 kb_m6 ?_
          refine r_cVR G (ci := 5) (cq := (RX7, TX7, 9)) [.int r_62, .int (-6 : Int32)] [] (c_X7_opened (k_l Γ) (k_D Γ) a cI cZ _ _ _ _ h) 0 rfl wM_0 (cwV 2 G.2.2.2.2.1 gX7_thief_X7_opened rfl rfl rfl hdv_X7_opened ⟨Nat.le_of_ble_eq_true rfl, Nat.le_of_ble_eq_true rfl⟩) [0, 1] rfl (fun _ hP => hP) rfl rfl (Nat.le_of_ble_eq_true rfl) dX7_thief_67 (fun r_67 h => ?_)
          exact r_iretR G E dX7_thief_70 h
        · replace h := h.2 hc
          refine r_bipush G (-6 : Int32) dX7_thief_48 kb_m6 ?_
          refine r_goto G 70 dX7_thief_50 (by decide) ?_
          exact r_iretR G E dX7_thief_70 h
    · replace h := h.1 hc
      refine r_bipush G (-3 : Int32) dX7_thief_19 kb_m3 ?_
      exact r_iretR G E dX7_thief_21 h
  · replace h := h.1 hc
    refine r_bipush G (-2 : Int32) dX7_thief_9 kb_m2 ?_
    exact r_iretR G E dX7_thief_11 h
abbrev rm_X7_weighs : Room := { frames := 3, cells := 0, slots := 0, locals := 68 }
def wp_X7_weighs (σ : k_M) (p1 p2 p3 : Int32) (Q : Int32 → Prop) : Prop :=
  wp_X7_in p3 (0 : Int32) (22 : Int32) (fun (r_4 : Int32) => ((r_4 = 0 → Q (-2 : Int32)) ∧ (¬ r_4 = 0 → (((p2 &&& (-255 : Int32)) = 0 → wp_X7_isMember p1 (fun (r_22 : Int32) => ((r_22 = 0 → Q (-1 : Int32)) ∧ (¬ r_22 = 0 → wp_X7_has p2 p1 (fun (r_30 : Int32) => ((r_30 = 0 → Q (-1 : Int32)) ∧ (¬ r_30 = 0 → wp_X7_weight p1 p2 p3 (fun (r_41 : Int32) => Q r_41)))))))) ∧ (¬ (p2 &&& (-255 : Int32)) = 0 → Q (-2 : Int32))))))
theorem hd_X7_weighs : yX7_weighs.cls ≠ "java/lang/invoke/MethodHandle" ∧ yX7_weighs.cls ≠ "java/lang/invoke/VarHandle" ∧ (parseMethodDescriptor yX7_weighs.desc).map (fun d => d.parameters.length) = some 3 := by decide +kernel
theorem hdv_X7_weighs : yX7_weighs.cls = RX7 ∧ yX7_weighs.cls ≠ "java/lang/invoke/MethodHandle" ∧ yX7_weighs.cls ≠ "java/lang/invoke/VarHandle" ∧ (parseMethodDescriptor yX7_weighs.desc).map (fun d => d.parameters.length) = some 3 := ⟨rfl, hd_X7_weighs⟩
set_option maxHeartbeats 4000000 in
set_option maxRecDepth 100000 in
theorem c_X7_weighs (l : Launch) (D : va_G) (a : Nat → Nat) (cI cZ : ClassId) (σ : k_M) (p1 p2 p3 : Int32) (Q : Int32 → Prop) (h : wp_X7_weighs σ p1 p2 p3 Q) : Met l yX7_weighs wsX7_weighs rm_X7_weighs (k_PR D [(cI, .int), (cZ, .boolean)] (wM a cI cZ) σ [.ref (a 0), .int p1, .int p2, .int p3]) (vp_Si Q) 0 0 (fun _ => False) := by
  refine k_metR (by decide) rfl (Nat.le_of_ble_eq_true rfl) ?_
  intro Γ G E
  unfold wp_X7_weighs at h
  show k_J Γ rm_X7_weighs 4 true (wM a cI cZ) 0 [(0, .ref (a 0)), (1, .int p1), (2, .int p2), (3, .int p3)] [] σ
  refine r_iload_n G dX7_weighs_0 3 rfl rfl ?_
  refine r_iconst G (0 : Int32) dX7_weighs_1 kc_0 ?_
  refine r_bipush G (22 : Int32) dX7_weighs_2 kb_22 ?_
  refine r_cSR G [.int p3, .int (0 : Int32), .int (22 : Int32)] [] (c_X7_in (k_l Γ) (k_D Γ) _ _ _ _ h) (va_cwS 3 G.2.2.2.2.1 gX7_weighs_X7_in rfl rfl rfl hd_X7_in ⟨Nat.le_of_ble_eq_true rfl, Nat.le_of_ble_eq_true rfl⟩) [] rfl (fun _ _ => k_E0) rfl rfl (Nat.le_of_ble_eq_true rfl) dX7_weighs_4 (fun r_4 h => ?_)
  have hz_4 := h.1
  replace h := h.2
  refine r_if_eq G 18 dX7_weighs_7 (by decide) (fun hc => ?_) (fun hc => ?_)
  · replace h := h.1 hc
    refine r_bipush G (-2 : Int32) dX7_weighs_18 kb_m2 ?_
    exact r_iretR G E dX7_weighs_20 h
  · replace h := h.2 hc
    refine r_iload_n G dX7_weighs_10 2 rfl rfl ?_
    refine r_sipush G (-255 : Int32) dX7_weighs_11 ks_m255 ?_
    refine r_iand G dX7_weighs_14 ?_
    refine r_if_eq G 21 dX7_weighs_15 (by decide) (fun hc => ?_) (fun hc => ?_)
    · replace h := h.1 hc
      refine r_iload_n G dX7_weighs_21 1 rfl rfl ?_
      refine r_cSR G [.int p1] [] (c_X7_isMember (k_l Γ) (k_D Γ) _ _ h) (va_cwS 1 G.2.2.2.2.1 gX7_weighs_X7_isMember rfl rfl rfl hd_X7_isMember ⟨Nat.le_of_ble_eq_true rfl, Nat.le_of_ble_eq_true rfl⟩) [] rfl (fun _ _ => k_E0) rfl rfl (Nat.le_of_ble_eq_true rfl) dX7_weighs_22 (fun r_22 h => ?_)
      have hz_22 := h.1
      replace h := h.2
      refine r_if_eq G 36 dX7_weighs_25 (by decide) (fun hc => ?_) (fun hc => ?_)
      · replace h := h.1 hc
        refine r_iconst G (-1 : Int32) dX7_weighs_36 kc_m1 ?_
        exact r_iretR G E dX7_weighs_37 h
      · replace h := h.2 hc
        refine r_iload_n G dX7_weighs_28 2 rfl rfl ?_
        refine r_iload_n G dX7_weighs_29 1 rfl rfl ?_
        refine r_cSR G [.int p2, .int p1] [] (c_X7_has (k_l Γ) (k_D Γ) _ _ _ h) (va_cwS 2 G.2.2.2.2.1 gX7_weighs_X7_has rfl rfl rfl hd_X7_has ⟨Nat.le_of_ble_eq_true rfl, Nat.le_of_ble_eq_true rfl⟩) [] rfl (fun _ _ => k_E0) rfl rfl (Nat.le_of_ble_eq_true rfl) dX7_weighs_30 (fun r_30 h => ?_)
        have hz_30 := h.1
        replace h := h.2
        refine r_if_ne G 38 dX7_weighs_33 (by decide) (fun hc => ?_) (fun hc => ?_)
        · replace h := h.2 hc
          refine r_iload_n G dX7_weighs_38 1 rfl rfl ?_
          refine r_iload_n G dX7_weighs_39 2 rfl rfl ?_
          refine r_iload_n G dX7_weighs_40 3 rfl rfl ?_
          refine r_cSR G [.int p1, .int p2, .int p3] [] (c_X7_weight (k_l Γ) (k_D Γ) _ _ _ _ h) (va_cwS 3 G.2.2.2.2.1 gX7_weighs_X7_weight rfl rfl rfl hd_X7_weight ⟨Nat.le_of_ble_eq_true rfl, Nat.le_of_ble_eq_true rfl⟩) [] rfl (fun _ _ => k_E0) rfl rfl (Nat.le_of_ble_eq_true rfl) dX7_weighs_41 (fun r_41 h => ?_)
          exact r_iretR G E dX7_weighs_44 h
        · replace h := h.1 hc
          refine r_iconst G (-1 : Int32) dX7_weighs_36 kc_m1 ?_
          exact r_iretR G E dX7_weighs_37 h
    · replace h := h.2 hc
      refine r_bipush G (-2 : Int32) dX7_weighs_18 kb_m2 ?_
      exact r_iretR G E dX7_weighs_20 h
abbrev rm_X7_wipe : Room := { frames := 0, cells := 0, slots := 0, locals := 0 }
def wp_X7_wipe (σ : k_M) (Q : Int32 → k_M → Prop) : Prop :=
  Q (σ 0 2) (k_put σ 0 2 (0 : Int32))
theorem hd_X7_wipe : yX7_wipe.cls ≠ "java/lang/invoke/MethodHandle" ∧ yX7_wipe.cls ≠ "java/lang/invoke/VarHandle" ∧ (parseMethodDescriptor yX7_wipe.desc).map (fun d => d.parameters.length) = some 0 := by decide +kernel
theorem hdv_X7_wipe : yX7_wipe.cls = RX7 ∧ yX7_wipe.cls ≠ "java/lang/invoke/MethodHandle" ∧ yX7_wipe.cls ≠ "java/lang/invoke/VarHandle" ∧ (parseMethodDescriptor yX7_wipe.desc).map (fun d => d.parameters.length) = some 0 := ⟨rfl, hd_X7_wipe⟩
set_option maxHeartbeats 4000000 in
set_option maxRecDepth 100000 in
theorem c_X7_wipe (l : Launch) (D : va_G) (a : Nat → Nat) (cI cZ : ClassId) (σ : k_M) (Q : Int32 → k_M → Prop) (h : wp_X7_wipe σ  Q) : Met l yX7_wipe wsX7_wipe rm_X7_wipe (k_PW D [(cI, .int), (cZ, .boolean)] (wM a cI cZ) σ [.ref (a 0)]) (k_Qi D (wM a cI cZ) Q) 0 0 (k_wA (wM a cI cZ)) := by
  refine k_metW (Qc := fun D => k_Qi D (wM a cI cZ) Q) (by decide) rfl (Nat.le_of_ble_eq_true rfl) ?_
  intro Γ G hD E
  unfold wp_X7_wipe at h
  have inX7 : ∀ w ∈ wsX70, w ∈ wsX7_wipe := by decide +kernel
  have lk_71 := G.2.2.2.2.1 (.fieldLink RX7 71 "FreshSharesModel" "signs" "I") (by decide +kernel)
  show k_J Γ rm_X7_wipe 2 false (wM a cI cZ) 0 [(0, .ref (a 0))] [] σ
  refine r_aload_n G dX7_wipe_0 0 rfl rfl ?_
  refine r_get G inX7 0 2 wM_0 rfl (by decide) lk_71 rfl rfl dX7_wipe_1 ?_
  refine r_istore_n (lv' := [(1, .int (σ 0 2)), (0, .ref (a 0))]) G dX7_wipe_4 rfl (by decide) rfl ?_
  refine r_aload_n G dX7_wipe_5 1 rfl rfl ?_
  refine r_iconst G (0 : Int32) dX7_wipe_6 kc_0 ?_
  refine r_put G hD tyX7 tyX7_ok nmX7 inX7 0 2 wM_0 rfl (by decide) lk_71 rfl rfl (ty := .int) (by decide +kernel) rfl rfl (Nat.le_of_ble_eq_true rfl) _ wM_0_2 dX7_wipe_7 ?_
  refine r_iload_n G dX7_wipe_10 0 rfl rfl ?_
  exact r_iretW G E dX7_wipe_11 h
