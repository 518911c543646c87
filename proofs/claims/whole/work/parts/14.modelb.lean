abbrev rm_X7_together : Room := { frames := 3, cells := 0, slots := 0, locals := 68 }
def wp_X7_together (σ : k_M) (p1 p2 : Int32) (Q : Int32 → Prop) : Prop :=
  (k_lp2 (fun (B_5 : Int32 → Int32 → Prop) (x3_5 : Int32) (x4_5 : Int32) => (((7 : Int32) < x4_5 → Q (k_rem x3_5 (23 : Int32))) ∧ (¬ (7 : Int32) < x4_5 → wp_X7_has p1 x4_5 (fun (r_16 : Int32) => ((r_16 = 0 → B_5 (x3_5 + (0 : Int32)) (x4_5 + (1 : Int32))) ∧ (¬ r_16 = 0 → wp_X7_told σ x4_5 (fun (r_25 : Int32) => wp_X7_weight x4_5 p1 p2 (fun (r_32 : Int32) => B_5 (x3_5 + (r_25 * r_32)) (x4_5 + (1 : Int32)))))))))) (0 : Int32) (1 : Int32))
theorem hd_X7_together : yX7_together.cls ≠ "java/lang/invoke/MethodHandle" ∧ yX7_together.cls ≠ "java/lang/invoke/VarHandle" ∧ (parseMethodDescriptor yX7_together.desc).map (fun d => d.parameters.length) = some 2 := by decide +kernel
theorem hdv_X7_together : yX7_together.cls = RX7 ∧ yX7_together.cls ≠ "java/lang/invoke/MethodHandle" ∧ yX7_together.cls ≠ "java/lang/invoke/VarHandle" ∧ (parseMethodDescriptor yX7_together.desc).map (fun d => d.parameters.length) = some 2 := ⟨rfl, hd_X7_together⟩
set_option maxHeartbeats 4000000 in
set_option maxRecDepth 100000 in
theorem c_X7_together (l : Launch) (D : va_G) (a : Nat → Nat) (cI cZ : ClassId) (σ : k_M) (p1 p2 : Int32) (Q : Int32 → Prop) (h : wp_X7_together σ p1 p2 Q) : Met l yX7_together wsX7_together rm_X7_together (k_PR D [(cI, .int), (cZ, .boolean)] (wM a cI cZ) σ [.ref (a 0), .int p1, .int p2]) (vp_Si Q) 0 0 (fun _ => False) := by
  refine k_metR (by decide) rfl (Nat.le_of_ble_eq_true rfl) ?_
  intro Γ G E
  unfold wp_X7_together at h
  show k_J Γ rm_X7_together 5 true (wM a cI cZ) 0 [(0, .ref (a 0)), (1, .int p1), (2, .int p2)] [] σ
  refine r_iconst G (0 : Int32) dX7_together_0 kc_0 ?_
  refine r_istore_n (lv' := [(3, .int (0 : Int32)), (0, .ref (a 0)), (1, .int p1), (2, .int p2)]) G dX7_together_1 rfl (by decide) rfl ?_
  refine r_iconst G (1 : Int32) dX7_together_2 kc_1 ?_
  refine r_istore (lv' := [(4, .int (1 : Int32)), (3, .int (0 : Int32)), (0, .ref (a 0)), (1, .int p1), (2, .int p2)]) G dX7_together_3 (by decide) rfl ?_
  obtain ⟨I_5, n_5, h, hI_5⟩ := h
  have key_5 : ∀ (n : Nat) (x3_5 : Int32) (x4_5 : Int32), I_5 n x3_5 x4_5 → k_J Γ rm_X7_together 5 true (wM a cI cZ) 5 [(0, .ref (a 0)), (1, .int p1), (2, .int p2), (3, .int x3_5), (4, .int x4_5)] [] σ := by
    intro n
    induction n using Nat.strongRecOn with
    | ind n ih_5 =>
      intro x3_5 x4_5 h
      replace h := hI_5 n x3_5 x4_5 h
      refine r_iload G dX7_together_5 4 rfl ?_
      refine r_bipush G (7 : Int32) dX7_together_7 kb_7 ?_
      refine r_icmp_gt G 48 dX7_together_9 (by decide) (fun hc => ?_) (fun hc => ?_)
      · replace h := h.1 hc
        refine r_iload_n G dX7_together_48 3 rfl rfl ?_
        refine r_bipush G (23 : Int32) dX7_together_49 kb_23 ?_
        refine r_irem G kne_23 dX7_together_51 ?_
        exact r_iretR G E dX7_together_52 h
      · replace h := h.2 hc
        refine r_iload_n G dX7_together_12 3 rfl rfl ?_
        refine r_iload_n G dX7_together_13 1 rfl rfl ?_
        refine r_iload G dX7_together_14 4 rfl ?_
        refine r_cSR G [.int p1, .int x4_5] [.int x3_5] (c_X7_has (k_l Γ) (k_D Γ) _ _ _ h) (va_cwS 2 G.2.2.2.2.1 gX7_together_X7_has rfl rfl rfl hd_X7_has ⟨Nat.le_of_ble_eq_true rfl, Nat.le_of_ble_eq_true rfl⟩) [] rfl (fun _ _ => k_E0) rfl rfl (Nat.le_of_ble_eq_true rfl) dX7_together_16 (fun r_16 h => ?_)
        have hz_16 := h.1
        replace h := h.2
        refine r_if_eq G 39 dX7_together_19 (by decide) (fun hc => ?_) (fun hc => ?_)
        · replace h := h.1 hc
          refine r_iconst G (0 : Int32) dX7_together_39 kc_0 ?_
          refine r_iadd G dX7_together_40 ?_
          refine r_istore_n (lv' := [(3, .int (x3_5 + (0 : Int32))), (0, .ref (a 0)), (1, .int p1), (2, .int p2), (4, .int x4_5)]) G dX7_together_41 rfl (by decide) rfl ?_
          refine r_iinc (lv' := [(4, .int (x4_5 + (1 : Int32))), (3, .int (x3_5 + (0 : Int32))), (0, .ref (a 0)), (1, .int p1), (2, .int p2)]) G 4 dX7_together_42 kc_1 rfl (by decide) rfl ?_
          refine r_goto G 5 dX7_together_45 (by decide) ?_
          obtain ⟨m_5, hm_5, h⟩ := h
          exact r_sub [2, 3, 4, 1, 0] rfl (ih_5 m_5 hm_5 _ _ h)
        · replace h := h.2 hc
          refine r_aload_n G dX7_together_22 0 rfl rfl ?_
          refine r_iload G dX7_together_23 4 rfl ?_
          refine r_cVR G (ci := 5) (cq := (RX7, TX7, 9)) [.int x4_5] [.int x3_5] (c_X7_told (k_l Γ) (k_D Γ) a cI cZ _ _ _ h) 0 rfl wM_0 (cwV 1 G.2.2.2.2.1 gX7_together_X7_told rfl rfl rfl hdv_X7_told ⟨Nat.le_of_ble_eq_true rfl, Nat.le_of_ble_eq_true rfl⟩) [0, 1] rfl (fun _ hP => hP) rfl rfl (Nat.le_of_ble_eq_true rfl) dX7_together_25 (fun r_25 h => ?_)
          refine r_iload G dX7_together_28 4 rfl ?_
          refine r_iload_n G dX7_together_30 1 rfl rfl ?_
          refine r_iload_n G dX7_together_31 2 rfl rfl ?_
          refine r_cSR G [.int x4_5, .int p1, .int p2] [.int r_25, .int x3_5] (c_X7_weight (k_l Γ) (k_D Γ) _ _ _ _ h) (va_cwS 3 G.2.2.2.2.1 gX7_together_X7_weight rfl rfl rfl hd_X7_weight ⟨Nat.le_of_ble_eq_true rfl, Nat.le_of_ble_eq_true rfl⟩) [] rfl (fun _ _ => k_E0) rfl rfl (Nat.le_of_ble_eq_true rfl) dX7_together_32 (fun r_32 h => ?_)
          refine r_imul G dX7_together_35 ?_
          refine r_goto G 40 dX7_together_36 (by decide) ?_
          refine r_iadd G dX7_together_40 ?_
          refine r_istore_n (lv' := [(3, .int (x3_5 + (r_25 * r_32))), (0, .ref (a 0)), (1, .int p1), (2, .int p2), (4, .int x4_5)]) G dX7_together_41 rfl (by decide) rfl ?_
          refine r_iinc (lv' := [(4, .int (x4_5 + (1 : Int32))), (3, .int (x3_5 + (r_25 * r_32))), (0, .ref (a 0)), (1, .int p1), (2, .int p2)]) G 4 dX7_together_42 kc_1 rfl (by decide) rfl ?_
          refine r_goto G 5 dX7_together_45 (by decide) ?_
          obtain ⟨m_5, hm_5, h⟩ := h
          exact r_sub [2, 3, 4, 1, 0] rfl (ih_5 m_5 hm_5 _ _ h)
  exact r_sub [2, 3, 4, 1, 0] rfl (key_5 n_5 _ _ h)
abbrev rm_X7_open : Room := { frames := 4, cells := 0, slots := 0, locals := 93 }
def wp_X7_open (σ : k_M) (Q : Int32 → k_M → Prop) : Prop :=
  wp_X7_honest σ (1 : Int32) (fun (r_2 : Int32) (σ_2 : k_M) => wp_X7_bits r_2 (fun (r_7 : Int32) => ((((σ_2 1) (88 : Int32).toNatClampNeg) ≤ r_7 → wp_X7_firstOf r_2 ((σ_2 1) (88 : Int32).toNatClampNeg) (fun (r_34 : Int32) => wp_X7_together σ_2 r_34 (0 : Int32) (fun (r_38 : Int32) => Q r_38 σ_2))) ∧ (¬ ((σ_2 1) (88 : Int32).toNatClampNeg) ≤ r_7 → Q (-5 : Int32) σ_2))))
theorem hd_X7_open : yX7_open.cls ≠ "java/lang/invoke/MethodHandle" ∧ yX7_open.cls ≠ "java/lang/invoke/VarHandle" ∧ (parseMethodDescriptor yX7_open.desc).map (fun d => d.parameters.length) = some 0 := by decide +kernel
theorem hdv_X7_open : yX7_open.cls = RX7 ∧ yX7_open.cls ≠ "java/lang/invoke/MethodHandle" ∧ yX7_open.cls ≠ "java/lang/invoke/VarHandle" ∧ (parseMethodDescriptor yX7_open.desc).map (fun d => d.parameters.length) = some 0 := ⟨rfl, hd_X7_open⟩
set_option maxHeartbeats 4000000 in
set_option maxRecDepth 100000 in
theorem c_X7_open (l : Launch) (D : va_G) (a : Nat → Nat) (cI cZ : ClassId) (σ : k_M) (Q : Int32 → k_M → Prop) (h : wp_X7_open σ  Q) : Met l yX7_open wsX7_open rm_X7_open (k_PW D [(cI, .int), (cZ, .boolean)] (wM a cI cZ) σ [.ref (a 0)]) (k_Qi D (wM a cI cZ) Q) 0 0 (k_wA (wM a cI cZ)) := by
  refine k_metW (Qc := fun D => k_Qi D (wM a cI cZ) Q) (by decide) rfl (Nat.le_of_ble_eq_true rfl) ?_
  intro Γ G hD E
  unfold wp_X7_open at h
  have inX7 : ∀ w ∈ wsX70, w ∈ wsX7_open := by decide +kernel
  have lk_7 := G.2.2.2.2.1 (.fieldLink RX7 7 "FreshSharesModel" "state" "[I") (by decide +kernel)
  show k_J Γ rm_X7_open 2 false (wM a cI cZ) 0 [(0, .ref (a 0))] [] σ
  refine r_aload_n G dX7_open_0 0 rfl rfl ?_
  refine r_iconst G (1 : Int32) dX7_open_1 kc_1 ?_
  refine r_cVWi G hD (ci := 5) (cq := (RX7, TX7, 9)) [.int (1 : Int32)] [] (c_X7_honest (k_l Γ) (k_D Γ) a cI cZ _ _ _ h) 0 rfl wM_0 (cwV 1 G.2.2.2.2.1 gX7_open_X7_honest rfl rfl rfl hdv_X7_honest ⟨Nat.le_of_ble_eq_true rfl, Nat.le_of_ble_eq_true rfl⟩) [0, 1] rfl rfl rfl (Nat.le_of_ble_eq_true rfl) dX7_open_2 (fun r_2 σ_2 h => ?_)
  refine r_istore_n (lv' := [(1, .int r_2), (0, .ref (a 0))]) G dX7_open_5 rfl (by decide) rfl ?_
  refine r_iload_n G dX7_open_6 0 rfl rfl ?_
  refine r_cSR G [.int r_2] [] (c_X7_bits (k_l Γ) (k_D Γ) _ _ h) (va_cwS 1 G.2.2.2.2.1 gX7_open_X7_bits rfl rfl rfl hd_X7_bits ⟨Nat.le_of_ble_eq_true rfl, Nat.le_of_ble_eq_true rfl⟩) [] rfl (fun _ _ => k_E0) rfl rfl (Nat.le_of_ble_eq_true rfl) dX7_open_7 (fun r_7 h => ?_)
  refine r_aload_n G dX7_open_10 1 rfl rfl ?_
  refine r_get G inX7 0 0 wM_0 rfl (by decide) lk_7 rfl rfl dX7_open_11 ?_
  refine r_bipush G (88 : Int32) dX7_open_14 kb_88 ?_
  refine r_iald G 1 0 wM_1 rfl (by unfold vp_in; decide) dX7_open_16 ?_
  refine r_icmp_ge G 25 dX7_open_17 (by decide) (fun hc => ?_) (fun hc => ?_)
  · replace h := h.1 hc
    refine r_aload_n G dX7_open_25 1 rfl rfl ?_
    refine r_iload_n G dX7_open_26 0 rfl rfl ?_
    refine r_aload_n G dX7_open_27 1 rfl rfl ?_
    refine r_get G inX7 0 0 wM_0 rfl (by decide) lk_7 rfl rfl dX7_open_28 ?_
    refine r_bipush G (88 : Int32) dX7_open_31 kb_88 ?_
    refine r_iald G 1 0 wM_1 rfl (by unfold vp_in; decide) dX7_open_33 ?_
    refine r_cSR G [.int r_2, .int ((σ_2 1) (88 : Int32).toNatClampNeg)] [.ref (a 0)] (c_X7_firstOf (k_l Γ) (k_D Γ) _ _ _ h) (va_cwS 2 G.2.2.2.2.1 gX7_open_X7_firstOf rfl rfl rfl hd_X7_firstOf ⟨Nat.le_of_ble_eq_true rfl, Nat.le_of_ble_eq_true rfl⟩) [] rfl (fun _ _ => k_E0) rfl rfl (Nat.le_of_ble_eq_true rfl) dX7_open_34 (fun r_34 h => ?_)
    refine r_iconst G (0 : Int32) dX7_open_37 kc_0 ?_
    refine r_cVR G (ci := 5) (cq := (RX7, TX7, 9)) [.int r_34, .int (0 : Int32)] [] (c_X7_together (k_l Γ) (k_D Γ) a cI cZ _ _ _ _ h) 0 rfl wM_0 (cwV 2 G.2.2.2.2.1 gX7_open_X7_together rfl rfl rfl hdv_X7_together ⟨Nat.le_of_ble_eq_true rfl, Nat.le_of_ble_eq_true rfl⟩) [0, 1] rfl (fun _ hP => hP) rfl rfl (Nat.le_of_ble_eq_true rfl) dX7_open_38 (fun r_38 h => ?_)
    exact r_iretW G E dX7_open_41 h
  · replace h := h.2 hc
    refine r_bipush G (-5 : Int32) dX7_open_20 kb_m5 ?_
    refine r_goto G 41 dX7_open_22 (by decide) ?_
    exact r_iretW G E dX7_open_41 h
abbrev rm_X7_rebuild : Room := { frames := 4, cells := 0, slots := 0, locals := 93 }
def wp_X7_rebuild (σ : k_M) (Q : Int32 → k_M → Prop) : Prop :=
  wp_X7_figure σ (1 : Int32) (fun (r_2 : Int32) => wp_X7_hasShare σ r_2 (fun (r_8 : Int32) => ((r_8 = 0 → wp_X7_honest σ (2 : Int32) (fun (r_19 : Int32) (σ_19 : k_M) => wp_X7_bits r_19 (fun (r_24 : Int32) => ((((σ_19 1) (88 : Int32).toNatClampNeg) ≤ r_24 → wp_X7_firstOf r_19 ((σ_19 1) (88 : Int32).toNatClampNeg) (fun (r_57 : Int32) => wp_X7_together σ_19 r_57 r_2 (fun (r_61 : Int32) => (vp_in ((40 : Int32) + r_2) 371 ∧ Q (1 : Int32) (k_put σ_19 1 ((40 : Int32) + r_2).toNatClampNeg r_61))))) ∧ (¬ ((σ_19 1) (88 : Int32).toNatClampNeg) ≤ r_24 → Q (-5 : Int32) σ_19))))) ∧ (¬ r_8 = 0 → Q (-5 : Int32) σ))))
theorem hd_X7_rebuild : yX7_rebuild.cls ≠ "java/lang/invoke/MethodHandle" ∧ yX7_rebuild.cls ≠ "java/lang/invoke/VarHandle" ∧ (parseMethodDescriptor yX7_rebuild.desc).map (fun d => d.parameters.length) = some 0 := by decide +kernel
theorem hdv_X7_rebuild : yX7_rebuild.cls = RX7 ∧ yX7_rebuild.cls ≠ "java/lang/invoke/MethodHandle" ∧ yX7_rebuild.cls ≠ "java/lang/invoke/VarHandle" ∧ (parseMethodDescriptor yX7_rebuild.desc).map (fun d => d.parameters.length) = some 0 := ⟨rfl, hd_X7_rebuild⟩
set_option maxHeartbeats 4000000 in
set_option maxRecDepth 100000 in
theorem c_X7_rebuild (l : Launch) (D : va_G) (a : Nat → Nat) (cI cZ : ClassId) (σ : k_M) (Q : Int32 → k_M → Prop) (h : wp_X7_rebuild σ  Q) : Met l yX7_rebuild wsX7_rebuild rm_X7_rebuild (k_PW D [(cI, .int), (cZ, .boolean)] (wM a cI cZ) σ [.ref (a 0)]) (k_Qi D (wM a cI cZ) Q) 0 0 (k_wA (wM a cI cZ)) := by
  refine k_metW (Qc := fun D => k_Qi D (wM a cI cZ) Q) (by decide) rfl (Nat.le_of_ble_eq_true rfl) ?_
  intro Γ G hD E
  unfold wp_X7_rebuild at h
  have inX7 : ∀ w ∈ wsX70, w ∈ wsX7_rebuild := by decide +kernel
  have lk_7 := G.2.2.2.2.1 (.fieldLink RX7 7 "FreshSharesModel" "state" "[I") (by decide +kernel)
  show k_J Γ rm_X7_rebuild 3 false (wM a cI cZ) 0 [(0, .ref (a 0))] [] σ
  refine r_aload_n G dX7_rebuild_0 0 rfl rfl ?_
  refine r_iconst G (1 : Int32) dX7_rebuild_1 kc_1 ?_
  refine r_cVR G (ci := 5) (cq := (RX7, TX7, 9)) [.int (1 : Int32)] [] (c_X7_figure (k_l Γ) (k_D Γ) a cI cZ _ _ _ h) 0 rfl wM_0 (cwV 1 G.2.2.2.2.1 gX7_rebuild_X7_figure rfl rfl rfl hdv_X7_figure ⟨Nat.le_of_ble_eq_true rfl, Nat.le_of_ble_eq_true rfl⟩) [0, 1] rfl (fun _ hP => hP) rfl rfl (Nat.le_of_ble_eq_true rfl) dX7_rebuild_2 (fun r_2 h => ?_)
  refine r_istore_n (lv' := [(1, .int r_2), (0, .ref (a 0))]) G dX7_rebuild_5 rfl (by decide) rfl ?_
  refine r_aload_n G dX7_rebuild_6 1 rfl rfl ?_
  refine r_iload_n G dX7_rebuild_7 0 rfl rfl ?_
  refine r_cVR G (ci := 5) (cq := (RX7, TX7, 9)) [.int r_2] [] (c_X7_hasShare (k_l Γ) (k_D Γ) a cI cZ _ _ _ h) 0 rfl wM_0 (cwV 1 G.2.2.2.2.1 gX7_rebuild_X7_hasShare rfl rfl rfl hdv_X7_hasShare ⟨Nat.le_of_ble_eq_true rfl, Nat.le_of_ble_eq_true rfl⟩) [0, 1] rfl (fun _ hP => hP) rfl rfl (Nat.le_of_ble_eq_true rfl) dX7_rebuild_8 (fun r_8 h => ?_)
  have hz_8 := h.1
  replace h := h.2
  refine r_if_eq G 17 dX7_rebuild_11 (by decide) (fun hc => ?_) (fun hc => ?_)
  · replace h := h.1 hc
    refine r_aload_n G dX7_rebuild_17 1 rfl rfl ?_
    refine r_iconst G (2 : Int32) dX7_rebuild_18 kc_2 ?_
    refine r_cVWi G hD (ci := 5) (cq := (RX7, TX7, 9)) [.int (2 : Int32)] [] (c_X7_honest (k_l Γ) (k_D Γ) a cI cZ _ _ _ h) 0 rfl wM_0 (cwV 1 G.2.2.2.2.1 gX7_rebuild_X7_honest rfl rfl rfl hdv_X7_honest ⟨Nat.le_of_ble_eq_true rfl, Nat.le_of_ble_eq_true rfl⟩) [0, 1] rfl rfl rfl (Nat.le_of_ble_eq_true rfl) dX7_rebuild_19 (fun r_19 σ_19 h => ?_)
    refine r_istore_n (lv' := [(2, .int r_19), (1, .int r_2), (0, .ref (a 0))]) G dX7_rebuild_22 rfl (by decide) rfl ?_
    refine r_iload_n G dX7_rebuild_23 0 rfl rfl ?_
    refine r_cSR G [.int r_19] [] (c_X7_bits (k_l Γ) (k_D Γ) _ _ h) (va_cwS 1 G.2.2.2.2.1 gX7_rebuild_X7_bits rfl rfl rfl hd_X7_bits ⟨Nat.le_of_ble_eq_true rfl, Nat.le_of_ble_eq_true rfl⟩) [] rfl (fun _ _ => k_E0) rfl rfl (Nat.le_of_ble_eq_true rfl) dX7_rebuild_24 (fun r_24 h => ?_)
    refine r_aload_n G dX7_rebuild_27 2 rfl rfl ?_
    refine r_get G inX7 0 0 wM_0 rfl (by decide) lk_7 rfl rfl dX7_rebuild_28 ?_
    refine r_bipush G (88 : Int32) dX7_rebuild_31 kb_88 ?_
    refine r_iald G 1 0 wM_1 rfl (by unfold vp_in; decide) dX7_rebuild_33 ?_
    refine r_icmp_ge G 40 dX7_rebuild_34 (by decide) (fun hc => ?_) (fun hc => ?_)
    · replace h := h.1 hc
      refine r_aload_n G dX7_rebuild_40 2 rfl rfl ?_
      refine r_get G inX7 0 0 wM_0 rfl (by decide) lk_7 rfl rfl dX7_rebuild_41 ?_
      refine r_bipush G (40 : Int32) dX7_rebuild_44 kb_40 ?_
      refine r_iload_n G dX7_rebuild_46 1 rfl rfl ?_
      refine r_iadd G dX7_rebuild_47 ?_
      refine r_aload_n G dX7_rebuild_48 2 rfl rfl ?_
      refine r_iload_n G dX7_rebuild_49 0 rfl rfl ?_
      refine r_aload_n G dX7_rebuild_50 2 rfl rfl ?_
      refine r_get G inX7 0 0 wM_0 rfl (by decide) lk_7 rfl rfl dX7_rebuild_51 ?_
      refine r_bipush G (88 : Int32) dX7_rebuild_54 kb_88 ?_
      refine r_iald G 1 0 wM_1 rfl (by unfold vp_in; decide) dX7_rebuild_56 ?_
      refine r_cSR G [.int r_19, .int ((σ_19 1) (88 : Int32).toNatClampNeg)] [.ref (a 0), .int ((40 : Int32) + r_2), .ref (a 1)] (c_X7_firstOf (k_l Γ) (k_D Γ) _ _ _ h) (va_cwS 2 G.2.2.2.2.1 gX7_rebuild_X7_firstOf rfl rfl rfl hd_X7_firstOf ⟨Nat.le_of_ble_eq_true rfl, Nat.le_of_ble_eq_true rfl⟩) [] rfl (fun _ _ => k_E0) rfl rfl (Nat.le_of_ble_eq_true rfl) dX7_rebuild_57 (fun r_57 h => ?_)
      refine r_iload_n G dX7_rebuild_60 1 rfl rfl ?_
      refine r_cVR G (ci := 5) (cq := (RX7, TX7, 9)) [.int r_57, .int r_2] [.int ((40 : Int32) + r_2), .ref (a 1)] (c_X7_together (k_l Γ) (k_D Γ) a cI cZ _ _ _ _ h) 0 rfl wM_0 (cwV 2 G.2.2.2.2.1 gX7_rebuild_X7_together rfl rfl rfl hdv_X7_together ⟨Nat.le_of_ble_eq_true rfl, Nat.le_of_ble_eq_true rfl⟩) [0, 1] rfl (fun _ hP => hP) rfl rfl (Nat.le_of_ble_eq_true rfl) dX7_rebuild_61 (fun r_61 h => ?_)
      refine r_iast G hD 1 0 wM_1 rfl h.1 _ wM_1_s dX7_rebuild_64 ?_
      replace h := h.2
      refine r_iconst G (1 : Int32) dX7_rebuild_65 kc_1 ?_
      exact r_iretW G E dX7_rebuild_66 h
    · replace h := h.2 hc
      refine r_bipush G (-5 : Int32) dX7_rebuild_37 kb_m5 ?_
      exact r_iretW G E dX7_rebuild_39 h
  · replace h := h.2 hc
    refine r_bipush G (-5 : Int32) dX7_rebuild_14 kb_m5 ?_
    exact r_iretW G E dX7_rebuild_16 h
abbrev rm_X7_steal : Room := { frames := 1, cells := 0, slots := 0, locals := 21 }
def wp_X7_steal (σ : k_M) (p1 : Int32) (Q : Int32 → k_M → Prop) : Prop :=
  wp_X7_hasShare σ p1 (fun (r_2 : Int32) => ((r_2 = 0 → Q (-5 : Int32) σ) ∧ (¬ r_2 = 0 → (vp_in ((295 : Int32) + ((3 : Int32) * ((σ 1) (367 : Int32).toNatClampNeg))) 371 ∧ (vp_in (((295 : Int32) + ((3 : Int32) * ((σ 1) (367 : Int32).toNatClampNeg))) + (1 : Int32)) 371 ∧ (vp_in ((40 : Int32) + p1) 371 ∧ (vp_in (((295 : Int32) + ((3 : Int32) * ((σ 1) (367 : Int32).toNatClampNeg))) + (2 : Int32)) 371 ∧ Q (((k_put (k_put (k_put (k_put σ 1 ((295 : Int32) + ((3 : Int32) * ((σ 1) (367 : Int32).toNatClampNeg))).toNatClampNeg p1) 1 (((295 : Int32) + ((3 : Int32) * ((σ 1) (367 : Int32).toNatClampNeg))) + (1 : Int32)).toNatClampNeg (((k_put σ 1 ((295 : Int32) + ((3 : Int32) * ((σ 1) (367 : Int32).toNatClampNeg))).toNatClampNeg p1) 1) (89 : Int32).toNatClampNeg)) 1 (((295 : Int32) + ((3 : Int32) * ((σ 1) (367 : Int32).toNatClampNeg))) + (2 : Int32)).toNatClampNeg (((k_put (k_put σ 1 ((295 : Int32) + ((3 : Int32) * ((σ 1) (367 : Int32).toNatClampNeg))).toNatClampNeg p1) 1 (((295 : Int32) + ((3 : Int32) * ((σ 1) (367 : Int32).toNatClampNeg))) + (1 : Int32)).toNatClampNeg (((k_put σ 1 ((295 : Int32) + ((3 : Int32) * ((σ 1) (367 : Int32).toNatClampNeg))).toNatClampNeg p1) 1) (89 : Int32).toNatClampNeg)) 1) ((40 : Int32) + p1).toNatClampNeg)) 1 (367 : Int32).toNatClampNeg ((((k_put (k_put (k_put σ 1 ((295 : Int32) + ((3 : Int32) * ((σ 1) (367 : Int32).toNatClampNeg))).toNatClampNeg p1) 1 (((295 : Int32) + ((3 : Int32) * ((σ 1) (367 : Int32).toNatClampNeg))) + (1 : Int32)).toNatClampNeg (((k_put σ 1 ((295 : Int32) + ((3 : Int32) * ((σ 1) (367 : Int32).toNatClampNeg))).toNatClampNeg p1) 1) (89 : Int32).toNatClampNeg)) 1 (((295 : Int32) + ((3 : Int32) * ((σ 1) (367 : Int32).toNatClampNeg))) + (2 : Int32)).toNatClampNeg (((k_put (k_put σ 1 ((295 : Int32) + ((3 : Int32) * ((σ 1) (367 : Int32).toNatClampNeg))).toNatClampNeg p1) 1 (((295 : Int32) + ((3 : Int32) * ((σ 1) (367 : Int32).toNatClampNeg))) + (1 : Int32)).toNatClampNeg (((k_put σ 1 ((295 : Int32) + ((3 : Int32) * ((σ 1) (367 : Int32).toNatClampNeg))).toNatClampNeg p1) 1) (89 : Int32).toNatClampNeg)) 1) ((40 : Int32) + p1).toNatClampNeg)) 1) (367 : Int32).toNatClampNeg) + (1 : Int32))) 1) (367 : Int32).toNatClampNeg) (k_put (k_put (k_put (k_put σ 1 ((295 : Int32) + ((3 : Int32) * ((σ 1) (367 : Int32).toNatClampNeg))).toNatClampNeg p1) 1 (((295 : Int32) + ((3 : Int32) * ((σ 1) (367 : Int32).toNatClampNeg))) + (1 : Int32)).toNatClampNeg (((k_put σ 1 ((295 : Int32) + ((3 : Int32) * ((σ 1) (367 : Int32).toNatClampNeg))).toNatClampNeg p1) 1) (89 : Int32).toNatClampNeg)) 1 (((295 : Int32) + ((3 : Int32) * ((σ 1) (367 : Int32).toNatClampNeg))) + (2 : Int32)).toNatClampNeg (((k_put (k_put σ 1 ((295 : Int32) + ((3 : Int32) * ((σ 1) (367 : Int32).toNatClampNeg))).toNatClampNeg p1) 1 (((295 : Int32) + ((3 : Int32) * ((σ 1) (367 : Int32).toNatClampNeg))) + (1 : Int32)).toNatClampNeg (((k_put σ 1 ((295 : Int32) + ((3 : Int32) * ((σ 1) (367 : Int32).toNatClampNeg))).toNatClampNeg p1) 1) (89 : Int32).toNatClampNeg)) 1) ((40 : Int32) + p1).toNatClampNeg)) 1 (367 : Int32).toNatClampNeg ((((k_put (k_put (k_put σ 1 ((295 : Int32) + ((3 : Int32) * ((σ 1) (367 : Int32).toNatClampNeg))).toNatClampNeg p1) 1 (((295 : Int32) + ((3 : Int32) * ((σ 1) (367 : Int32).toNatClampNeg))) + (1 : Int32)).toNatClampNeg (((k_put σ 1 ((295 : Int32) + ((3 : Int32) * ((σ 1) (367 : Int32).toNatClampNeg))).toNatClampNeg p1) 1) (89 : Int32).toNatClampNeg)) 1 (((295 : Int32) + ((3 : Int32) * ((σ 1) (367 : Int32).toNatClampNeg))) + (2 : Int32)).toNatClampNeg (((k_put (k_put σ 1 ((295 : Int32) + ((3 : Int32) * ((σ 1) (367 : Int32).toNatClampNeg))).toNatClampNeg p1) 1 (((295 : Int32) + ((3 : Int32) * ((σ 1) (367 : Int32).toNatClampNeg))) + (1 : Int32)).toNatClampNeg (((k_put σ 1 ((295 : Int32) + ((3 : Int32) * ((σ 1) (367 : Int32).toNatClampNeg))).toNatClampNeg p1) 1) (89 : Int32).toNatClampNeg)) 1) ((40 : Int32) + p1).toNatClampNeg)) 1) (367 : Int32).toNatClampNeg) + (1 : Int32))))))))))
theorem hd_X7_steal : yX7_steal.cls ≠ "java/lang/invoke/MethodHandle" ∧ yX7_steal.cls ≠ "java/lang/invoke/VarHandle" ∧ (parseMethodDescriptor yX7_steal.desc).map (fun d => d.parameters.length) = some 1 := by decide +kernel
theorem hdv_X7_steal : yX7_steal.cls = RX7 ∧ yX7_steal.cls ≠ "java/lang/invoke/MethodHandle" ∧ yX7_steal.cls ≠ "java/lang/invoke/VarHandle" ∧ (parseMethodDescriptor yX7_steal.desc).map (fun d => d.parameters.length) = some 1 := ⟨rfl, hd_X7_steal⟩
set_option maxHeartbeats 4000000 in
set_option maxRecDepth 100000 in
theorem c_X7_steal (l : Launch) (D : va_G) (a : Nat → Nat) (cI cZ : ClassId) (σ : k_M) (p1 : Int32) (Q : Int32 → k_M → Prop) (h : wp_X7_steal σ p1 Q) : Met l yX7_steal wsX7_steal rm_X7_steal (k_PW D [(cI, .int), (cZ, .boolean)] (wM a cI cZ) σ [.ref (a 0), .int p1]) (k_Qi D (wM a cI cZ) Q) 0 0 (k_wA (wM a cI cZ)) := by
  refine k_metW (Qc := fun D => k_Qi D (wM a cI cZ) Q) (by decide) rfl (Nat.le_of_ble_eq_true rfl) ?_
  intro Γ G hD E
  unfold wp_X7_steal at h
  have inX7 : ∀ w ∈ wsX70, w ∈ wsX7_steal := by decide +kernel
  have lk_7 := G.2.2.2.2.1 (.fieldLink RX7 7 "FreshSharesModel" "state" "[I") (by decide +kernel)
  show k_J Γ rm_X7_steal 3 false (wM a cI cZ) 0 [(0, .ref (a 0)), (1, .int p1)] [] σ
  refine r_aload_n G dX7_steal_0 0 rfl rfl ?_
  refine r_iload_n G dX7_steal_1 1 rfl rfl ?_
  refine r_cVR G (ci := 5) (cq := (RX7, TX7, 9)) [.int p1] [] (c_X7_hasShare (k_l Γ) (k_D Γ) a cI cZ _ _ _ h) 0 rfl wM_0 (cwV 1 G.2.2.2.2.1 gX7_steal_X7_hasShare rfl rfl rfl hdv_X7_hasShare ⟨Nat.le_of_ble_eq_true rfl, Nat.le_of_ble_eq_true rfl⟩) [0, 1] rfl (fun _ hP => hP) rfl rfl (Nat.le_of_ble_eq_true rfl) dX7_steal_2 (fun r_2 h => ?_)
  have hz_2 := h.1
  replace h := h.2
  refine r_if_ne G 11 dX7_steal_5 (by decide) (fun hc => ?_) (fun hc => ?_)
  · replace h := h.2 hc
    refine r_sipush G (295 : Int32) dX7_steal_11 ks_295 ?_
    refine r_iconst G (3 : Int32) dX7_steal_14 kc_3 ?_
    refine r_aload_n G dX7_steal_15 0 rfl rfl ?_
    refine r_get G inX7 0 0 wM_0 rfl (by decide) lk_7 rfl rfl dX7_steal_16 ?_
    refine r_sipush G (367 : Int32) dX7_steal_19 ks_367 ?_
    refine r_iald G 1 0 wM_1 rfl (by unfold vp_in; decide) dX7_steal_22 ?_
    refine r_imul G dX7_steal_23 ?_
    refine r_iadd G dX7_steal_24 ?_
    refine r_istore_n (lv' := [(2, .int ((295 : Int32) + ((3 : Int32) * ((σ 1) (367 : Int32).toNatClampNeg)))), (0, .ref (a 0)), (1, .int p1)]) G dX7_steal_25 rfl (by decide) rfl ?_
    refine r_aload_n G dX7_steal_26 1 rfl rfl ?_
    refine r_get G inX7 0 0 wM_0 rfl (by decide) lk_7 rfl rfl dX7_steal_27 ?_
    refine r_iload_n G dX7_steal_30 0 rfl rfl ?_
    refine r_iload_n G dX7_steal_31 2 rfl rfl ?_
    refine r_iast G hD 1 0 wM_1 rfl h.1 _ wM_1_s dX7_steal_32 ?_
    replace h := h.2
    refine r_aload_n G dX7_steal_33 1 rfl rfl ?_
    refine r_get G inX7 0 0 wM_0 rfl (by decide) lk_7 rfl rfl dX7_steal_34 ?_
    refine r_iload_n G dX7_steal_37 0 rfl rfl ?_
    refine r_iconst G (1 : Int32) dX7_steal_38 kc_1 ?_
    refine r_iadd G dX7_steal_39 ?_
    refine r_aload_n G dX7_steal_40 1 rfl rfl ?_
    refine r_get G inX7 0 0 wM_0 rfl (by decide) lk_7 rfl rfl dX7_steal_41 ?_
    refine r_bipush G (89 : Int32) dX7_steal_44 kb_89 ?_
    refine r_iald G 1 0 wM_1 rfl (by unfold vp_in; decide) dX7_steal_46 ?_
    refine r_iast G hD 1 0 wM_1 rfl h.1 _ wM_1_s dX7_steal_47 ?_
    replace h := h.2
    refine r_aload_n G dX7_steal_48 1 rfl rfl ?_
    refine r_get G inX7 0 0 wM_0 rfl (by decide) lk_7 rfl rfl dX7_steal_49 ?_
    refine r_iload_n G dX7_steal_52 0 rfl rfl ?_
    refine r_iconst G (2 : Int32) dX7_steal_53 kc_2 ?_
    refine r_iadd G dX7_steal_54 ?_
    refine r_aload_n G dX7_steal_55 1 rfl rfl ?_
    refine r_get G inX7 0 0 wM_0 rfl (by decide) lk_7 rfl rfl dX7_steal_56 ?_
    refine r_bipush G (40 : Int32) dX7_steal_59 kb_40 ?_
    refine r_iload_n G dX7_steal_61 2 rfl rfl ?_
    refine r_iadd G dX7_steal_62 ?_
    refine r_iald G 1 0 wM_1 rfl h.1 dX7_steal_63 ?_
    replace h := h.2
    refine r_iast G hD 1 0 wM_1 rfl h.1 _ wM_1_s dX7_steal_64 ?_
    replace h := h.2
    refine r_aload_n G dX7_steal_65 1 rfl rfl ?_
    refine r_get G inX7 0 0 wM_0 rfl (by decide) lk_7 rfl rfl dX7_steal_66 ?_
    refine r_sipush G (367 : Int32) dX7_steal_69 ks_367 ?_
    refine r_dup2 G rfl rfl dX7_steal_72 ?_
    refine r_iald G 1 0 wM_1 rfl (by unfold vp_in; decide) dX7_steal_73 ?_
    refine r_iconst G (1 : Int32) dX7_steal_74 kc_1 ?_
    refine r_iadd G dX7_steal_75 ?_
    refine r_iast G hD 1 0 wM_1 rfl (by unfold vp_in; decide) _ wM_1_s dX7_steal_76 ?_
    refine r_aload_n G dX7_steal_77 1 rfl rfl ?_
    refine r_get G inX7 0 0 wM_0 rfl (by decide) lk_7 rfl rfl dX7_steal_78 ?_
    refine r_sipush G (367 : Int32) dX7_steal_81 ks_367 ?_
    refine r_iald G 1 0 wM_1 rfl (by unfold vp_in; decide) dX7_steal_84 ?_
    exact r_iretW G E dX7_steal_85 h
  · replace h := h.1 hc
    refine r_bipush G (-5 : Int32) dX7_steal_8 kb_m5 ?_
    exact r_iretW G E dX7_steal_10 h
abbrev rm_X7_fitsPoly : Room := { frames := 2, cells := 0, slots := 0, locals := 44 }
def wp_X7_fitsPoly (σ : k_M) (p1 p2 : Int32) (Q : Int32 → Prop) : Prop :=
  (k_lp2 (fun (B_5 : Int32 → Int32 → Prop) (x3_5 : Int32) (x4_5 : Int32) => (((σ 0 4) ≤ x4_5 → wp_X7_sealOf p1 (fun (r_51 : Int32) => ((x3_5 = r_51 → Q (1 : Int32)) ∧ (¬ x3_5 = r_51 → Q (0 : Int32))))) ∧ (¬ (σ 0 4) ≤ x4_5 → (vp_in x4_5 5 ∧ wp_X7_sealOf ((σ 3) x4_5.toNatClampNeg) (fun (r_22 : Int32) => wp_X7_power p2 x4_5 (23 : Int32) (fun (r_30 : Int32) => wp_X7_power r_22 r_30 (47 : Int32) (fun (r_35 : Int32) => B_5 (k_rem (x3_5 * r_35) (47 : Int32)) (x4_5 + (1 : Int32))))))))) (1 : Int32) (0 : Int32))
theorem hd_X7_fitsPoly : yX7_fitsPoly.cls ≠ "java/lang/invoke/MethodHandle" ∧ yX7_fitsPoly.cls ≠ "java/lang/invoke/VarHandle" ∧ (parseMethodDescriptor yX7_fitsPoly.desc).map (fun d => d.parameters.length) = some 2 := by decide +kernel
theorem hdv_X7_fitsPoly : yX7_fitsPoly.cls = RX7 ∧ yX7_fitsPoly.cls ≠ "java/lang/invoke/MethodHandle" ∧ yX7_fitsPoly.cls ≠ "java/lang/invoke/VarHandle" ∧ (parseMethodDescriptor yX7_fitsPoly.desc).map (fun d => d.parameters.length) = some 2 := ⟨rfl, hd_X7_fitsPoly⟩
set_option maxHeartbeats 4000000 in
set_option maxRecDepth 100000 in
theorem c_X7_fitsPoly (l : Launch) (D : va_G) (a : Nat → Nat) (cI cZ : ClassId) (σ : k_M) (p1 p2 : Int32) (Q : Int32 → Prop) (h : wp_X7_fitsPoly σ p1 p2 Q) : Met l yX7_fitsPoly wsX7_fitsPoly rm_X7_fitsPoly (k_PR D [(cI, .int), (cZ, .boolean)] (wM a cI cZ) σ [.ref (a 0), .int p1, .int p2]) (vp_Si (fun r => (r = 0 ∨ r = 1) ∧ Q r)) 0 0 (fun _ => False) := by
  refine k_metR (by decide) rfl (Nat.le_of_ble_eq_true rfl) ?_
  intro Γ G E
  unfold wp_X7_fitsPoly at h
  have inX7 : ∀ w ∈ wsX70, w ∈ wsX7_fitsPoly := by decide +kernel
  have lk_16 := G.2.2.2.2.1 (.fieldLink RX7 16 "FreshSharesModel" "poly" "[I") (by decide +kernel)
  have lk_97 := G.2.2.2.2.1 (.fieldLink RX7 97 "FreshSharesModel" "size" "I") (by decide +kernel)
  show k_J Γ rm_X7_fitsPoly 5 true (wM a cI cZ) 0 [(0, .ref (a 0)), (1, .int p1), (2, .int p2)] [] σ
  refine r_iconst G (1 : Int32) dX7_fitsPoly_0 kc_1 ?_
  refine r_istore_n (lv' := [(3, .int (1 : Int32)), (0, .ref (a 0)), (1, .int p1), (2, .int p2)]) G dX7_fitsPoly_1 rfl (by decide) rfl ?_
  refine r_iconst G (0 : Int32) dX7_fitsPoly_2 kc_0 ?_
  refine r_istore (lv' := [(4, .int (0 : Int32)), (3, .int (1 : Int32)), (0, .ref (a 0)), (1, .int p1), (2, .int p2)]) G dX7_fitsPoly_3 (by decide) rfl ?_
  obtain ⟨I_5, n_5, h, hI_5⟩ := h
  have key_5 : ∀ (n : Nat) (x3_5 : Int32) (x4_5 : Int32), I_5 n x3_5 x4_5 → k_J Γ rm_X7_fitsPoly 5 true (wM a cI cZ) 5 [(0, .ref (a 0)), (1, .int p1), (2, .int p2), (3, .int x3_5), (4, .int x4_5)] [] σ := by
    intro n
    induction n using Nat.strongRecOn with
    | ind n ih_5 =>
      intro x3_5 x4_5 h
      replace h := hI_5 n x3_5 x4_5 h
      refine r_iload G dX7_fitsPoly_5 4 rfl ?_
      refine r_aload_n G dX7_fitsPoly_7 0 rfl rfl ?_
      refine r_get G inX7 0 4 wM_0 rfl (by decide) lk_97 rfl rfl dX7_fitsPoly_8 ?_
      refine r_icmp_ge G 49 dX7_fitsPoly_11 (by decide) (fun hc => ?_) (fun hc => ?_)
      · replace h := h.1 hc
        refine r_iload_n G dX7_fitsPoly_49 3 rfl rfl ?_
        refine r_iload_n G dX7_fitsPoly_50 1 rfl rfl ?_
        refine r_cSR G [.int p1] [.int x3_5] (c_X7_sealOf (k_l Γ) (k_D Γ) _ _ h) (va_cwS 1 G.2.2.2.2.1 gX7_fitsPoly_X7_sealOf rfl rfl rfl hd_X7_sealOf ⟨Nat.le_of_ble_eq_true rfl, Nat.le_of_ble_eq_true rfl⟩) [] rfl (fun _ _ => k_E0) rfl rfl (Nat.le_of_ble_eq_true rfl) dX7_fitsPoly_51 (fun r_51 h => ?_)
        refine r_icmp_ne G 61 dX7_fitsPoly_54 (by decide) (fun hc => ?_) (fun hc => ?_)
        · replace h := h.2 hc
          refine r_iconst G (0 : Int32) dX7_fitsPoly_61 kc_0 ?_
          exact r_zretR G E kz_0 dX7_fitsPoly_62 ⟨kzo_0, h⟩
        · replace h := h.1 hc
          refine r_iconst G (1 : Int32) dX7_fitsPoly_57 kc_1 ?_
          refine r_goto G 62 dX7_fitsPoly_58 (by decide) ?_
          exact r_zretR G E kz_1 dX7_fitsPoly_62 ⟨kzo_1, h⟩
      · replace h := h.2 hc
        refine r_iload_n G dX7_fitsPoly_14 3 rfl rfl ?_
        refine r_aload_n G dX7_fitsPoly_15 0 rfl rfl ?_
        refine r_get G inX7 0 3 wM_0 rfl (by decide) lk_16 rfl rfl dX7_fitsPoly_16 ?_
        refine r_iload G dX7_fitsPoly_19 4 rfl ?_
        refine r_iald G 3 0 wM_3 rfl h.1 dX7_fitsPoly_21 ?_
        replace h := h.2
        refine r_cSR G [.int ((σ 3) x4_5.toNatClampNeg)] [.int x3_5] (c_X7_sealOf (k_l Γ) (k_D Γ) _ _ h) (va_cwS 1 G.2.2.2.2.1 gX7_fitsPoly_X7_sealOf rfl rfl rfl hd_X7_sealOf ⟨Nat.le_of_ble_eq_true rfl, Nat.le_of_ble_eq_true rfl⟩) [] rfl (fun _ _ => k_E0) rfl rfl (Nat.le_of_ble_eq_true rfl) dX7_fitsPoly_22 (fun r_22 h => ?_)
        refine r_iload_n G dX7_fitsPoly_25 2 rfl rfl ?_
        refine r_iload G dX7_fitsPoly_26 4 rfl ?_
        refine r_bipush G (23 : Int32) dX7_fitsPoly_28 kb_23 ?_
        refine r_cSR G [.int p2, .int x4_5, .int (23 : Int32)] [.int r_22, .int x3_5] (c_X7_power (k_l Γ) (k_D Γ) _ _ _ _ h) (va_cwS 3 G.2.2.2.2.1 gX7_fitsPoly_X7_power rfl rfl rfl hd_X7_power ⟨Nat.le_of_ble_eq_true rfl, Nat.le_of_ble_eq_true rfl⟩) [] rfl (fun _ _ => k_E0) rfl rfl (Nat.le_of_ble_eq_true rfl) dX7_fitsPoly_30 (fun r_30 h => ?_)
        refine r_bipush G (47 : Int32) dX7_fitsPoly_33 kb_47 ?_
        refine r_cSR G [.int r_22, .int r_30, .int (47 : Int32)] [.int x3_5] (c_X7_power (k_l Γ) (k_D Γ) _ _ _ _ h) (va_cwS 3 G.2.2.2.2.1 gX7_fitsPoly_X7_power rfl rfl rfl hd_X7_power ⟨Nat.le_of_ble_eq_true rfl, Nat.le_of_ble_eq_true rfl⟩) [] rfl (fun _ _ => k_E0) rfl rfl (Nat.le_of_ble_eq_true rfl) dX7_fitsPoly_35 (fun r_35 h => ?_)
        refine r_imul G dX7_fitsPoly_38 ?_
        refine r_bipush G (47 : Int32) dX7_fitsPoly_39 kb_47 ?_
        refine r_irem G kne_47 dX7_fitsPoly_41 ?_
        refine r_istore_n (lv' := [(3, .int (k_rem (x3_5 * r_35) (47 : Int32))), (0, .ref (a 0)), (1, .int p1), (2, .int p2), (4, .int x4_5)]) G dX7_fitsPoly_42 rfl (by decide) rfl ?_
        refine r_iinc (lv' := [(4, .int (x4_5 + (1 : Int32))), (3, .int (k_rem (x3_5 * r_35) (47 : Int32))), (0, .ref (a 0)), (1, .int p1), (2, .int p2)]) G 4 dX7_fitsPoly_43 kc_1 rfl (by decide) rfl ?_
        refine r_goto G 5 dX7_fitsPoly_46 (by decide) ?_
        obtain ⟨m_5, hm_5, h⟩ := h
        exact r_sub [2, 3, 4, 1, 0] rfl (ih_5 m_5 hm_5 _ _ h)
  exact r_sub [2, 3, 4, 1, 0] rfl (key_5 n_5 _ _ h)
abbrev rm_X7_isStruck : Room := { frames := 3, cells := 0, slots := 0, locals := 68 }
def wp_X7_isStruck (σ : k_M) (p1 : Int32) (Q : Int32 → k_M → Prop) : Prop :=
  (k_lp3 (fun (B_7 : Int32 → Int32 → Int32 → Prop) (x2_7 : Int32) (x3_7 : Int32) (x4_7 : Int32) => (((7 : Int32) < x4_7 → (∃ K_160 : Prop, ( K_160  → Q (0 : Int32) (k_put σ 1 (369 : Int32).toNatClampNeg (((σ 1) (369 : Int32).toNatClampNeg) ||| x3_7))) ∧ ((x2_7 = 0 → K_160) ∧ (¬ x2_7 = 0 → wp_X7_bentOf σ p1 (4 : Int32) (fun (r_138 : Int32) => ((r_138 = 0 → Q (1 : Int32) (k_put σ 1 (370 : Int32).toNatClampNeg (((σ 1) (370 : Int32).toNatClampNeg) ||| ((1 : Int32) <<< (p1 &&& 31))))) ∧ (¬ r_138 = 0 → K_160))))))) ∧ (¬ (7 : Int32) < x4_7 → wp_X7_hasShare σ x4_7 (fun (r_17 : Int32) => ((r_17 = 0 → B_7 x2_7 x3_7 (x4_7 + (1 : Int32))) ∧ (¬ r_17 = 0 → wp_X7_polyAt σ x4_7 (fun (r_26 : Int32) => wp_X7_bentOf σ p1 (2 : Int32) (fun (r_32 : Int32) => (∃ K_50 : Int32 → Prop, (∀ (y0_50 : Int32), K_50 y0_50 → wp_X7_mod (r_26 + y0_50) (fun (r_51 : Int32) => wp_X7_fitsPoly σ r_51 x4_7 (fun (r_61 : Int32) => wp_X7_bentOf σ x4_7 (3 : Int32) (fun (r_70 : Int32) => (∃ K_82 : Int32 → Prop, (∀ (y0_82 : Int32), K_82 y0_82 → (∃ K_103 : Int32 → Prop, (∀ (y0_103 : Int32), K_103 y0_103 → ((r_61 = 0 → B_7 y0_103 (x3_7 ||| (0 : Int32)) (x4_7 + (1 : Int32))) ∧ (¬ r_61 = 0 → ((y0_82 = 0 → B_7 y0_103 (x3_7 ||| (0 : Int32)) (x4_7 + (1 : Int32))) ∧ (¬ y0_82 = 0 → B_7 y0_103 (x3_7 ||| ((1 : Int32) <<< (x4_7 &&& 31))) (x4_7 + (1 : Int32))))))) ∧ (∃ K_98 : Prop, ( K_98  → K_103 (1 : Int32)) ∧ ((x2_7 = 0 → ((r_61 = 0 → K_98) ∧ (¬ r_61 = 0 → ((y0_82 = 0 → K_103 (0 : Int32)) ∧ (¬ y0_82 = 0 → K_98))))) ∧ (¬ x2_7 = 0 → K_98))))) ∧ ((r_70 = p1 → K_82 (1 : Int32)) ∧ (¬ r_70 = p1 → K_82 (0 : Int32)))))))) ∧ ((r_32 = x4_7 → wp_X7_bentOf σ p1 (1 : Int32) (fun (r_43 : Int32) => K_50 r_43)) ∧ (¬ r_32 = x4_7 → K_50 (0 : Int32)))))))))))) (0 : Int32) (0 : Int32) (1 : Int32))
theorem hd_X7_isStruck : yX7_isStruck.cls ≠ "java/lang/invoke/MethodHandle" ∧ yX7_isStruck.cls ≠ "java/lang/invoke/VarHandle" ∧ (parseMethodDescriptor yX7_isStruck.desc).map (fun d => d.parameters.length) = some 1 := by decide +kernel
theorem hdv_X7_isStruck : yX7_isStruck.cls = RX7 ∧ yX7_isStruck.cls ≠ "java/lang/invoke/MethodHandle" ∧ yX7_isStruck.cls ≠ "java/lang/invoke/VarHandle" ∧ (parseMethodDescriptor yX7_isStruck.desc).map (fun d => d.parameters.length) = some 1 := ⟨rfl, hd_X7_isStruck⟩
set_option maxHeartbeats 4000000 in
set_option maxRecDepth 100000 in
theorem c_X7_isStruck (l : Launch) (D : va_G) (a : Nat → Nat) (cI cZ : ClassId) (σ : k_M) (p1 : Int32) (Q : Int32 → k_M → Prop) (h : wp_X7_isStruck σ p1 Q) : Met l yX7_isStruck wsX7_isStruck rm_X7_isStruck (k_PW D [(cI, .int), (cZ, .boolean)] (wM a cI cZ) σ [.ref (a 0), .int p1]) (k_Qi D (wM a cI cZ) (fun r σ => (r = 0 ∨ r = 1) ∧ Q r σ)) 0 0 (k_wA (wM a cI cZ)) := by
  refine k_metW (Qc := fun D => k_Qi D (wM a cI cZ) (fun r σ => (r = 0 ∨ r = 1) ∧ Q r σ)) (by decide) rfl (Nat.le_of_ble_eq_true rfl) ?_
  intro Γ G hD E
  unfold wp_X7_isStruck at h
  have inX7 : ∀ w ∈ wsX70, w ∈ wsX7_isStruck := by decide +kernel
  have lk_7 := G.2.2.2.2.1 (.fieldLink RX7 7 "FreshSharesModel" "state" "[I") (by decide +kernel)
  show k_J Γ rm_X7_isStruck 8 false (wM a cI cZ) 0 [(0, .ref (a 0)), (1, .int p1)] [] σ
  refine r_iconst G (0 : Int32) dX7_isStruck_0 kc_0 ?_
  refine r_istore_n (lv' := [(2, .int (0 : Int32)), (0, .ref (a 0)), (1, .int p1)]) G dX7_isStruck_1 rfl (by decide) rfl ?_
  refine r_iconst G (0 : Int32) dX7_isStruck_2 kc_0 ?_
  refine r_istore_n (lv' := [(3, .int (0 : Int32)), (2, .int (0 : Int32)), (0, .ref (a 0)), (1, .int p1)]) G dX7_isStruck_3 rfl (by decide) rfl ?_
  refine r_iconst G (1 : Int32) dX7_isStruck_4 kc_1 ?_
  refine r_istore (lv' := [(4, .int (1 : Int32)), (3, .int (0 : Int32)), (2, .int (0 : Int32)), (0, .ref (a 0)), (1, .int p1)]) G dX7_isStruck_5 (by decide) rfl ?_
  obtain ⟨I_7, n_7, h, hI_7⟩ := h
  have key_7 : ∀ (n : Nat) (x2_7 : Int32) (x3_7 : Int32) (x4_7 : Int32), I_7 n x2_7 x3_7 x4_7 → k_J Γ rm_X7_isStruck 8 false (wM a cI cZ) 7 [(0, .ref (a 0)), (1, .int p1), (2, .int x2_7), (3, .int x3_7), (4, .int x4_7)] [] σ := by
    intro n
    induction n using Nat.strongRecOn with
    | ind n ih_7 =>
      intro x2_7 x3_7 x4_7 h
      replace h := hI_7 n x2_7 x3_7 x4_7 h
      refine r_iload G dX7_isStruck_7 4 rfl ?_
      refine r_bipush G (7 : Int32) dX7_isStruck_9 kb_7 ?_
      refine r_icmp_gt G 131 dX7_isStruck_11 (by decide) (fun hc => ?_) (fun hc => ?_)
      · replace h := h.1 hc
        refine r_iload_n G dX7_isStruck_131 2 rfl rfl ?_
        obtain ⟨K_160, hK_160, h⟩ := h
        have kj_160 :  K_160  → k_J Γ rm_X7_isStruck 8 false (wM a cI cZ) 160 [(0, .ref (a 0)), (3, .int x3_7)] [] σ := by
          intro  h
          replace h := hK_160  h
          refine r_aload_n G dX7_isStruck_160 0 rfl rfl ?_
          refine r_get G inX7 0 0 wM_0 rfl (by decide) lk_7 rfl rfl dX7_isStruck_161 ?_
          refine r_sipush G (369 : Int32) dX7_isStruck_164 ks_369 ?_
          refine r_dup2 G rfl rfl dX7_isStruck_167 ?_
          refine r_iald G 1 0 wM_1 rfl (by unfold vp_in; decide) dX7_isStruck_168 ?_
          refine r_iload_n G dX7_isStruck_169 1 rfl rfl ?_
          refine r_ior G dX7_isStruck_170 ?_
          refine r_iast G hD 1 0 wM_1 rfl (by unfold vp_in; decide) _ wM_1_s dX7_isStruck_171 ?_
          refine r_iconst G (0 : Int32) dX7_isStruck_172 kc_0 ?_
          exact r_zretW G E kz_0 dX7_isStruck_173 ⟨kzo_0, h⟩
        refine r_if_eq G 160 dX7_isStruck_132 (by decide) (fun hc => ?_) (fun hc => ?_)
        · replace h := h.1 hc
          exact r_sub [0, 3] rfl (kj_160  h)
        · replace h := h.2 hc
          refine r_aload_n G dX7_isStruck_135 0 rfl rfl ?_
          refine r_iload_n G dX7_isStruck_136 1 rfl rfl ?_
          refine r_iconst G (4 : Int32) dX7_isStruck_137 kc_4 ?_
          refine r_cVR G (ci := 5) (cq := (RX7, TX7, 9)) [.int p1, .int (4 : Int32)] [] (c_X7_bentOf (k_l Γ) (k_D Γ) a cI cZ _ _ _ _ h) 0 rfl wM_0 (cwV 2 G.2.2.2.2.1 gX7_isStruck_X7_bentOf rfl rfl rfl hdv_X7_bentOf ⟨Nat.le_of_ble_eq_true rfl, Nat.le_of_ble_eq_true rfl⟩) [0, 1] rfl (fun _ hP => hP) rfl rfl (Nat.le_of_ble_eq_true rfl) dX7_isStruck_138 (fun r_138 h => ?_)
          refine r_if_ne G 160 dX7_isStruck_141 (by decide) (fun hc => ?_) (fun hc => ?_)
          · replace h := h.2 hc
            exact r_sub [0, 3] rfl (kj_160  h)
          · replace h := h.1 hc
            refine r_aload_n G dX7_isStruck_144 0 rfl rfl ?_
            refine r_get G inX7 0 0 wM_0 rfl (by decide) lk_7 rfl rfl dX7_isStruck_145 ?_
            refine r_sipush G (370 : Int32) dX7_isStruck_148 ks_370 ?_
            refine r_dup2 G rfl rfl dX7_isStruck_151 ?_
            refine r_iald G 1 0 wM_1 rfl (by unfold vp_in; decide) dX7_isStruck_152 ?_
            refine r_iconst G (1 : Int32) dX7_isStruck_153 kc_1 ?_
            refine r_iload_n G dX7_isStruck_154 1 rfl rfl ?_
            refine r_ishl G dX7_isStruck_155 ?_
            refine r_ior G dX7_isStruck_156 ?_
            refine r_iast G hD 1 0 wM_1 rfl (by unfold vp_in; decide) _ wM_1_s dX7_isStruck_157 ?_
            refine r_iconst G (1 : Int32) dX7_isStruck_158 kc_1 ?_
            exact r_zretW G E kz_1 dX7_isStruck_159 ⟨kzo_1, h⟩
      · replace h := h.2 hc
        refine r_aload_n G dX7_isStruck_14 0 rfl rfl ?_
        refine r_iload G dX7_isStruck_15 4 rfl ?_
        refine r_cVR G (ci := 5) (cq := (RX7, TX7, 9)) [.int x4_7] [] (c_X7_hasShare (k_l Γ) (k_D Γ) a cI cZ _ _ _ h) 0 rfl wM_0 (cwV 1 G.2.2.2.2.1 gX7_isStruck_X7_hasShare rfl rfl rfl hdv_X7_hasShare ⟨Nat.le_of_ble_eq_true rfl, Nat.le_of_ble_eq_true rfl⟩) [0, 1] rfl (fun _ hP => hP) rfl rfl (Nat.le_of_ble_eq_true rfl) dX7_isStruck_17 (fun r_17 h => ?_)
        have hz_17 := h.1
        replace h := h.2
        refine r_if_eq G 125 dX7_isStruck_20 (by decide) (fun hc => ?_) (fun hc => ?_)
        · replace h := h.1 hc
          refine r_iinc (lv' := [(4, .int (x4_7 + (1 : Int32))), (0, .ref (a 0)), (1, .int p1), (2, .int x2_7), (3, .int x3_7)]) G 4 dX7_isStruck_125 kc_1 rfl (by decide) rfl ?_
          refine r_goto G 7 dX7_isStruck_128 (by decide) ?_
          obtain ⟨m_7, hm_7, h⟩ := h
          exact r_sub [1, 2, 3, 4, 0] rfl (ih_7 m_7 hm_7 _ _ _ h)
        · replace h := h.2 hc
          refine r_aload_n G dX7_isStruck_23 0 rfl rfl ?_
          refine r_iload G dX7_isStruck_24 4 rfl ?_
          refine r_cVR G (ci := 5) (cq := (RX7, TX7, 9)) [.int x4_7] [] (c_X7_polyAt (k_l Γ) (k_D Γ) a cI cZ _ _ _ h) 0 rfl wM_0 (cwV 1 G.2.2.2.2.1 gX7_isStruck_X7_polyAt rfl rfl rfl hdv_X7_polyAt ⟨Nat.le_of_ble_eq_true rfl, Nat.le_of_ble_eq_true rfl⟩) [0, 1] rfl (fun _ hP => hP) rfl rfl (Nat.le_of_ble_eq_true rfl) dX7_isStruck_26 (fun r_26 h => ?_)
          refine r_aload_n G dX7_isStruck_29 0 rfl rfl ?_
          refine r_iload_n G dX7_isStruck_30 1 rfl rfl ?_
          refine r_iconst G (2 : Int32) dX7_isStruck_31 kc_2 ?_
          refine r_cVR G (ci := 5) (cq := (RX7, TX7, 9)) [.int p1, .int (2 : Int32)] [.int r_26] (c_X7_bentOf (k_l Γ) (k_D Γ) a cI cZ _ _ _ _ h) 0 rfl wM_0 (cwV 2 G.2.2.2.2.1 gX7_isStruck_X7_bentOf rfl rfl rfl hdv_X7_bentOf ⟨Nat.le_of_ble_eq_true rfl, Nat.le_of_ble_eq_true rfl⟩) [0, 1] rfl (fun _ hP => hP) rfl rfl (Nat.le_of_ble_eq_true rfl) dX7_isStruck_32 (fun r_32 h => ?_)
          refine r_iload G dX7_isStruck_35 4 rfl ?_
          obtain ⟨K_50, hK_50, h⟩ := h
          have kj_50 : ∀ (y0_50 : Int32), K_50 y0_50 → k_J Γ rm_X7_isStruck 8 false (wM a cI cZ) 50 [(0, .ref (a 0)), (1, .int p1), (2, .int x2_7), (3, .int x3_7), (4, .int x4_7)] [.int y0_50, .int r_26] σ := by
            intro y0_50 h
            replace h := hK_50 y0_50 h
            refine r_iadd G dX7_isStruck_50 ?_
            refine r_cSR G [.int (r_26 + y0_50)] [] (c_X7_mod (k_l Γ) (k_D Γ) _ _ h) (va_cwS 1 G.2.2.2.2.1 gX7_isStruck_X7_mod rfl rfl rfl hd_X7_mod ⟨Nat.le_of_ble_eq_true rfl, Nat.le_of_ble_eq_true rfl⟩) [] rfl (fun _ _ => k_E0) rfl rfl (Nat.le_of_ble_eq_true rfl) dX7_isStruck_51 (fun r_51 h => ?_)
            refine r_istore (lv' := [(5, .int r_51), (0, .ref (a 0)), (1, .int p1), (2, .int x2_7), (3, .int x3_7), (4, .int x4_7)]) G dX7_isStruck_54 (by decide) rfl ?_
            refine r_aload_n G dX7_isStruck_56 1 rfl rfl ?_
            refine r_iload G dX7_isStruck_57 0 rfl ?_
            refine r_iload G dX7_isStruck_59 5 rfl ?_
            refine r_cVR G (ci := 5) (cq := (RX7, TX7, 9)) [.int r_51, .int x4_7] [] (c_X7_fitsPoly (k_l Γ) (k_D Γ) a cI cZ _ _ _ _ h) 0 rfl wM_0 (cwV 2 G.2.2.2.2.1 gX7_isStruck_X7_fitsPoly rfl rfl rfl hdv_X7_fitsPoly ⟨Nat.le_of_ble_eq_true rfl, Nat.le_of_ble_eq_true rfl⟩) [0, 1] rfl (fun _ hP => hP) rfl rfl (Nat.le_of_ble_eq_true rfl) dX7_isStruck_61 (fun r_61 h => ?_)
            have hz_61 := h.1
            replace h := h.2
            refine r_istore (lv' := [(6, .int r_61), (5, .int r_51), (0, .ref (a 0)), (1, .int p1), (2, .int x2_7), (3, .int x3_7), (4, .int x4_7)]) G dX7_isStruck_64 (by decide) rfl ?_
            refine r_aload_n G dX7_isStruck_66 2 rfl rfl ?_
            refine r_iload G dX7_isStruck_67 6 rfl ?_
            refine r_iconst G (3 : Int32) dX7_isStruck_69 kc_3 ?_
            refine r_cVR G (ci := 5) (cq := (RX7, TX7, 9)) [.int x4_7, .int (3 : Int32)] [] (c_X7_bentOf (k_l Γ) (k_D Γ) a cI cZ _ _ _ _ h) 0 rfl wM_0 (cwV 2 G.2.2.2.2.1 gX7_isStruck_X7_bentOf rfl rfl rfl hdv_X7_bentOf ⟨Nat.le_of_ble_eq_true rfl, Nat.le_of_ble_eq_true rfl⟩) [0, 1] rfl (fun _ hP => hP) rfl rfl (Nat.le_of_ble_eq_true rfl) dX7_isStruck_70 (fun r_70 h => ?_)
            refine r_iload_n G dX7_isStruck_73 3 rfl rfl ?_
            obtain ⟨K_82, hK_82, h⟩ := h
            have kj_82 : ∀ (y0_82 : Int32), K_82 y0_82 → k_J Γ rm_X7_isStruck 8 false (wM a cI cZ) 82 [(0, .ref (a 0)), (1, .int p1), (2, .int x2_7), (3, .int x3_7), (4, .int x4_7), (6, .int r_61)] [.int y0_82] σ := by
              intro y0_82 h
              replace h := hK_82 y0_82 h
              refine r_istore (lv' := [(7, .int y0_82), (0, .ref (a 0)), (1, .int p1), (2, .int x2_7), (3, .int x3_7), (4, .int x4_7), (6, .int r_61)]) G dX7_isStruck_82 (by decide) rfl ?_
              refine r_iload_n G dX7_isStruck_84 3 rfl rfl ?_
              obtain ⟨K_103, hK_103, h⟩ := h
              have kj_103 : ∀ (y0_103 : Int32), K_103 y0_103 → k_J Γ rm_X7_isStruck 8 false (wM a cI cZ) 103 [(0, .ref (a 0)), (1, .int p1), (3, .int x3_7), (4, .int x4_7), (6, .int r_61), (7, .int y0_82)] [.int y0_103] σ := by
                intro y0_103 h
                replace h := hK_103 y0_103 h
                refine r_istore_n (lv' := [(2, .int y0_103), (0, .ref (a 0)), (1, .int p1), (3, .int x3_7), (4, .int x4_7), (6, .int r_61), (7, .int y0_82)]) G dX7_isStruck_103 rfl (by decide) rfl ?_
                refine r_iload_n G dX7_isStruck_104 3 rfl rfl ?_
                refine r_iload G dX7_isStruck_105 5 rfl ?_
                refine r_if_eq G 122 dX7_isStruck_107 (by decide) (fun hc => ?_) (fun hc => ?_)
                · replace h := h.1 hc
                  refine r_iconst G (0 : Int32) dX7_isStruck_122 kc_0 ?_
                  refine r_ior G dX7_isStruck_123 ?_
                  refine r_istore_n (lv' := [(3, .int (x3_7 ||| (0 : Int32))), (2, .int y0_103), (0, .ref (a 0)), (1, .int p1), (4, .int x4_7), (6, .int r_61), (7, .int y0_82)]) G dX7_isStruck_124 rfl (by decide) rfl ?_
                  refine r_iinc (lv' := [(4, .int (x4_7 + (1 : Int32))), (3, .int (x3_7 ||| (0 : Int32))), (2, .int y0_103), (0, .ref (a 0)), (1, .int p1), (6, .int r_61), (7, .int y0_82)]) G 4 dX7_isStruck_125 kc_1 rfl (by decide) rfl ?_
                  refine r_goto G 7 dX7_isStruck_128 (by decide) ?_
                  obtain ⟨m_7, hm_7, h⟩ := h
                  exact r_sub [3, 4, 2, 1, 0] rfl (ih_7 m_7 hm_7 _ _ _ h)
                · replace h := h.2 hc
                  refine r_iload G dX7_isStruck_110 6 rfl ?_
                  refine r_if_eq G 122 dX7_isStruck_112 (by decide) (fun hc => ?_) (fun hc => ?_)
                  · replace h := h.1 hc
                    refine r_iconst G (0 : Int32) dX7_isStruck_122 kc_0 ?_
                    refine r_ior G dX7_isStruck_123 ?_
                    refine r_istore_n (lv' := [(3, .int (x3_7 ||| (0 : Int32))), (2, .int y0_103), (0, .ref (a 0)), (1, .int p1), (4, .int x4_7), (6, .int r_61), (7, .int y0_82)]) G dX7_isStruck_124 rfl (by decide) rfl ?_
                    refine r_iinc (lv' := [(4, .int (x4_7 + (1 : Int32))), (3, .int (x3_7 ||| (0 : Int32))), (2, .int y0_103), (0, .ref (a 0)), (1, .int p1), (6, .int r_61), (7, .int y0_82)]) G 4 dX7_isStruck_125 kc_1 rfl (by decide) rfl ?_
                    refine r_goto G 7 dX7_isStruck_128 (by decide) ?_
                    obtain ⟨m_7, hm_7, h⟩ := h
                    exact r_sub [3, 4, 2, 1, 0] rfl (ih_7 m_7 hm_7 _ _ _ h)
                  · replace h := h.2 hc
                    refine r_iconst G (1 : Int32) dX7_isStruck_115 kc_1 ?_
                    refine r_iload G dX7_isStruck_116 4 rfl ?_
                    refine r_ishl G dX7_isStruck_118 ?_
                    refine r_goto G 123 dX7_isStruck_119 (by decide) ?_
                    refine r_ior G dX7_isStruck_123 ?_
                    refine r_istore_n (lv' := [(3, .int (x3_7 ||| ((1 : Int32) <<< (x4_7 &&& 31)))), (2, .int y0_103), (0, .ref (a 0)), (1, .int p1), (4, .int x4_7), (6, .int r_61), (7, .int y0_82)]) G dX7_isStruck_124 rfl (by decide) rfl ?_
                    refine r_iinc (lv' := [(4, .int (x4_7 + (1 : Int32))), (3, .int (x3_7 ||| ((1 : Int32) <<< (x4_7 &&& 31)))), (2, .int y0_103), (0, .ref (a 0)), (1, .int p1), (6, .int r_61), (7, .int y0_82)]) G 4 dX7_isStruck_125 kc_1 rfl (by decide) rfl ?_
                    refine r_goto G 7 dX7_isStruck_128 (by decide) ?_
                    obtain ⟨m_7, hm_7, h⟩ := h
                    exact r_sub [3, 4, 2, 1, 0] rfl (ih_7 m_7 hm_7 _ _ _ h)
              obtain ⟨K_98, hK_98, h⟩ := h
              have kj_98 :  K_98  → k_J Γ rm_X7_isStruck 8 false (wM a cI cZ) 98 [(0, .ref (a 0)), (1, .int p1), (3, .int x3_7), (4, .int x4_7), (6, .int r_61), (7, .int y0_82)] [] σ := by
                intro  h
                replace h := hK_98  h
                refine r_iconst G (1 : Int32) dX7_isStruck_98 kc_1 ?_
                refine r_goto G 103 dX7_isStruck_99 (by decide) ?_
                exact r_sub [0, 1, 2, 3, 4, 5] rfl (kj_103 _ h)
              refine r_if_ne G 98 dX7_isStruck_85 (by decide) (fun hc => ?_) (fun hc => ?_)
              · replace h := h.2 hc
                exact r_sub [1, 2, 4, 5, 6, 0] rfl (kj_98  h)
              · replace h := h.1 hc
                refine r_iload G dX7_isStruck_88 6 rfl ?_
                refine r_if_eq G 98 dX7_isStruck_90 (by decide) (fun hc => ?_) (fun hc => ?_)
                · replace h := h.1 hc
                  exact r_sub [1, 2, 4, 5, 6, 0] rfl (kj_98  h)
                · replace h := h.2 hc
                  refine r_iload G dX7_isStruck_93 0 rfl ?_
                  refine r_if_eq G 102 dX7_isStruck_95 (by decide) (fun hc => ?_) (fun hc => ?_)
                  · replace h := h.1 hc
                    refine r_iconst G (0 : Int32) dX7_isStruck_102 kc_0 ?_
                    exact r_sub [1, 2, 4, 5, 6, 0] rfl (kj_103 _ h)
                  · replace h := h.2 hc
                    exact r_sub [1, 2, 4, 5, 6, 0] rfl (kj_98  h)
            refine r_icmp_ne G 81 dX7_isStruck_74 (by decide) (fun hc => ?_) (fun hc => ?_)
            · replace h := h.2 hc
              refine r_iconst G (0 : Int32) dX7_isStruck_81 kc_0 ?_
              exact r_sub [2, 3, 4, 5, 6, 0] rfl (kj_82 _ h)
            · replace h := h.1 hc
              refine r_iconst G (1 : Int32) dX7_isStruck_77 kc_1 ?_
              refine r_goto G 82 dX7_isStruck_78 (by decide) ?_
              exact r_sub [2, 3, 4, 5, 6, 0] rfl (kj_82 _ h)
          refine r_icmp_ne G 49 dX7_isStruck_37 (by decide) (fun hc => ?_) (fun hc => ?_)
          · replace h := h.2 hc
            refine r_iconst G (0 : Int32) dX7_isStruck_49 kc_0 ?_
            exact r_sub [0, 1, 2, 3, 4] rfl (kj_50 _ h)
          · replace h := h.1 hc
            refine r_aload_n G dX7_isStruck_40 0 rfl rfl ?_
            refine r_iload_n G dX7_isStruck_41 1 rfl rfl ?_
            refine r_iconst G (1 : Int32) dX7_isStruck_42 kc_1 ?_
            refine r_cVR G (ci := 5) (cq := (RX7, TX7, 9)) [.int p1, .int (1 : Int32)] [.int r_26] (c_X7_bentOf (k_l Γ) (k_D Γ) a cI cZ _ _ _ _ h) 0 rfl wM_0 (cwV 2 G.2.2.2.2.1 gX7_isStruck_X7_bentOf rfl rfl rfl hdv_X7_bentOf ⟨Nat.le_of_ble_eq_true rfl, Nat.le_of_ble_eq_true rfl⟩) [0, 1] rfl (fun _ hP => hP) rfl rfl (Nat.le_of_ble_eq_true rfl) dX7_isStruck_43 (fun r_43 h => ?_)
            refine r_goto G 50 dX7_isStruck_46 (by decide) ?_
            exact r_sub [0, 1, 2, 3, 4] rfl (kj_50 _ h)
  exact r_sub [3, 4, 2, 1, 0] rfl (key_7 n_7 _ _ _ h)
abbrev rm_X7_strike : Room := { frames := 1, cells := 0, slots := 0, locals := 21 }
def wp_X7_strike (σ : k_M) (Q : k_M → Prop) : Prop :=
  (k_lp2 (fun (B_2 : Int32 → k_M → Prop) (x1_2 : Int32) (σ_2 : k_M) => (((7 : Int32) < x1_2 → Q σ_2) ∧ (¬ (7 : Int32) < x1_2 → wp_X7_has ((σ_2 1) (370 : Int32).toNatClampNeg) x1_2 (fun (r_25 : Int32) => ((r_25 = 0 → (vp_in ((40 : Int32) + x1_2) 371 ∧ (vp_in ((40 : Int32) + x1_2) 371 ∧ B_2 (x1_2 + (1 : Int32)) (k_put σ_2 1 ((40 : Int32) + x1_2).toNatClampNeg ((σ_2 1) ((40 : Int32) + x1_2).toNatClampNeg))))) ∧ (¬ r_25 = 0 → (vp_in ((40 : Int32) + x1_2) 371 ∧ B_2 (x1_2 + (1 : Int32)) (k_put σ_2 1 ((40 : Int32) + x1_2).toNatClampNeg (-6 : Int32))))))))) (1 : Int32) σ)
theorem hd_X7_strike : yX7_strike.cls ≠ "java/lang/invoke/MethodHandle" ∧ yX7_strike.cls ≠ "java/lang/invoke/VarHandle" ∧ (parseMethodDescriptor yX7_strike.desc).map (fun d => d.parameters.length) = some 0 := by decide +kernel
theorem hdv_X7_strike : yX7_strike.cls = RX7 ∧ yX7_strike.cls ≠ "java/lang/invoke/MethodHandle" ∧ yX7_strike.cls ≠ "java/lang/invoke/VarHandle" ∧ (parseMethodDescriptor yX7_strike.desc).map (fun d => d.parameters.length) = some 0 := ⟨rfl, hd_X7_strike⟩
set_option maxHeartbeats 4000000 in
set_option maxRecDepth 100000 in
theorem c_X7_strike (l : Launch) (D : va_G) (a : Nat → Nat) (cI cZ : ClassId) (σ : k_M) (Q : k_M → Prop) (h : wp_X7_strike σ  Q) : Met l yX7_strike wsX7_strike rm_X7_strike (k_PW D [(cI, .int), (cZ, .boolean)] (wM a cI cZ) σ [.ref (a 0)]) (k_Qv D (wM a cI cZ) Q) 0 0 (k_wA (wM a cI cZ)) := by
  refine k_metW (Qc := fun D => k_Qv D (wM a cI cZ) Q) (by decide) rfl (Nat.le_of_ble_eq_true rfl) ?_
  intro Γ G hD E
  unfold wp_X7_strike at h
  have inX7 : ∀ w ∈ wsX70, w ∈ wsX7_strike := by decide +kernel
  have lk_7 := G.2.2.2.2.1 (.fieldLink RX7 7 "FreshSharesModel" "state" "[I") (by decide +kernel)
  show k_J Γ rm_X7_strike 2 false (wM a cI cZ) 0 [(0, .ref (a 0))] [] σ
  refine r_iconst G (1 : Int32) dX7_strike_0 kc_1 ?_
  refine r_istore_n (lv' := [(1, .int (1 : Int32)), (0, .ref (a 0))]) G dX7_strike_1 rfl (by decide) rfl ?_
  obtain ⟨I_2, n_2, h, hI_2⟩ := h
  have key_2 : ∀ (n : Nat) (x1_2 : Int32) (σ_2 : k_M), I_2 n x1_2 σ_2 → k_J Γ rm_X7_strike 2 false (wM a cI cZ) 2 [(0, .ref (a 0)), (1, .int x1_2)] [] σ_2 := by
    intro n
    induction n using Nat.strongRecOn with
    | ind n ih_2 =>
      intro x1_2 σ_2 h
      replace h := hI_2 n x1_2 σ_2 h
      refine r_iload_n G dX7_strike_2 1 rfl rfl ?_
      refine r_bipush G (7 : Int32) dX7_strike_3 kb_7 ?_
      refine r_icmp_gt G 52 dX7_strike_5 (by decide) (fun hc => ?_) (fun hc => ?_)
      · replace h := h.1 hc
        exact r_vretW G E dX7_strike_52 h
      · replace h := h.2 hc
        refine r_aload_n G dX7_strike_8 0 rfl rfl ?_
        refine r_get G inX7 0 0 wM_0 rfl (by decide) lk_7 rfl rfl dX7_strike_9 ?_
        refine r_bipush G (40 : Int32) dX7_strike_12 kb_40 ?_
        refine r_iload_n G dX7_strike_14 1 rfl rfl ?_
        refine r_iadd G dX7_strike_15 ?_
        refine r_aload_n G dX7_strike_16 0 rfl rfl ?_
        refine r_get G inX7 0 0 wM_0 rfl (by decide) lk_7 rfl rfl dX7_strike_17 ?_
        refine r_sipush G (370 : Int32) dX7_strike_20 ks_370 ?_
        refine r_iald G 1 0 wM_1 rfl (by unfold vp_in; decide) dX7_strike_23 ?_
        refine r_iload_n G dX7_strike_24 1 rfl rfl ?_
        refine r_cSR G [.int ((σ_2 1) (370 : Int32).toNatClampNeg), .int x1_2] [.int ((40 : Int32) + x1_2), .ref (a 1)] (c_X7_has (k_l Γ) (k_D Γ) _ _ _ h) (va_cwS 2 G.2.2.2.2.1 gX7_strike_X7_has rfl rfl rfl hd_X7_has ⟨Nat.le_of_ble_eq_true rfl, Nat.le_of_ble_eq_true rfl⟩) [] rfl (fun _ _ => k_E0) rfl rfl (Nat.le_of_ble_eq_true rfl) dX7_strike_25 (fun r_25 h => ?_)
        have hz_25 := h.1
        replace h := h.2
        refine r_if_eq G 36 dX7_strike_28 (by decide) (fun hc => ?_) (fun hc => ?_)
        · replace h := h.1 hc
          refine r_aload_n G dX7_strike_36 0 rfl rfl ?_
          refine r_get G inX7 0 0 wM_0 rfl (by decide) lk_7 rfl rfl dX7_strike_37 ?_
          refine r_bipush G (40 : Int32) dX7_strike_40 kb_40 ?_
          refine r_iload_n G dX7_strike_42 1 rfl rfl ?_
          refine r_iadd G dX7_strike_43 ?_
          refine r_iald G 1 0 wM_1 rfl h.1 dX7_strike_44 ?_
          replace h := h.2
          refine r_iast G hD 1 0 wM_1 rfl h.1 _ wM_1_s dX7_strike_45 ?_
          replace h := h.2
          refine r_iinc (lv' := [(1, .int (x1_2 + (1 : Int32))), (0, .ref (a 0))]) G 1 dX7_strike_46 kc_1 rfl (by decide) rfl ?_
          refine r_goto G 2 dX7_strike_49 (by decide) ?_
          obtain ⟨m_2, hm_2, h⟩ := h
          exact r_sub [1, 0] rfl (ih_2 m_2 hm_2 _ _ h)
        · replace h := h.2 hc
          refine r_bipush G (-6 : Int32) dX7_strike_31 kb_m6 ?_
          refine r_goto G 45 dX7_strike_33 (by decide) ?_
          refine r_iast G hD 1 0 wM_1 rfl h.1 _ wM_1_s dX7_strike_45 ?_
          replace h := h.2
          refine r_iinc (lv' := [(1, .int (x1_2 + (1 : Int32))), (0, .ref (a 0))]) G 1 dX7_strike_46 kc_1 rfl (by decide) rfl ?_
          refine r_goto G 2 dX7_strike_49 (by decide) ?_
          obtain ⟨m_2, hm_2, h⟩ := h
          exact r_sub [1, 0] rfl (ih_2 m_2 hm_2 _ _ h)
  exact r_sub [1, 0] rfl (key_2 n_2 _ _ h)
abbrev rm_X7_fresh : Room := { frames := 4, cells := 0, slots := 0, locals := 95 }
def wp_X7_fresh (σ : k_M) (Q : Int32 → k_M → Prop) : Prop :=
  (k_lp2 (fun (B_2 : Int32 → k_M → Prop) (x1_2 : Int32) (σ_2 : k_M) => (((8 : Int32) ≤ x1_2 → (k_lp2 (fun (B_23 : Int32 → k_M → Prop) (x1_23 : Int32) (σ_23 : k_M) => (((7 : Int32) < x1_23 → (k_lp2 (fun (B_141 : Int32 → k_M → Prop) (x1_141 : Int32) (σ_141 : k_M) => (((7 : Int32) < x1_141 → wp_X7_nextEpoch σ_141 (fun (σ_195 : k_M) => wp_X7_strike σ_195 (fun (σ_199 : k_M) => wp_X7_having σ_199 (fun (r_203 : Int32) => wp_X7_bits r_203 (fun (r_206 : Int32) => Q r_206 σ_199))))) ∧ (¬ (7 : Int32) < x1_141 → wp_X7_hasShare σ_141 x1_141 (fun (r_157 : Int32) => ((r_157 = 0 → (vp_in ((40 : Int32) + x1_141) 371 ∧ B_141 (x1_141 + (1 : Int32)) (k_put σ_141 1 ((40 : Int32) + x1_141).toNatClampNeg (-6 : Int32)))) ∧ (¬ r_157 = 0 → (vp_in ((40 : Int32) + x1_141) 371 ∧ (vp_in x1_141 8 ∧ wp_X7_mod (((σ_141 1) ((40 : Int32) + x1_141).toNatClampNeg) + ((σ_141 4) x1_141.toNatClampNeg)) (fun (r_179 : Int32) => (vp_in ((40 : Int32) + x1_141) 371 ∧ B_141 (x1_141 + (1 : Int32)) (k_put σ_141 1 ((40 : Int32) + x1_141).toNatClampNeg r_179))))))))))) (1 : Int32) σ_23)) ∧ (¬ (7 : Int32) < x1_23 → wp_X7_hasShare σ_23 x1_23 (fun (r_31 : Int32) => ((r_31 = 0 → B_23 (x1_23 + (1 : Int32)) σ_23) ∧ (¬ r_31 = 0 → wp_X7_layPoly σ_23 x1_23 (0 : Int32) ((σ_23 1) (88 : Int32).toNatClampNeg) (fun (σ_47 : k_M) => wp_X7_isStruck σ_47 x1_23 (fun (r_52 : Int32) (σ_52 : k_M) => ((r_52 = 0 → (k_lp2 (fun (B_60 : Int32 → k_M → Prop) (x2_60 : Int32) (σ_60 : k_M) => (((7 : Int32) < x2_60 → (k_lp2 (fun (B_88 : Int32 → k_M → Prop) (x2_88 : Int32) (σ_88 : k_M) => (((σ_88 0 4) ≤ x2_88 → B_23 (x1_23 + (1 : Int32)) σ_88) ∧ (¬ (σ_88 0 4) ≤ x2_88 → (vp_in ((90 : Int32) + x2_88) 371 ∧ (vp_in x2_88 5 ∧ wp_X7_sealOf ((σ_88 3) x2_88.toNatClampNeg) (fun (r_119 : Int32) => (vp_in ((90 : Int32) + x2_88) 371 ∧ B_88 (x2_88 + (1 : Int32)) (k_put σ_88 1 ((90 : Int32) + x2_88).toNatClampNeg (k_rem (((σ_88 1) ((90 : Int32) + x2_88).toNatClampNeg) * r_119) (47 : Int32)))))))))) (0 : Int32) σ_60)) ∧ (¬ (7 : Int32) < x2_60 → (vp_in x2_60 8 ∧ wp_X7_polyAt σ_60 x2_60 (fun (r_75 : Int32) => (vp_in x2_60 8 ∧ B_60 (x2_60 + (1 : Int32)) (k_put σ_60 4 x2_60.toNatClampNeg (((σ_60 4) x2_60.toNatClampNeg) + r_75)))))))) (1 : Int32) σ_52)) ∧ (¬ r_52 = 0 → B_23 (x1_23 + (1 : Int32)) σ_52)))))))))) (1 : Int32) σ_2)) ∧ (¬ (8 : Int32) ≤ x1_2 → (vp_in x1_2 8 ∧ B_2 (x1_2 + (1 : Int32)) (k_put σ_2 4 x1_2.toNatClampNeg (0 : Int32)))))) (0 : Int32) σ)
theorem hd_X7_fresh : yX7_fresh.cls ≠ "java/lang/invoke/MethodHandle" ∧ yX7_fresh.cls ≠ "java/lang/invoke/VarHandle" ∧ (parseMethodDescriptor yX7_fresh.desc).map (fun d => d.parameters.length) = some 0 := by decide +kernel
theorem hdv_X7_fresh : yX7_fresh.cls = RX7 ∧ yX7_fresh.cls ≠ "java/lang/invoke/MethodHandle" ∧ yX7_fresh.cls ≠ "java/lang/invoke/VarHandle" ∧ (parseMethodDescriptor yX7_fresh.desc).map (fun d => d.parameters.length) = some 0 := ⟨rfl, hd_X7_fresh⟩
set_option maxHeartbeats 4000000 in
set_option maxRecDepth 100000 in
theorem c_X7_fresh (l : Launch) (D : va_G) (a : Nat → Nat) (cI cZ : ClassId) (σ : k_M) (Q : Int32 → k_M → Prop) (h : wp_X7_fresh σ  Q) : Met l yX7_fresh wsX7_fresh rm_X7_fresh (k_PW D [(cI, .int), (cZ, .boolean)] (wM a cI cZ) σ [.ref (a 0)]) (k_Qi D (wM a cI cZ) Q) 0 0 (k_wA (wM a cI cZ)) := by
  refine k_metW (Qc := fun D => k_Qi D (wM a cI cZ) Q) (by decide) rfl (Nat.le_of_ble_eq_true rfl) ?_
  intro Γ G hD E
  unfold wp_X7_fresh at h
  have inX7 : ∀ w ∈ wsX70, w ∈ wsX7_fresh := by decide +kernel
  have lk_7 := G.2.2.2.2.1 (.fieldLink RX7 7 "FreshSharesModel" "state" "[I") (by decide +kernel)
  have lk_16 := G.2.2.2.2.1 (.fieldLink RX7 16 "FreshSharesModel" "poly" "[I") (by decide +kernel)
  have lk_19 := G.2.2.2.2.1 (.fieldLink RX7 19 "FreshSharesModel" "added" "[I") (by decide +kernel)
  have lk_97 := G.2.2.2.2.1 (.fieldLink RX7 97 "FreshSharesModel" "size" "I") (by decide +kernel)
  show k_J Γ rm_X7_fresh 3 false (wM a cI cZ) 0 [(0, .ref (a 0))] [] σ
  refine r_iconst G (0 : Int32) dX7_fresh_0 kc_0 ?_
  refine r_istore_n (lv' := [(1, .int (0 : Int32)), (0, .ref (a 0))]) G dX7_fresh_1 rfl (by decide) rfl ?_
  obtain ⟨I_2, n_2, h, hI_2⟩ := h
  have key_2 : ∀ (n : Nat) (x1_2 : Int32) (σ_2 : k_M), I_2 n x1_2 σ_2 → k_J Γ rm_X7_fresh 3 false (wM a cI cZ) 2 [(0, .ref (a 0)), (1, .int x1_2)] [] σ_2 := by
    intro n
    induction n using Nat.strongRecOn with
    | ind n ih_2 =>
      intro x1_2 σ_2 h
      replace h := hI_2 n x1_2 σ_2 h
      refine r_iload_n G dX7_fresh_2 1 rfl rfl ?_
      refine r_bipush G (8 : Int32) dX7_fresh_3 kb_8 ?_
      refine r_icmp_ge G 21 dX7_fresh_5 (by decide) (fun hc => ?_) (fun hc => ?_)
      · replace h := h.1 hc
        refine r_iconst G (1 : Int32) dX7_fresh_21 kc_1 ?_
        refine r_istore_n (lv' := [(1, .int (1 : Int32)), (0, .ref (a 0))]) G dX7_fresh_22 rfl (by decide) rfl ?_
        obtain ⟨I_23, n_23, h, hI_23⟩ := h
        have key_23 : ∀ (n : Nat) (x1_23 : Int32) (σ_23 : k_M), I_23 n x1_23 σ_23 → k_J Γ rm_X7_fresh 3 false (wM a cI cZ) 23 [(0, .ref (a 0)), (1, .int x1_23)] [] σ_23 := by
          intro n
          induction n using Nat.strongRecOn with
          | ind n ih_23 =>
            intro x1_23 σ_23 h
            replace h := hI_23 n x1_23 σ_23 h
            refine r_iload_n G dX7_fresh_23 1 rfl rfl ?_
            refine r_bipush G (7 : Int32) dX7_fresh_24 kb_7 ?_
            refine r_icmp_gt G 139 dX7_fresh_26 (by decide) (fun hc => ?_) (fun hc => ?_)
            · replace h := h.1 hc
              refine r_iconst G (1 : Int32) dX7_fresh_139 kc_1 ?_
              refine r_istore_n (lv' := [(1, .int (1 : Int32)), (0, .ref (a 0))]) G dX7_fresh_140 rfl (by decide) rfl ?_
              obtain ⟨I_141, n_141, h, hI_141⟩ := h
              have key_141 : ∀ (n : Nat) (x1_141 : Int32) (σ_141 : k_M), I_141 n x1_141 σ_141 → k_J Γ rm_X7_fresh 3 false (wM a cI cZ) 141 [(0, .ref (a 0)), (1, .int x1_141)] [] σ_141 := by
                intro n
                induction n using Nat.strongRecOn with
                | ind n ih_141 =>
                  intro x1_141 σ_141 h
                  replace h := hI_141 n x1_141 σ_141 h
                  refine r_iload_n G dX7_fresh_141 1 rfl rfl ?_
                  refine r_bipush G (7 : Int32) dX7_fresh_142 kb_7 ?_
                  refine r_icmp_gt G 194 dX7_fresh_144 (by decide) (fun hc => ?_) (fun hc => ?_)
                  · replace h := h.1 hc
                    refine r_aload_n G dX7_fresh_194 0 rfl rfl ?_
                    refine r_cVWv G hD (ci := 5) (cq := (RX7, TX7, 9)) [] [] (c_X7_nextEpoch (k_l Γ) (k_D Γ) a cI cZ _ _ h) 0 rfl wM_0 (cwV 0 G.2.2.2.2.1 gX7_fresh_X7_nextEpoch rfl rfl rfl hdv_X7_nextEpoch ⟨Nat.le_of_ble_eq_true rfl, Nat.le_of_ble_eq_true rfl⟩) [0, 1] rfl rfl rfl (Nat.le_of_ble_eq_true rfl) dX7_fresh_195 (fun σ_195 h => ?_)
                    refine r_aload_n G dX7_fresh_198 0 rfl rfl ?_
                    refine r_cVWv G hD (ci := 5) (cq := (RX7, TX7, 9)) [] [] (c_X7_strike (k_l Γ) (k_D Γ) a cI cZ _ _ h) 0 rfl wM_0 (cwV 0 G.2.2.2.2.1 gX7_fresh_X7_strike rfl rfl rfl hdv_X7_strike ⟨Nat.le_of_ble_eq_true rfl, Nat.le_of_ble_eq_true rfl⟩) [0, 1] rfl rfl rfl (Nat.le_of_ble_eq_true rfl) dX7_fresh_199 (fun σ_199 h => ?_)
                    refine r_aload_n G dX7_fresh_202 0 rfl rfl ?_
                    refine r_cVR G (ci := 5) (cq := (RX7, TX7, 9)) [] [] (c_X7_having (k_l Γ) (k_D Γ) a cI cZ _ _ h) 0 rfl wM_0 (cwV 0 G.2.2.2.2.1 gX7_fresh_X7_having rfl rfl rfl hdv_X7_having ⟨Nat.le_of_ble_eq_true rfl, Nat.le_of_ble_eq_true rfl⟩) [0, 1] rfl (fun _ hP => hP) rfl rfl (Nat.le_of_ble_eq_true rfl) dX7_fresh_203 (fun r_203 h => ?_)
                    refine r_cSR G [.int r_203] [] (c_X7_bits (k_l Γ) (k_D Γ) _ _ h) (va_cwS 1 G.2.2.2.2.1 gX7_fresh_X7_bits rfl rfl rfl hd_X7_bits ⟨Nat.le_of_ble_eq_true rfl, Nat.le_of_ble_eq_true rfl⟩) [] rfl (fun _ _ => k_E0) rfl rfl (Nat.le_of_ble_eq_true rfl) dX7_fresh_206 (fun r_206 h => ?_)
                    exact r_iretW G E dX7_fresh_209 h
                  · replace h := h.2 hc
                    refine r_aload_n G dX7_fresh_147 0 rfl rfl ?_
                    refine r_get G inX7 0 0 wM_0 rfl (by decide) lk_7 rfl rfl dX7_fresh_148 ?_
                    refine r_bipush G (40 : Int32) dX7_fresh_151 kb_40 ?_
                    refine r_iload_n G dX7_fresh_153 1 rfl rfl ?_
                    refine r_iadd G dX7_fresh_154 ?_
                    refine r_aload_n G dX7_fresh_155 0 rfl rfl ?_
                    refine r_iload_n G dX7_fresh_156 1 rfl rfl ?_
                    refine r_cVR G (ci := 5) (cq := (RX7, TX7, 9)) [.int x1_141] [.int ((40 : Int32) + x1_141), .ref (a 1)] (c_X7_hasShare (k_l Γ) (k_D Γ) a cI cZ _ _ _ h) 0 rfl wM_0 (cwV 1 G.2.2.2.2.1 gX7_fresh_X7_hasShare rfl rfl rfl hdv_X7_hasShare ⟨Nat.le_of_ble_eq_true rfl, Nat.le_of_ble_eq_true rfl⟩) [0, 1] rfl (fun _ hP => hP) rfl rfl (Nat.le_of_ble_eq_true rfl) dX7_fresh_157 (fun r_157 h => ?_)
                    have hz_157 := h.1
                    replace h := h.2
                    refine r_if_eq G 185 dX7_fresh_160 (by decide) (fun hc => ?_) (fun hc => ?_)
                    · replace h := h.1 hc
                      refine r_bipush G (-6 : Int32) dX7_fresh_185 kb_m6 ?_
                      refine r_iast G hD 1 0 wM_1 rfl h.1 _ wM_1_s dX7_fresh_187 ?_
                      replace h := h.2
                      refine r_iinc (lv' := [(1, .int (x1_141 + (1 : Int32))), (0, .ref (a 0))]) G 1 dX7_fresh_188 kc_1 rfl (by decide) rfl ?_
                      refine r_goto G 141 dX7_fresh_191 (by decide) ?_
                      obtain ⟨m_141, hm_141, h⟩ := h
                      exact r_sub [1, 0] rfl (ih_141 m_141 hm_141 _ _ h)
                    · replace h := h.2 hc
                      refine r_aload_n G dX7_fresh_163 0 rfl rfl ?_
                      refine r_get G inX7 0 0 wM_0 rfl (by decide) lk_7 rfl rfl dX7_fresh_164 ?_
                      refine r_bipush G (40 : Int32) dX7_fresh_167 kb_40 ?_
                      refine r_iload_n G dX7_fresh_169 1 rfl rfl ?_
                      refine r_iadd G dX7_fresh_170 ?_
                      refine r_iald G 1 0 wM_1 rfl h.1 dX7_fresh_171 ?_
                      replace h := h.2
                      refine r_aload_n G dX7_fresh_172 0 rfl rfl ?_
                      refine r_get G inX7 0 5 wM_0 rfl (by decide) lk_19 rfl rfl dX7_fresh_173 ?_
                      refine r_iload_n G dX7_fresh_176 1 rfl rfl ?_
                      refine r_iald G 4 0 wM_4 rfl h.1 dX7_fresh_177 ?_
                      replace h := h.2
                      refine r_iadd G dX7_fresh_178 ?_
                      refine r_cSR G [.int (((σ_141 1) ((40 : Int32) + x1_141).toNatClampNeg) + ((σ_141 4) x1_141.toNatClampNeg))] [.int ((40 : Int32) + x1_141), .ref (a 1)] (c_X7_mod (k_l Γ) (k_D Γ) _ _ h) (va_cwS 1 G.2.2.2.2.1 gX7_fresh_X7_mod rfl rfl rfl hd_X7_mod ⟨Nat.le_of_ble_eq_true rfl, Nat.le_of_ble_eq_true rfl⟩) [] rfl (fun _ _ => k_E0) rfl rfl (Nat.le_of_ble_eq_true rfl) dX7_fresh_179 (fun r_179 h => ?_)
                      refine r_goto G 187 dX7_fresh_182 (by decide) ?_
                      refine r_iast G hD 1 0 wM_1 rfl h.1 _ wM_1_s dX7_fresh_187 ?_
                      replace h := h.2
                      refine r_iinc (lv' := [(1, .int (x1_141 + (1 : Int32))), (0, .ref (a 0))]) G 1 dX7_fresh_188 kc_1 rfl (by decide) rfl ?_
                      refine r_goto G 141 dX7_fresh_191 (by decide) ?_
                      obtain ⟨m_141, hm_141, h⟩ := h
                      exact r_sub [1, 0] rfl (ih_141 m_141 hm_141 _ _ h)
              exact r_sub [1, 0] rfl (key_141 n_141 _ _ h)
            · replace h := h.2 hc
              refine r_aload_n G dX7_fresh_29 0 rfl rfl ?_
              refine r_iload_n G dX7_fresh_30 1 rfl rfl ?_
              refine r_cVR G (ci := 5) (cq := (RX7, TX7, 9)) [.int x1_23] [] (c_X7_hasShare (k_l Γ) (k_D Γ) a cI cZ _ _ _ h) 0 rfl wM_0 (cwV 1 G.2.2.2.2.1 gX7_fresh_X7_hasShare rfl rfl rfl hdv_X7_hasShare ⟨Nat.le_of_ble_eq_true rfl, Nat.le_of_ble_eq_true rfl⟩) [0, 1] rfl (fun _ hP => hP) rfl rfl (Nat.le_of_ble_eq_true rfl) dX7_fresh_31 (fun r_31 h => ?_)
              have hz_31 := h.1
              replace h := h.2
              refine r_if_eq G 133 dX7_fresh_34 (by decide) (fun hc => ?_) (fun hc => ?_)
              · replace h := h.1 hc
                refine r_iinc (lv' := [(1, .int (x1_23 + (1 : Int32))), (0, .ref (a 0))]) G 1 dX7_fresh_133 kc_1 rfl (by decide) rfl ?_
                refine r_goto G 23 dX7_fresh_136 (by decide) ?_
                obtain ⟨m_23, hm_23, h⟩ := h
                exact r_sub [1, 0] rfl (ih_23 m_23 hm_23 _ _ h)
              · replace h := h.2 hc
                refine r_aload_n G dX7_fresh_37 0 rfl rfl ?_
                refine r_iload_n G dX7_fresh_38 1 rfl rfl ?_
                refine r_iconst G (0 : Int32) dX7_fresh_39 kc_0 ?_
                refine r_aload_n G dX7_fresh_40 0 rfl rfl ?_
                refine r_get G inX7 0 0 wM_0 rfl (by decide) lk_7 rfl rfl dX7_fresh_41 ?_
                refine r_bipush G (88 : Int32) dX7_fresh_44 kb_88 ?_
                refine r_iald G 1 0 wM_1 rfl (by unfold vp_in; decide) dX7_fresh_46 ?_
                refine r_cVWv G hD (ci := 5) (cq := (RX7, TX7, 9)) [.int x1_23, .int (0 : Int32), .int ((σ_23 1) (88 : Int32).toNatClampNeg)] [] (c_X7_layPoly (k_l Γ) (k_D Γ) a cI cZ _ _ _ _ _ h) 0 rfl wM_0 (cwV 3 G.2.2.2.2.1 gX7_fresh_X7_layPoly rfl rfl rfl hdv_X7_layPoly ⟨Nat.le_of_ble_eq_true rfl, Nat.le_of_ble_eq_true rfl⟩) [0, 1] rfl rfl rfl (Nat.le_of_ble_eq_true rfl) dX7_fresh_47 (fun σ_47 h => ?_)
                refine r_aload_n G dX7_fresh_50 0 rfl rfl ?_
                refine r_iload_n G dX7_fresh_51 1 rfl rfl ?_
                refine r_cVWi G hD (ci := 5) (cq := (RX7, TX7, 9)) [.int x1_23] [] (c_X7_isStruck (k_l Γ) (k_D Γ) a cI cZ _ _ _ h) 0 rfl wM_0 (cwV 1 G.2.2.2.2.1 gX7_fresh_X7_isStruck rfl rfl rfl hdv_X7_isStruck ⟨Nat.le_of_ble_eq_true rfl, Nat.le_of_ble_eq_true rfl⟩) [0, 1] rfl rfl rfl (Nat.le_of_ble_eq_true rfl) dX7_fresh_52 (fun r_52 σ_52 h => ?_)
                have hz_52 := h.1
                replace h := h.2
                refine r_if_ne G 133 dX7_fresh_55 (by decide) (fun hc => ?_) (fun hc => ?_)
                · replace h := h.2 hc
                  refine r_iinc (lv' := [(1, .int (x1_23 + (1 : Int32))), (0, .ref (a 0))]) G 1 dX7_fresh_133 kc_1 rfl (by decide) rfl ?_
                  refine r_goto G 23 dX7_fresh_136 (by decide) ?_
                  obtain ⟨m_23, hm_23, h⟩ := h
                  exact r_sub [1, 0] rfl (ih_23 m_23 hm_23 _ _ h)
                · replace h := h.1 hc
                  refine r_iconst G (1 : Int32) dX7_fresh_58 kc_1 ?_
                  refine r_istore_n (lv' := [(2, .int (1 : Int32)), (0, .ref (a 0)), (1, .int x1_23)]) G dX7_fresh_59 rfl (by decide) rfl ?_
                  obtain ⟨I_60, n_60, h, hI_60⟩ := h
                  have key_60 : ∀ (n : Nat) (x2_60 : Int32) (σ_60 : k_M), I_60 n x2_60 σ_60 → k_J Γ rm_X7_fresh 3 false (wM a cI cZ) 60 [(0, .ref (a 0)), (1, .int x1_23), (2, .int x2_60)] [] σ_60 := by
                    intro n
                    induction n using Nat.strongRecOn with
                    | ind n ih_60 =>
                      intro x2_60 σ_60 h
                      replace h := hI_60 n x2_60 σ_60 h
                      refine r_iload_n G dX7_fresh_60 2 rfl rfl ?_
                      refine r_bipush G (7 : Int32) dX7_fresh_61 kb_7 ?_
                      refine r_icmp_gt G 86 dX7_fresh_63 (by decide) (fun hc => ?_) (fun hc => ?_)
                      · replace h := h.1 hc
                        refine r_iconst G (0 : Int32) dX7_fresh_86 kc_0 ?_
                        refine r_istore_n (lv' := [(2, .int (0 : Int32)), (0, .ref (a 0)), (1, .int x1_23)]) G dX7_fresh_87 rfl (by decide) rfl ?_
                        obtain ⟨I_88, n_88, h, hI_88⟩ := h
                        have key_88 : ∀ (n : Nat) (x2_88 : Int32) (σ_88 : k_M), I_88 n x2_88 σ_88 → k_J Γ rm_X7_fresh 3 false (wM a cI cZ) 88 [(0, .ref (a 0)), (1, .int x1_23), (2, .int x2_88)] [] σ_88 := by
                          intro n
                          induction n using Nat.strongRecOn with
                          | ind n ih_88 =>
                            intro x2_88 σ_88 h
                            replace h := hI_88 n x2_88 σ_88 h
                            refine r_iload_n G dX7_fresh_88 2 rfl rfl ?_
                            refine r_aload_n G dX7_fresh_89 0 rfl rfl ?_
                            refine r_get G inX7 0 4 wM_0 rfl (by decide) lk_97 rfl rfl dX7_fresh_90 ?_
                            refine r_icmp_ge G 133 dX7_fresh_93 (by decide) (fun hc => ?_) (fun hc => ?_)
                            · replace h := h.1 hc
                              refine r_iinc (lv' := [(1, .int (x1_23 + (1 : Int32))), (0, .ref (a 0)), (2, .int x2_88)]) G 1 dX7_fresh_133 kc_1 rfl (by decide) rfl ?_
                              refine r_goto G 23 dX7_fresh_136 (by decide) ?_
                              obtain ⟨m_23, hm_23, h⟩ := h
                              exact r_sub [1, 0] rfl (ih_23 m_23 hm_23 _ _ h)
                            · replace h := h.2 hc
                              refine r_aload_n G dX7_fresh_96 0 rfl rfl ?_
                              refine r_get G inX7 0 0 wM_0 rfl (by decide) lk_7 rfl rfl dX7_fresh_97 ?_
                              refine r_bipush G (90 : Int32) dX7_fresh_100 kb_90 ?_
                              refine r_iload_n G dX7_fresh_102 2 rfl rfl ?_
                              refine r_iadd G dX7_fresh_103 ?_
                              refine r_aload_n G dX7_fresh_104 0 rfl rfl ?_
                              refine r_get G inX7 0 0 wM_0 rfl (by decide) lk_7 rfl rfl dX7_fresh_105 ?_
                              refine r_bipush G (90 : Int32) dX7_fresh_108 kb_90 ?_
                              refine r_iload_n G dX7_fresh_110 2 rfl rfl ?_
                              refine r_iadd G dX7_fresh_111 ?_
                              refine r_iald G 1 0 wM_1 rfl h.1 dX7_fresh_112 ?_
                              replace h := h.2
                              refine r_aload_n G dX7_fresh_113 0 rfl rfl ?_
                              refine r_get G inX7 0 3 wM_0 rfl (by decide) lk_16 rfl rfl dX7_fresh_114 ?_
                              refine r_iload_n G dX7_fresh_117 2 rfl rfl ?_
                              refine r_iald G 3 0 wM_3 rfl h.1 dX7_fresh_118 ?_
                              replace h := h.2
                              refine r_cSR G [.int ((σ_88 3) x2_88.toNatClampNeg)] [.int ((σ_88 1) ((90 : Int32) + x2_88).toNatClampNeg), .int ((90 : Int32) + x2_88), .ref (a 1)] (c_X7_sealOf (k_l Γ) (k_D Γ) _ _ h) (va_cwS 1 G.2.2.2.2.1 gX7_fresh_X7_sealOf rfl rfl rfl hd_X7_sealOf ⟨Nat.le_of_ble_eq_true rfl, Nat.le_of_ble_eq_true rfl⟩) [] rfl (fun _ _ => k_E0) rfl rfl (Nat.le_of_ble_eq_true rfl) dX7_fresh_119 (fun r_119 h => ?_)
                              refine r_imul G dX7_fresh_122 ?_
                              refine r_bipush G (47 : Int32) dX7_fresh_123 kb_47 ?_
                              refine r_irem G kne_47 dX7_fresh_125 ?_
                              refine r_iast G hD 1 0 wM_1 rfl h.1 _ wM_1_s dX7_fresh_126 ?_
                              replace h := h.2
                              refine r_iinc (lv' := [(2, .int (x2_88 + (1 : Int32))), (0, .ref (a 0)), (1, .int x1_23)]) G 2 dX7_fresh_127 kc_1 rfl (by decide) rfl ?_
                              refine r_goto G 88 dX7_fresh_130 (by decide) ?_
                              obtain ⟨m_88, hm_88, h⟩ := h
                              exact r_sub [1, 2, 0] rfl (ih_88 m_88 hm_88 _ _ h)
                        exact r_sub [1, 2, 0] rfl (key_88 n_88 _ _ h)
                      · replace h := h.2 hc
                        refine r_aload_n G dX7_fresh_66 0 rfl rfl ?_
                        refine r_get G inX7 0 5 wM_0 rfl (by decide) lk_19 rfl rfl dX7_fresh_67 ?_
                        refine r_iload_n G dX7_fresh_70 2 rfl rfl ?_
                        refine r_dup2 G rfl rfl dX7_fresh_71 ?_
                        refine r_iald G 4 0 wM_4 rfl h.1 dX7_fresh_72 ?_
                        replace h := h.2
                        refine r_aload_n G dX7_fresh_73 0 rfl rfl ?_
                        refine r_iload_n G dX7_fresh_74 2 rfl rfl ?_
                        refine r_cVR G (ci := 5) (cq := (RX7, TX7, 9)) [.int x2_60] [.int ((σ_60 4) x2_60.toNatClampNeg), .int x2_60, .ref (a 4)] (c_X7_polyAt (k_l Γ) (k_D Γ) a cI cZ _ _ _ h) 0 rfl wM_0 (cwV 1 G.2.2.2.2.1 gX7_fresh_X7_polyAt rfl rfl rfl hdv_X7_polyAt ⟨Nat.le_of_ble_eq_true rfl, Nat.le_of_ble_eq_true rfl⟩) [0, 1] rfl (fun _ hP => hP) rfl rfl (Nat.le_of_ble_eq_true rfl) dX7_fresh_75 (fun r_75 h => ?_)
                        refine r_iadd G dX7_fresh_78 ?_
                        refine r_iast G hD 4 0 wM_4 rfl h.1 _ wM_4_s dX7_fresh_79 ?_
                        replace h := h.2
                        refine r_iinc (lv' := [(2, .int (x2_60 + (1 : Int32))), (0, .ref (a 0)), (1, .int x1_23)]) G 2 dX7_fresh_80 kc_1 rfl (by decide) rfl ?_
                        refine r_goto G 60 dX7_fresh_83 (by decide) ?_
                        obtain ⟨m_60, hm_60, h⟩ := h
                        exact r_sub [1, 2, 0] rfl (ih_60 m_60 hm_60 _ _ h)
                  exact r_sub [1, 2, 0] rfl (key_60 n_60 _ _ h)
        exact r_sub [1, 0] rfl (key_23 n_23 _ _ h)
      · replace h := h.2 hc
        refine r_aload_n G dX7_fresh_8 0 rfl rfl ?_
        refine r_get G inX7 0 5 wM_0 rfl (by decide) lk_19 rfl rfl dX7_fresh_9 ?_
        refine r_iload_n G dX7_fresh_12 1 rfl rfl ?_
        refine r_iconst G (0 : Int32) dX7_fresh_13 kc_0 ?_
        refine r_iast G hD 4 0 wM_4 rfl h.1 _ wM_4_s dX7_fresh_14 ?_
        replace h := h.2
        refine r_iinc (lv' := [(1, .int (x1_2 + (1 : Int32))), (0, .ref (a 0))]) G 1 dX7_fresh_15 kc_1 rfl (by decide) rfl ?_
        refine r_goto G 2 dX7_fresh_18 (by decide) ?_
        obtain ⟨m_2, hm_2, h⟩ := h
        exact r_sub [1, 0] rfl (ih_2 m_2 hm_2 _ _ h)
  exact r_sub [1, 0] rfl (key_2 n_2 _ _ h)
abbrev rm_X7_takenFor : Room := { frames := 4, cells := 0, slots := 0, locals := 95 }
def wp_X7_takenFor (σ : k_M) (p1 : Int32) (Q : Int32 → k_M → Prop) : Prop :=
  (k_lp3 (fun (B_4 : Int32 → Int32 → k_M → Prop) (x2_4 : Int32) (x3_4 : Int32) (σ_4 : k_M) => (((σ_4 0 2) ≤ x3_4 → Q x2_4 σ_4) ∧ (¬ (σ_4 0 2) ≤ x3_4 → wp_X7_bits x2_4 (fun (r_13 : Int32) => ((((σ_4 1) (88 : Int32).toNatClampNeg) ≤ r_13 → Q x2_4 σ_4) ∧ (¬ ((σ_4 1) (88 : Int32).toNatClampNeg) ≤ r_13 → wp_X7_figure σ_4 x3_4 (fun (r_28 : Int32) => wp_X7_hasShare σ_4 r_28 (fun (r_36 : Int32) => ((r_36 = 0 → B_4 x2_4 (x3_4 + (1 : Int32)) σ_4) ∧ (¬ r_36 = 0 → wp_X7_told σ_4 r_28 (fun (r_46 : Int32) => wp_X7_isFit σ_4 r_46 r_28 (fun (r_51 : Int32) => ((r_51 = 0 → B_4 x2_4 (x3_4 + (1 : Int32)) (k_put σ_4 1 (369 : Int32).toNatClampNeg (((σ_4 1) (369 : Int32).toNatClampNeg) ||| ((1 : Int32) <<< (r_28 &&& 31))))) ∧ (¬ r_51 = 0 → wp_X7_told σ_4 r_28 (fun (r_81 : Int32) => wp_X7_layPoly σ_4 r_28 r_81 p1 (fun (σ_85 : k_M) => wp_X7_isStruck σ_85 r_28 (fun (r_92 : Int32) (σ_92 : k_M) => ((r_92 = 0 → B_4 (x2_4 ||| ((1 : Int32) <<< (r_28 &&& 31))) (x3_4 + (1 : Int32)) σ_92) ∧ (¬ r_92 = 0 → B_4 (x2_4 ||| (0 : Int32)) (x3_4 + (1 : Int32)) σ_92))))))))))))))))))) (0 : Int32) (2 : Int32) σ)
theorem hd_X7_takenFor : yX7_takenFor.cls ≠ "java/lang/invoke/MethodHandle" ∧ yX7_takenFor.cls ≠ "java/lang/invoke/VarHandle" ∧ (parseMethodDescriptor yX7_takenFor.desc).map (fun d => d.parameters.length) = some 1 := by decide +kernel
theorem hdv_X7_takenFor : yX7_takenFor.cls = RX7 ∧ yX7_takenFor.cls ≠ "java/lang/invoke/MethodHandle" ∧ yX7_takenFor.cls ≠ "java/lang/invoke/VarHandle" ∧ (parseMethodDescriptor yX7_takenFor.desc).map (fun d => d.parameters.length) = some 1 := ⟨rfl, hd_X7_takenFor⟩
set_option maxHeartbeats 4000000 in
set_option maxRecDepth 100000 in
theorem c_X7_takenFor (l : Launch) (D : va_G) (a : Nat → Nat) (cI cZ : ClassId) (σ : k_M) (p1 : Int32) (Q : Int32 → k_M → Prop) (h : wp_X7_takenFor σ p1 Q) : Met l yX7_takenFor wsX7_takenFor rm_X7_takenFor (k_PW D [(cI, .int), (cZ, .boolean)] (wM a cI cZ) σ [.ref (a 0), .int p1]) (k_Qi D (wM a cI cZ) Q) 0 0 (k_wA (wM a cI cZ)) := by
  refine k_metW (Qc := fun D => k_Qi D (wM a cI cZ) Q) (by decide) rfl (Nat.le_of_ble_eq_true rfl) ?_
  intro Γ G hD E
  unfold wp_X7_takenFor at h
  have inX7 : ∀ w ∈ wsX70, w ∈ wsX7_takenFor := by decide +kernel
  have lk_7 := G.2.2.2.2.1 (.fieldLink RX7 7 "FreshSharesModel" "state" "[I") (by decide +kernel)
  have lk_71 := G.2.2.2.2.1 (.fieldLink RX7 71 "FreshSharesModel" "signs" "I") (by decide +kernel)
  show k_J Γ rm_X7_takenFor 5 false (wM a cI cZ) 0 [(0, .ref (a 0)), (1, .int p1)] [] σ
  refine r_iconst G (0 : Int32) dX7_takenFor_0 kc_0 ?_
  refine r_istore_n (lv' := [(2, .int (0 : Int32)), (0, .ref (a 0)), (1, .int p1)]) G dX7_takenFor_1 rfl (by decide) rfl ?_
  refine r_iconst G (2 : Int32) dX7_takenFor_2 kc_2 ?_
  refine r_istore_n (lv' := [(3, .int (2 : Int32)), (2, .int (0 : Int32)), (0, .ref (a 0)), (1, .int p1)]) G dX7_takenFor_3 rfl (by decide) rfl ?_
  obtain ⟨I_4, n_4, h, hI_4⟩ := h
  have key_4 : ∀ (n : Nat) (x2_4 : Int32) (x3_4 : Int32) (σ_4 : k_M), I_4 n x2_4 x3_4 σ_4 → k_J Γ rm_X7_takenFor 5 false (wM a cI cZ) 4 [(0, .ref (a 0)), (1, .int p1), (2, .int x2_4), (3, .int x3_4)] [] σ_4 := by
    intro n
    induction n using Nat.strongRecOn with
    | ind n ih_4 =>
      intro x2_4 x3_4 σ_4 h
      replace h := hI_4 n x2_4 x3_4 σ_4 h
      refine r_iload_n G dX7_takenFor_4 3 rfl rfl ?_
      refine r_aload_n G dX7_takenFor_5 0 rfl rfl ?_
      refine r_get G inX7 0 2 wM_0 rfl (by decide) lk_71 rfl rfl dX7_takenFor_6 ?_
      refine r_icmp_ge G 114 dX7_takenFor_9 (by decide) (fun hc => ?_) (fun hc => ?_)
      · replace h := h.1 hc
        refine r_iload_n G dX7_takenFor_114 2 rfl rfl ?_
        exact r_iretW G E dX7_takenFor_115 h
      · replace h := h.2 hc
        refine r_iload_n G dX7_takenFor_12 2 rfl rfl ?_
        refine r_cSR G [.int x2_4] [] (c_X7_bits (k_l Γ) (k_D Γ) _ _ h) (va_cwS 1 G.2.2.2.2.1 gX7_takenFor_X7_bits rfl rfl rfl hd_X7_bits ⟨Nat.le_of_ble_eq_true rfl, Nat.le_of_ble_eq_true rfl⟩) [] rfl (fun _ _ => k_E0) rfl rfl (Nat.le_of_ble_eq_true rfl) dX7_takenFor_13 (fun r_13 h => ?_)
        refine r_aload_n G dX7_takenFor_16 0 rfl rfl ?_
        refine r_get G inX7 0 0 wM_0 rfl (by decide) lk_7 rfl rfl dX7_takenFor_17 ?_
        refine r_bipush G (88 : Int32) dX7_takenFor_20 kb_88 ?_
        refine r_iald G 1 0 wM_1 rfl (by unfold vp_in; decide) dX7_takenFor_22 ?_
        refine r_icmp_ge G 114 dX7_takenFor_23 (by decide) (fun hc => ?_) (fun hc => ?_)
        · replace h := h.1 hc
          refine r_iload_n G dX7_takenFor_114 2 rfl rfl ?_
          exact r_iretW G E dX7_takenFor_115 h
        · replace h := h.2 hc
          refine r_aload_n G dX7_takenFor_26 0 rfl rfl ?_
          refine r_iload_n G dX7_takenFor_27 3 rfl rfl ?_
          refine r_cVR G (ci := 5) (cq := (RX7, TX7, 9)) [.int x3_4] [] (c_X7_figure (k_l Γ) (k_D Γ) a cI cZ _ _ _ h) 0 rfl wM_0 (cwV 1 G.2.2.2.2.1 gX7_takenFor_X7_figure rfl rfl rfl hdv_X7_figure ⟨Nat.le_of_ble_eq_true rfl, Nat.le_of_ble_eq_true rfl⟩) [0, 1] rfl (fun _ hP => hP) rfl rfl (Nat.le_of_ble_eq_true rfl) dX7_takenFor_28 (fun r_28 h => ?_)
          refine r_istore (lv' := [(4, .int r_28), (0, .ref (a 0)), (1, .int p1), (2, .int x2_4), (3, .int x3_4)]) G dX7_takenFor_31 (by decide) rfl ?_
          refine r_aload_n G dX7_takenFor_33 1 rfl rfl ?_
          refine r_iload G dX7_takenFor_34 0 rfl ?_
          refine r_cVR G (ci := 5) (cq := (RX7, TX7, 9)) [.int r_28] [] (c_X7_hasShare (k_l Γ) (k_D Γ) a cI cZ _ _ _ h) 0 rfl wM_0 (cwV 1 G.2.2.2.2.1 gX7_takenFor_X7_hasShare rfl rfl rfl hdv_X7_hasShare ⟨Nat.le_of_ble_eq_true rfl, Nat.le_of_ble_eq_true rfl⟩) [0, 1] rfl (fun _ hP => hP) rfl rfl (Nat.le_of_ble_eq_true rfl) dX7_takenFor_36 (fun r_36 h => ?_)
          have hz_36 := h.1
          replace h := h.2
          refine r_if_eq G 108 dX7_takenFor_39 (by decide) (fun hc => ?_) (fun hc => ?_)
          · replace h := h.1 hc
            refine r_iinc (lv' := [(3, .int (x3_4 + (1 : Int32))), (4, .int r_28), (0, .ref (a 0)), (1, .int p1), (2, .int x2_4)]) G 4 dX7_takenFor_108 kc_1 rfl (by decide) rfl ?_
            refine r_goto G 4 dX7_takenFor_111 (by decide) ?_
            obtain ⟨m_4, hm_4, h⟩ := h
            exact r_sub [2, 3, 4, 0] rfl (ih_4 m_4 hm_4 _ _ _ h)
          · replace h := h.2 hc
            refine r_aload_n G dX7_takenFor_42 1 rfl rfl ?_
            refine r_aload_n G dX7_takenFor_43 1 rfl rfl ?_
            refine r_iload G dX7_takenFor_44 0 rfl ?_
            refine r_cVR G (ci := 5) (cq := (RX7, TX7, 9)) [.int r_28] [.ref (a 0)] (c_X7_told (k_l Γ) (k_D Γ) a cI cZ _ _ _ h) 0 rfl wM_0 (cwV 1 G.2.2.2.2.1 gX7_takenFor_X7_told rfl rfl rfl hdv_X7_told ⟨Nat.le_of_ble_eq_true rfl, Nat.le_of_ble_eq_true rfl⟩) [0, 1] rfl (fun _ hP => hP) rfl rfl (Nat.le_of_ble_eq_true rfl) dX7_takenFor_46 (fun r_46 h => ?_)
            refine r_iload G dX7_takenFor_49 0 rfl ?_
            refine r_cVR G (ci := 5) (cq := (RX7, TX7, 9)) [.int r_46, .int r_28] [] (c_X7_isFit (k_l Γ) (k_D Γ) a cI cZ _ _ _ _ h) 0 rfl wM_0 (cwV 2 G.2.2.2.2.1 gX7_takenFor_X7_isFit rfl rfl rfl hdv_X7_isFit ⟨Nat.le_of_ble_eq_true rfl, Nat.le_of_ble_eq_true rfl⟩) [0, 1] rfl (fun _ hP => hP) rfl rfl (Nat.le_of_ble_eq_true rfl) dX7_takenFor_51 (fun r_51 h => ?_)
            have hz_51 := h.1
            replace h := h.2
            refine r_if_ne G 75 dX7_takenFor_54 (by decide) (fun hc => ?_) (fun hc => ?_)
            · replace h := h.2 hc
              refine r_aload_n G dX7_takenFor_75 1 rfl rfl ?_
              refine r_iload G dX7_takenFor_76 0 rfl ?_
              refine r_aload_n G dX7_takenFor_78 1 rfl rfl ?_
              refine r_iload G dX7_takenFor_79 0 rfl ?_
              refine r_cVR G (ci := 5) (cq := (RX7, TX7, 9)) [.int r_28] [.int r_28, .ref (a 0)] (c_X7_told (k_l Γ) (k_D Γ) a cI cZ _ _ _ h) 0 rfl wM_0 (cwV 1 G.2.2.2.2.1 gX7_takenFor_X7_told rfl rfl rfl hdv_X7_told ⟨Nat.le_of_ble_eq_true rfl, Nat.le_of_ble_eq_true rfl⟩) [0, 1] rfl (fun _ hP => hP) rfl rfl (Nat.le_of_ble_eq_true rfl) dX7_takenFor_81 (fun r_81 h => ?_)
              refine r_iload_n G dX7_takenFor_84 2 rfl rfl ?_
              refine r_cVWv G hD (ci := 5) (cq := (RX7, TX7, 9)) [.int r_28, .int r_81, .int p1] [] (c_X7_layPoly (k_l Γ) (k_D Γ) a cI cZ _ _ _ _ _ h) 0 rfl wM_0 (cwV 3 G.2.2.2.2.1 gX7_takenFor_X7_layPoly rfl rfl rfl hdv_X7_layPoly ⟨Nat.le_of_ble_eq_true rfl, Nat.le_of_ble_eq_true rfl⟩) [0, 1] rfl rfl rfl (Nat.le_of_ble_eq_true rfl) dX7_takenFor_85 (fun σ_85 h => ?_)
              refine r_iload_n G dX7_takenFor_88 3 rfl rfl ?_
              refine r_aload_n G dX7_takenFor_89 1 rfl rfl ?_
              refine r_iload G dX7_takenFor_90 0 rfl ?_
              refine r_cVWi G hD (ci := 5) (cq := (RX7, TX7, 9)) [.int r_28] [.int x2_4] (c_X7_isStruck (k_l Γ) (k_D Γ) a cI cZ _ _ _ h) 0 rfl wM_0 (cwV 1 G.2.2.2.2.1 gX7_takenFor_X7_isStruck rfl rfl rfl hdv_X7_isStruck ⟨Nat.le_of_ble_eq_true rfl, Nat.le_of_ble_eq_true rfl⟩) [0, 1] rfl rfl rfl (Nat.le_of_ble_eq_true rfl) dX7_takenFor_92 (fun r_92 σ_92 h => ?_)
              have hz_92 := h.1
              replace h := h.2
              refine r_if_eq G 102 dX7_takenFor_95 (by decide) (fun hc => ?_) (fun hc => ?_)
              · replace h := h.1 hc
                refine r_iconst G (1 : Int32) dX7_takenFor_102 kc_1 ?_
                refine r_iload G dX7_takenFor_103 0 rfl ?_
                refine r_ishl G dX7_takenFor_105 ?_
                refine r_ior G dX7_takenFor_106 ?_
                refine r_istore_n (lv' := [(2, .int (x2_4 ||| ((1 : Int32) <<< (r_28 &&& 31)))), (4, .int r_28), (0, .ref (a 0)), (1, .int p1), (3, .int x3_4)]) G dX7_takenFor_107 rfl (by decide) rfl ?_
                refine r_iinc (lv' := [(3, .int (x3_4 + (1 : Int32))), (2, .int (x2_4 ||| ((1 : Int32) <<< (r_28 &&& 31)))), (4, .int r_28), (0, .ref (a 0)), (1, .int p1)]) G 4 dX7_takenFor_108 kc_1 rfl (by decide) rfl ?_
                refine r_goto G 4 dX7_takenFor_111 (by decide) ?_
                obtain ⟨m_4, hm_4, h⟩ := h
                exact r_sub [3, 4, 1, 0] rfl (ih_4 m_4 hm_4 _ _ _ h)
              · replace h := h.2 hc
                refine r_iconst G (0 : Int32) dX7_takenFor_98 kc_0 ?_
                refine r_goto G 106 dX7_takenFor_99 (by decide) ?_
                refine r_ior G dX7_takenFor_106 ?_
                refine r_istore_n (lv' := [(2, .int (x2_4 ||| (0 : Int32))), (4, .int r_28), (0, .ref (a 0)), (1, .int p1), (3, .int x3_4)]) G dX7_takenFor_107 rfl (by decide) rfl ?_
                refine r_iinc (lv' := [(3, .int (x3_4 + (1 : Int32))), (2, .int (x2_4 ||| (0 : Int32))), (4, .int r_28), (0, .ref (a 0)), (1, .int p1)]) G 4 dX7_takenFor_108 kc_1 rfl (by decide) rfl ?_
                refine r_goto G 4 dX7_takenFor_111 (by decide) ?_
                obtain ⟨m_4, hm_4, h⟩ := h
                exact r_sub [3, 4, 1, 0] rfl (ih_4 m_4 hm_4 _ _ _ h)
            · replace h := h.1 hc
              refine r_aload_n G dX7_takenFor_57 1 rfl rfl ?_
              refine r_get G inX7 0 0 wM_0 rfl (by decide) lk_7 rfl rfl dX7_takenFor_58 ?_
              refine r_sipush G (369 : Int32) dX7_takenFor_61 ks_369 ?_
              refine r_dup2 G rfl rfl dX7_takenFor_64 ?_
              refine r_iald G 1 0 wM_1 rfl (by unfold vp_in; decide) dX7_takenFor_65 ?_
              refine r_iconst G (1 : Int32) dX7_takenFor_66 kc_1 ?_
              refine r_iload G dX7_takenFor_67 0 rfl ?_
              refine r_ishl G dX7_takenFor_69 ?_
              refine r_ior G dX7_takenFor_70 ?_
              refine r_iast G hD 1 0 wM_1 rfl (by unfold vp_in; decide) _ wM_1_s dX7_takenFor_71 ?_
              refine r_goto G 108 dX7_takenFor_72 (by decide) ?_
              refine r_iinc (lv' := [(3, .int (x3_4 + (1 : Int32))), (4, .int r_28), (0, .ref (a 0)), (1, .int p1), (2, .int x2_4)]) G 4 dX7_takenFor_108 kc_1 rfl (by decide) rfl ?_
              refine r_goto G 4 dX7_takenFor_111 (by decide) ?_
              obtain ⟨m_4, hm_4, h⟩ := h
              exact r_sub [2, 3, 4, 0] rfl (ih_4 m_4 hm_4 _ _ _ h)
  exact r_sub [2, 3, 1, 0] rfl (key_4 n_4 _ _ _ h)
