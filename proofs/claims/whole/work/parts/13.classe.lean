abbrev rm_X6_thief : Room := { frames := 4, cells := 0, slots := 0, locals := 96 }
def wp_X6_thief (σ : k_M) (p1 : Int32) (Q : Int32 → k_M → Prop) : Prop :=
  ((p1 < 0 → Q (-2 : Int32) σ) ∧ (¬ p1 < 0 → ((p1 ≤ (2 : Int32) → wp_X0_isDealt σ (fun (r_16 : Int32) => ((r_16 = 0 → Q (-3 : Int32) σ) ∧ (¬ r_16 = 0 → ((p1 = (2 : Int32) → wp_X2_opened σ (-1 : Int32) (σ 4 7) (fun (r_42 : Int32) (σ_42 : k_M) => Q r_42 σ_42)) ∧ (¬ p1 = (2 : Int32) → wp_X0_firstLostEpoch σ (fun (r_50 : Int32) => ((p1 = 0 → Q r_50 σ) ∧ (¬ p1 = 0 → ((r_50 = (-6 : Int32) → Q r_50 σ) ∧ (¬ r_50 = (-6 : Int32) → wp_X0_thresholdOf σ r_50 (fun (r_76 : Int32) => wp_X2_opened σ r_50 r_76 (fun (r_79 : Int32) (σ_79 : k_M) => Q r_79 σ_79))))))))))))) ∧ (¬ p1 ≤ (2 : Int32) → Q (-2 : Int32) σ))))
theorem hd_X6_thief : yX6_thief.cls ≠ "java/lang/invoke/MethodHandle" ∧ yX6_thief.cls ≠ "java/lang/invoke/VarHandle" ∧ (parseMethodDescriptor yX6_thief.desc).map (fun d => d.parameters.length) = some 1 := by decide +kernel
theorem hdv_X6_thief : yX6_thief.cls = RX6 ∧ yX6_thief.cls ≠ "java/lang/invoke/MethodHandle" ∧ yX6_thief.cls ≠ "java/lang/invoke/VarHandle" ∧ (parseMethodDescriptor yX6_thief.desc).map (fun d => d.parameters.length) = some 1 := ⟨rfl, hd_X6_thief⟩
set_option maxHeartbeats 4000000 in
set_option maxRecDepth 100000 in
theorem c_X6_thief (l : Launch) (D : va_G) (a : Nat → Nat) (cI cO : ClassId) (gI : Nat → Option Nat) (σ : k_M) (p1 : Int32) (Q : Int32 → k_M → Prop) (h : wp_X6_thief σ p1 Q) : Met l yX6_thief wsX6_thief rm_X6_thief (k_PW D [(cI, .int), (cO, .object "FreshShares$Circle")] (wC a cI cO gI) σ [.ref (a 0), .int p1]) (k_Qi D (wC a cI cO gI) Q) 0 0 (k_wA (wC a cI cO gI)) := by
  refine k_metW (Qc := fun D => k_Qi D (wC a cI cO gI) Q) (by decide) rfl (Nat.le_of_ble_eq_true rfl) ?_
  intro Γ G hD E
  unfold wp_X6_thief at h
  have inX0 : ∀ w ∈ wsX00, w ∈ wsX6_thief := by decide +kernel
  have inX6 : ∀ w ∈ wsX60, w ∈ wsX6_thief := by decide +kernel
  have lk_19 := G.2.2.2.2.1 (.fieldLink RX6 19 "FreshShares" "orders" "LFreshShares$Orders;") (by decide +kernel)
  have lk_27 := G.2.2.2.2.1 (.fieldLink RX6 27 "FreshShares" "circle" "LFreshShares$Circle;") (by decide +kernel)
  show k_J Γ rm_X6_thief 3 false (wC a cI cO gI) 0 [(0, .ref (a 0)), (1, .int p1)] [] σ
  refine r_iload_n G dX6_thief_0 1 rfl rfl ?_
  refine r_if_lt G 9 dX6_thief_1 (by decide) (fun hc => ?_) (fun hc => ?_)
  · replace h := h.1 hc
    refine r_bipush G (-2 : Int32) dX6_thief_9 kb_m2 ?_
    exact r_iretW G E dX6_thief_11 h
  · replace h := h.2 hc
    refine r_iload_n G dX6_thief_4 1 rfl rfl ?_
    refine r_iconst G (2 : Int32) dX6_thief_5 kc_2 ?_
    refine r_icmp_le G 12 dX6_thief_6 (by decide) (fun hc => ?_) (fun hc => ?_)
    · replace h := h.1 hc
      refine r_aload_n G dX6_thief_12 0 rfl rfl ?_
      refine r_get G inX6 0 2 wC_0 rfl (by decide) lk_27 rfl rfl dX6_thief_13 ?_
      refine r_cVR G (ci := 0) (cq := (RX0, TX0, 12)) [] [] (c_X0_isDealt (k_l Γ) (k_D Γ) a cI cO gI _ _ h) 4 rfl wC_4 (cwV 0 G.2.2.2.2.1 gX6_thief_X0_isDealt rfl rfl rfl hdv_X0_isDealt ⟨Nat.le_of_ble_eq_true rfl, Nat.le_of_ble_eq_true rfl⟩) [0, 1] rfl (fun _ hP => hP) rfl rfl (Nat.le_of_ble_eq_true rfl) dX6_thief_16 (fun r_16 h => ?_)
      have hz_16 := h.1
      replace h := h.2
      refine r_if_ne G 25 dX6_thief_19 (by decide) (fun hc => ?_) (fun hc => ?_)
      · replace h := h.2 hc
        refine r_iload_n G dX6_thief_25 1 rfl rfl ?_
        refine r_iconst G (2 : Int32) dX6_thief_26 kc_2 ?_
        refine r_icmp_ne G 46 dX6_thief_27 (by decide) (fun hc => ?_) (fun hc => ?_)
        · replace h := h.2 hc
          refine r_aload_n G dX6_thief_46 0 rfl rfl ?_
          refine r_get G inX6 0 2 wC_0 rfl (by decide) lk_27 rfl rfl dX6_thief_47 ?_
          refine r_cVR G (ci := 0) (cq := (RX0, TX0, 12)) [] [] (c_X0_firstLostEpoch (k_l Γ) (k_D Γ) a cI cO gI _ _ h) 4 rfl wC_4 (cwV 0 G.2.2.2.2.1 gX6_thief_X0_firstLostEpoch rfl rfl rfl hdv_X0_firstLostEpoch ⟨Nat.le_of_ble_eq_true rfl, Nat.le_of_ble_eq_true rfl⟩) [0, 1] rfl (fun _ hP => hP) rfl rfl (Nat.le_of_ble_eq_true rfl) dX6_thief_50 (fun r_50 h => ?_)
          refine r_istore_n (lv' := [(2, .int r_50), (0, .ref (a 0)), (1, .int p1)]) G dX6_thief_53 rfl (by decide) rfl ?_
          refine r_iload_n G dX6_thief_54 2 rfl rfl ?_
          refine r_if_eq G 64 dX6_thief_55 (by decide) (fun hc => ?_) (fun hc => ?_)
          · replace h := h.1 hc
            refine r_iload_n G dX6_thief_64 0 rfl rfl ?_
            exact r_iretW G E dX6_thief_65 h
          · replace h := h.2 hc
            refine r_iload_n G dX6_thief_58 0 rfl rfl ?_
            refine r_bipush G (-6 : Int32) dX6_thief_59 kb_m6 ?_
            refine r_icmp_ne G 66 dX6_thief_61 (by decide) (fun hc => ?_) (fun hc => ?_)
            · replace h := h.2 hc
              refine r_aload_n G dX6_thief_66 1 rfl rfl ?_
              refine r_get G inX6 0 1 wC_0 rfl (by decide) lk_19 rfl rfl dX6_thief_67 ?_
              refine r_iload_n G dX6_thief_70 0 rfl rfl ?_
              refine r_aload_n G dX6_thief_71 1 rfl rfl ?_
              refine r_get G inX6 0 2 wC_0 rfl (by decide) lk_27 rfl rfl dX6_thief_72 ?_
              refine r_iload_n G dX6_thief_75 0 rfl rfl ?_
              refine r_cVR G (ci := 0) (cq := (RX0, TX0, 12)) [.int r_50] [.int r_50, .ref (a 3)] (c_X0_thresholdOf (k_l Γ) (k_D Γ) a cI cO gI _ _ _ h) 4 rfl wC_4 (cwV 1 G.2.2.2.2.1 gX6_thief_X0_thresholdOf rfl rfl rfl hdv_X0_thresholdOf ⟨Nat.le_of_ble_eq_true rfl, Nat.le_of_ble_eq_true rfl⟩) [0, 1] rfl (fun _ hP => hP) rfl rfl (Nat.le_of_ble_eq_true rfl) dX6_thief_76 (fun r_76 h => ?_)
              refine r_cVWi G hD (ci := 2) (cq := (RX2, TX2, 6)) [.int r_50, .int r_76] [] (c_X2_opened (k_l Γ) (k_D Γ) a cI cO gI _ _ _ _ h) 3 rfl wC_3 (cwV 2 G.2.2.2.2.1 gX6_thief_X2_opened rfl rfl rfl hdv_X2_opened ⟨Nat.le_of_ble_eq_true rfl, Nat.le_of_ble_eq_true rfl⟩) [0, 1] rfl rfl rfl (Nat.le_of_ble_eq_true rfl) dX6_thief_79 (fun r_79 σ_79 h => ?_)
              exact r_iretW G E dX6_thief_82 h
            · replace h := h.1 hc
              refine r_iload_n G dX6_thief_64 0 rfl rfl ?_
              exact r_iretW G E dX6_thief_65 h
        · replace h := h.1 hc
          refine r_aload_n G dX6_thief_30 0 rfl rfl ?_
          refine r_get G inX6 0 1 wC_0 rfl (by decide) lk_19 rfl rfl dX6_thief_31 ?_
          refine r_iconst G (-1 : Int32) dX6_thief_34 kc_m1 ?_
          refine r_aload_n G dX6_thief_35 0 rfl rfl ?_
          refine r_get G inX6 0 2 wC_0 rfl (by decide) lk_27 rfl rfl dX6_thief_36 ?_
          refine r_getN G inX0 4 7 wC_4 rfl (by decide) (G.2.2.2.2.2.2.at 20 rfl rfl) rfl rfl dX6_thief_39 ?_
          refine r_cVWi G hD (ci := 2) (cq := (RX2, TX2, 6)) [.int (-1 : Int32), .int (σ 4 7)] [] (c_X2_opened (k_l Γ) (k_D Γ) a cI cO gI _ _ _ _ h) 3 rfl wC_3 (cwV 2 G.2.2.2.2.1 gX6_thief_X2_opened rfl rfl rfl hdv_X2_opened ⟨Nat.le_of_ble_eq_true rfl, Nat.le_of_ble_eq_true rfl⟩) [0, 1] rfl rfl rfl (Nat.le_of_ble_eq_true rfl) dX6_thief_42 (fun r_42 σ_42 h => ?_)
          exact r_iretW G E dX6_thief_45 h
      · replace h := h.1 hc
        refine r_bipush G (-3 : Int32) dX6_thief_22 kb_m3 ?_
        exact r_iretW G E dX6_thief_24 h
    · replace h := h.2 hc
      refine r_bipush G (-2 : Int32) dX6_thief_9 kb_m2 ?_
      exact r_iretW G E dX6_thief_11 h
abbrev rm_X6_weighs : Room := { frames := 2, cells := 0, slots := 0, locals := 47 }
def wp_X6_weighs (σ : k_M) (p1 p2 p3 : Int32) (Q : Int32 → Prop) : Prop :=
  wp_X6_isValue p3 (fun (r_1 : Int32) => ((r_1 = 0 → Q (-2 : Int32)) ∧ (¬ r_1 = 0 → (((p2 &&& (-255 : Int32)) = 0 → wp_X6_isMember p1 (fun (r_19 : Int32) => ((r_19 = 0 → Q (-1 : Int32)) ∧ (¬ r_19 = 0 → wp_X4_has p2 p1 (fun (r_27 : Int32) => ((r_27 = 0 → Q (-1 : Int32)) ∧ (¬ r_27 = 0 → wp_X5_weight p1 p2 p3 (fun (r_38 : Int32) => Q r_38)))))))) ∧ (¬ (p2 &&& (-255 : Int32)) = 0 → Q (-2 : Int32))))))
theorem hd_X6_weighs : yX6_weighs.cls ≠ "java/lang/invoke/MethodHandle" ∧ yX6_weighs.cls ≠ "java/lang/invoke/VarHandle" ∧ (parseMethodDescriptor yX6_weighs.desc).map (fun d => d.parameters.length) = some 3 := by decide +kernel
theorem hdv_X6_weighs : yX6_weighs.cls = RX6 ∧ yX6_weighs.cls ≠ "java/lang/invoke/MethodHandle" ∧ yX6_weighs.cls ≠ "java/lang/invoke/VarHandle" ∧ (parseMethodDescriptor yX6_weighs.desc).map (fun d => d.parameters.length) = some 3 := ⟨rfl, hd_X6_weighs⟩
set_option maxHeartbeats 4000000 in
set_option maxRecDepth 100000 in
theorem c_X6_weighs (l : Launch) (D : va_G) (a : Nat → Nat) (cI cO : ClassId) (gI : Nat → Option Nat) (σ : k_M) (p1 p2 p3 : Int32) (Q : Int32 → Prop) (h : wp_X6_weighs σ p1 p2 p3 Q) : Met l yX6_weighs wsX6_weighs rm_X6_weighs (k_PR D [(cI, .int), (cO, .object "FreshShares$Circle")] (wC a cI cO gI) σ [.ref (a 0), .int p1, .int p2, .int p3]) (vp_Si Q) 0 0 (fun _ => False) := by
  refine k_metR (by decide) rfl (Nat.le_of_ble_eq_true rfl) ?_
  intro Γ G E
  unfold wp_X6_weighs at h
  show k_J Γ rm_X6_weighs 4 true (wC a cI cO gI) 0 [(0, .ref (a 0)), (1, .int p1), (2, .int p2), (3, .int p3)] [] σ
  refine r_iload_n G dX6_weighs_0 3 rfl rfl ?_
  refine r_cSR G [.int p3] [] (c_X6_isValue (k_l Γ) (k_D Γ) _ _ h) (va_cwS 1 G.2.2.2.2.1 gX6_weighs_X6_isValue rfl rfl rfl hd_X6_isValue ⟨Nat.le_of_ble_eq_true rfl, Nat.le_of_ble_eq_true rfl⟩) [] rfl (fun _ _ => k_E0) rfl rfl (Nat.le_of_ble_eq_true rfl) dX6_weighs_1 (fun r_1 h => ?_)
  have hz_1 := h.1
  replace h := h.2
  refine r_if_eq G 15 dX6_weighs_4 (by decide) (fun hc => ?_) (fun hc => ?_)
  · replace h := h.1 hc
    refine r_bipush G (-2 : Int32) dX6_weighs_15 kb_m2 ?_
    exact r_iretR G E dX6_weighs_17 h
  · replace h := h.2 hc
    refine r_iload_n G dX6_weighs_7 2 rfl rfl ?_
    refine r_sipush G (-255 : Int32) dX6_weighs_8 ks_m255 ?_
    refine r_iand G dX6_weighs_11 ?_
    refine r_if_eq G 18 dX6_weighs_12 (by decide) (fun hc => ?_) (fun hc => ?_)
    · replace h := h.1 hc
      refine r_iload_n G dX6_weighs_18 1 rfl rfl ?_
      refine r_cSR G [.int p1] [] (c_X6_isMember (k_l Γ) (k_D Γ) _ _ h) (va_cwS 1 G.2.2.2.2.1 gX6_weighs_X6_isMember rfl rfl rfl hd_X6_isMember ⟨Nat.le_of_ble_eq_true rfl, Nat.le_of_ble_eq_true rfl⟩) [] rfl (fun _ _ => k_E0) rfl rfl (Nat.le_of_ble_eq_true rfl) dX6_weighs_19 (fun r_19 h => ?_)
      have hz_19 := h.1
      replace h := h.2
      refine r_if_eq G 33 dX6_weighs_22 (by decide) (fun hc => ?_) (fun hc => ?_)
      · replace h := h.1 hc
        refine r_iconst G (-1 : Int32) dX6_weighs_33 kc_m1 ?_
        exact r_iretR G E dX6_weighs_34 h
      · replace h := h.2 hc
        refine r_iload_n G dX6_weighs_25 2 rfl rfl ?_
        refine r_iload_n G dX6_weighs_26 1 rfl rfl ?_
        refine r_cSR G [.int p2, .int p1] [] (c_X4_has (k_l Γ) (k_D Γ) _ _ _ h) (va_cwS 2 G.2.2.2.2.1 gX6_weighs_X4_has rfl rfl rfl hd_X4_has ⟨Nat.le_of_ble_eq_true rfl, Nat.le_of_ble_eq_true rfl⟩) [] rfl (fun _ _ => k_E0) rfl rfl (Nat.le_of_ble_eq_true rfl) dX6_weighs_27 (fun r_27 h => ?_)
        have hz_27 := h.1
        replace h := h.2
        refine r_if_ne G 35 dX6_weighs_30 (by decide) (fun hc => ?_) (fun hc => ?_)
        · replace h := h.2 hc
          refine r_iload_n G dX6_weighs_35 1 rfl rfl ?_
          refine r_iload_n G dX6_weighs_36 2 rfl rfl ?_
          refine r_iload_n G dX6_weighs_37 3 rfl rfl ?_
          refine r_cSR G [.int p1, .int p2, .int p3] [] (c_X5_weight (k_l Γ) (k_D Γ) _ _ _ _ h) (va_cwS 3 G.2.2.2.2.1 gX6_weighs_X5_weight rfl rfl rfl hd_X5_weight ⟨Nat.le_of_ble_eq_true rfl, Nat.le_of_ble_eq_true rfl⟩) [] rfl (fun _ _ => k_E0) rfl rfl (Nat.le_of_ble_eq_true rfl) dX6_weighs_38 (fun r_38 h => ?_)
          exact r_iretR G E dX6_weighs_41 h
        · replace h := h.1 hc
          refine r_iconst G (-1 : Int32) dX6_weighs_33 kc_m1 ?_
          exact r_iretR G E dX6_weighs_34 h
    · replace h := h.2 hc
      refine r_bipush G (-2 : Int32) dX6_weighs_15 kb_m2 ?_
      exact r_iretR G E dX6_weighs_17 h
abbrev rm_X6_wipe : Room := { frames := 0, cells := 0, slots := 0, locals := 0 }
def wp_X6_wipe (σ : k_M) (Q : Int32 → k_M → Prop) : Prop :=
  Q (σ 1 1) (k_put σ 1 1 (0 : Int32))
theorem hd_X6_wipe : yX6_wipe.cls ≠ "java/lang/invoke/MethodHandle" ∧ yX6_wipe.cls ≠ "java/lang/invoke/VarHandle" ∧ (parseMethodDescriptor yX6_wipe.desc).map (fun d => d.parameters.length) = some 0 := by decide +kernel
theorem hdv_X6_wipe : yX6_wipe.cls = RX6 ∧ yX6_wipe.cls ≠ "java/lang/invoke/MethodHandle" ∧ yX6_wipe.cls ≠ "java/lang/invoke/VarHandle" ∧ (parseMethodDescriptor yX6_wipe.desc).map (fun d => d.parameters.length) = some 0 := ⟨rfl, hd_X6_wipe⟩
set_option maxHeartbeats 4000000 in
set_option maxRecDepth 100000 in
theorem c_X6_wipe (l : Launch) (D : va_G) (a : Nat → Nat) (cI cO : ClassId) (gI : Nat → Option Nat) (σ : k_M) (Q : Int32 → k_M → Prop) (h : wp_X6_wipe σ  Q) : Met l yX6_wipe wsX6_wipe rm_X6_wipe (k_PW D [(cI, .int), (cO, .object "FreshShares$Circle")] (wC a cI cO gI) σ [.ref (a 0)]) (k_Qi D (wC a cI cO gI) Q) 0 0 (k_wA (wC a cI cO gI)) := by
  refine k_metW (Qc := fun D => k_Qi D (wC a cI cO gI) Q) (by decide) rfl (Nat.le_of_ble_eq_true rfl) ?_
  intro Γ G hD E
  unfold wp_X6_wipe at h
  have inX3 : ∀ w ∈ wsX30, w ∈ wsX6_wipe := by decide +kernel
  have inX6 : ∀ w ∈ wsX60, w ∈ wsX6_wipe := by decide +kernel
  have lk_10 := G.2.2.2.2.1 (.fieldLink RX6 10 "FreshShares" "script" "LFreshShares$Script;") (by decide +kernel)
  show k_J Γ rm_X6_wipe 2 false (wC a cI cO gI) 0 [(0, .ref (a 0))] [] σ
  refine r_aload_n G dX6_wipe_0 0 rfl rfl ?_
  refine r_get G inX6 0 0 wC_0 rfl (by decide) lk_10 rfl rfl dX6_wipe_1 ?_
  refine r_getN G inX3 1 1 wC_1 rfl (by decide) (G.2.2.2.2.2.2.at 0 rfl rfl) rfl rfl dX6_wipe_4 ?_
  refine r_istore_n (lv' := [(1, .int (σ 1 1)), (0, .ref (a 0))]) G dX6_wipe_7 rfl (by decide) rfl ?_
  refine r_aload_n G dX6_wipe_8 1 rfl rfl ?_
  refine r_get G inX6 0 0 wC_0 rfl (by decide) lk_10 rfl rfl dX6_wipe_9 ?_
  refine r_iconst G (0 : Int32) dX6_wipe_12 kc_0 ?_
  refine r_putN G hD tyX3 tyX3_ok nmX3 inX3 1 1 wC_1 rfl (by decide) (G.2.2.2.2.2.2.at 0 rfl rfl) rfl rfl (ty := .int) (by decide +kernel) rfl rfl (Nat.le_of_ble_eq_true rfl) _ wC_1_1 dX6_wipe_13 ?_
  refine r_iload_n G dX6_wipe_16 0 rfl rfl ?_
  exact r_iretW G E dX6_wipe_17 h
abbrev rm_X6_worlds : Room := { frames := 5, cells := 0, slots := 0, locals := 122 }
def wp_X6_worlds (σ : k_M) (p1 p2 : Int32) (Q : Int32 → k_M → Prop) : Prop :=
  wp_X6_isValue p2 (fun (r_1 : Int32) => ((r_1 = 0 → Q (-2 : Int32) σ) ∧ (¬ r_1 = 0 → wp_X0_wasEpoch σ p1 (fun (r_12 : Int32) => ((r_12 = 0 → Q (-2 : Int32) σ) ∧ (¬ r_12 = 0 → wp_X2_worldsLeft σ p1 p2 (fun (r_27 : Int32) (σ_27 : k_M) => Q r_27 σ_27)))))))
theorem hd_X6_worlds : yX6_worlds.cls ≠ "java/lang/invoke/MethodHandle" ∧ yX6_worlds.cls ≠ "java/lang/invoke/VarHandle" ∧ (parseMethodDescriptor yX6_worlds.desc).map (fun d => d.parameters.length) = some 2 := by decide +kernel
theorem hdv_X6_worlds : yX6_worlds.cls = RX6 ∧ yX6_worlds.cls ≠ "java/lang/invoke/MethodHandle" ∧ yX6_worlds.cls ≠ "java/lang/invoke/VarHandle" ∧ (parseMethodDescriptor yX6_worlds.desc).map (fun d => d.parameters.length) = some 2 := ⟨rfl, hd_X6_worlds⟩
set_option maxHeartbeats 4000000 in
set_option maxRecDepth 100000 in
theorem c_X6_worlds (l : Launch) (D : va_G) (a : Nat → Nat) (cI cO : ClassId) (gI : Nat → Option Nat) (σ : k_M) (p1 p2 : Int32) (Q : Int32 → k_M → Prop) (h : wp_X6_worlds σ p1 p2 Q) : Met l yX6_worlds wsX6_worlds rm_X6_worlds (k_PW D [(cI, .int), (cO, .object "FreshShares$Circle")] (wC a cI cO gI) σ [.ref (a 0), .int p1, .int p2]) (k_Qi D (wC a cI cO gI) Q) 0 0 (k_wA (wC a cI cO gI)) := by
  refine k_metW (Qc := fun D => k_Qi D (wC a cI cO gI) Q) (by decide) rfl (Nat.le_of_ble_eq_true rfl) ?_
  intro Γ G hD E
  unfold wp_X6_worlds at h
  have inX6 : ∀ w ∈ wsX60, w ∈ wsX6_worlds := by decide +kernel
  have lk_19 := G.2.2.2.2.1 (.fieldLink RX6 19 "FreshShares" "orders" "LFreshShares$Orders;") (by decide +kernel)
  have lk_27 := G.2.2.2.2.1 (.fieldLink RX6 27 "FreshShares" "circle" "LFreshShares$Circle;") (by decide +kernel)
  show k_J Γ rm_X6_worlds 3 false (wC a cI cO gI) 0 [(0, .ref (a 0)), (1, .int p1), (2, .int p2)] [] σ
  refine r_iload_n G dX6_worlds_0 2 rfl rfl ?_
  refine r_cSR G [.int p2] [] (c_X6_isValue (k_l Γ) (k_D Γ) _ _ h) (va_cwS 1 G.2.2.2.2.1 gX6_worlds_X6_isValue rfl rfl rfl hd_X6_isValue ⟨Nat.le_of_ble_eq_true rfl, Nat.le_of_ble_eq_true rfl⟩) [] rfl (fun _ _ => k_E0) rfl rfl (Nat.le_of_ble_eq_true rfl) dX6_worlds_1 (fun r_1 h => ?_)
  have hz_1 := h.1
  replace h := h.2
  refine r_if_eq G 18 dX6_worlds_4 (by decide) (fun hc => ?_) (fun hc => ?_)
  · replace h := h.1 hc
    refine r_bipush G (-2 : Int32) dX6_worlds_18 kb_m2 ?_
    exact r_iretW G E dX6_worlds_20 h
  · replace h := h.2 hc
    refine r_aload_n G dX6_worlds_7 0 rfl rfl ?_
    refine r_get G inX6 0 2 wC_0 rfl (by decide) lk_27 rfl rfl dX6_worlds_8 ?_
    refine r_iload_n G dX6_worlds_11 1 rfl rfl ?_
    refine r_cVR G (ci := 0) (cq := (RX0, TX0, 12)) [.int p1] [] (c_X0_wasEpoch (k_l Γ) (k_D Γ) a cI cO gI _ _ _ h) 4 rfl wC_4 (cwV 1 G.2.2.2.2.1 gX6_worlds_X0_wasEpoch rfl rfl rfl hdv_X0_wasEpoch ⟨Nat.le_of_ble_eq_true rfl, Nat.le_of_ble_eq_true rfl⟩) [0, 1] rfl (fun _ hP => hP) rfl rfl (Nat.le_of_ble_eq_true rfl) dX6_worlds_12 (fun r_12 h => ?_)
    have hz_12 := h.1
    replace h := h.2
    refine r_if_ne G 21 dX6_worlds_15 (by decide) (fun hc => ?_) (fun hc => ?_)
    · replace h := h.2 hc
      refine r_aload_n G dX6_worlds_21 0 rfl rfl ?_
      refine r_get G inX6 0 1 wC_0 rfl (by decide) lk_19 rfl rfl dX6_worlds_22 ?_
      refine r_iload_n G dX6_worlds_25 1 rfl rfl ?_
      refine r_iload_n G dX6_worlds_26 2 rfl rfl ?_
      refine r_cVWi G hD (ci := 2) (cq := (RX2, TX2, 6)) [.int p1, .int p2] [] (c_X2_worldsLeft (k_l Γ) (k_D Γ) a cI cO gI _ _ _ _ h) 3 rfl wC_3 (cwV 2 G.2.2.2.2.1 gX6_worlds_X2_worldsLeft rfl rfl rfl hdv_X2_worldsLeft ⟨Nat.le_of_ble_eq_true rfl, Nat.le_of_ble_eq_true rfl⟩) [0, 1] rfl rfl rfl (Nat.le_of_ble_eq_true rfl) dX6_worlds_27 (fun r_27 σ_27 h => ?_)
      exact r_iretW G E dX6_worlds_30 h
    · replace h := h.1 hc
      refine r_bipush G (-2 : Int32) dX6_worlds_18 kb_m2 ?_
      exact r_iretW G E dX6_worlds_20 h
