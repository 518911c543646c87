abbrev rm_X3_fewestSigns : Room := { frames := 2, cells := 0, slots := 0, locals := 41 }
def wp_X3_fewestSigns (σ : k_M) (Q : Int32 → Prop) : Prop :=
  wp_X3_letter σ (fun (r_1 : Int32) => ((r_1 = (98 : Int32) → Q (3 : Int32)) ∧ (¬ r_1 = (98 : Int32) → ((r_1 = (102 : Int32) → Q (1 : Int32)) ∧ (¬ r_1 = (102 : Int32) → ((r_1 = (116 : Int32) → Q (3 : Int32)) ∧ (¬ r_1 = (116 : Int32) → Q (2 : Int32))))))))
theorem hd_X3_fewestSigns : yX3_fewestSigns.cls ≠ "java/lang/invoke/MethodHandle" ∧ yX3_fewestSigns.cls ≠ "java/lang/invoke/VarHandle" ∧ (parseMethodDescriptor yX3_fewestSigns.desc).map (fun d => d.parameters.length) = some 0 := by decide +kernel
theorem hdv_X3_fewestSigns : yX3_fewestSigns.cls = RX3 ∧ yX3_fewestSigns.cls ≠ "java/lang/invoke/MethodHandle" ∧ yX3_fewestSigns.cls ≠ "java/lang/invoke/VarHandle" ∧ (parseMethodDescriptor yX3_fewestSigns.desc).map (fun d => d.parameters.length) = some 0 := ⟨rfl, hd_X3_fewestSigns⟩
set_option maxHeartbeats 4000000 in
set_option maxRecDepth 100000 in
theorem c_X3_fewestSigns (l : Launch) (D : va_G) (a : Nat → Nat) (cI cO : ClassId) (gI : Nat → Option Nat) (σ : k_M) (Q : Int32 → Prop) (h : wp_X3_fewestSigns σ  Q) : Met l yX3_fewestSigns wsX3_fewestSigns rm_X3_fewestSigns (k_PR D [(cI, .int), (cO, .object "FreshShares$Circle")] (wC a cI cO gI) σ [.ref (a 1)]) (vp_Si Q) 0 0 (fun _ => False) := by
  refine k_metR (by decide) rfl (Nat.le_of_ble_eq_true rfl) ?_
  intro Γ G E
  unfold wp_X3_fewestSigns at h
  show k_J Γ rm_X3_fewestSigns 1 true (wC a cI cO gI) 0 [(0, .ref (a 1))] [] σ
  refine r_aload_n G dX3_fewestSigns_0 0 rfl rfl ?_
  refine r_cVR G (ci := 3) (cq := (RX3, TX3, 2)) [] [] (c_X3_letter (k_l Γ) (k_D Γ) a cI cO gI _ _ h) 1 rfl wC_1 (cwV 0 G.2.2.2.2.1 gX3_fewestSigns_X3_letter rfl rfl rfl hdv_X3_letter ⟨Nat.le_of_ble_eq_true rfl, Nat.le_of_ble_eq_true rfl⟩) [0, 1] rfl (fun _ hP => hP) rfl rfl (Nat.le_of_ble_eq_true rfl) dX3_fewestSigns_1 (fun r_1 h => ?_)
  rcases Classical.em (r_1 = (98 : Int32)) with hs_0 | hs_0
  · replace h := h.1 hs_0
    refine r_lookup G 42 dX3_fewestSigns_4 rfl (off := 38) (by rw [khit hs_0 kt_98]; rfl) (by decide) ?_
    refine r_iconst G (3 : Int32) dX3_fewestSigns_42 kc_3 ?_
    exact r_iretR G E dX3_fewestSigns_43 h
  replace h := h.2 hs_0
  rcases Classical.em (r_1 = (102 : Int32)) with hs_1 | hs_1
  · replace h := h.1 hs_1
    refine r_lookup G 40 dX3_fewestSigns_4 rfl (off := 36) (by rw [khit hs_1 kt_102]; rfl) (by decide) ?_
    refine r_iconst G (1 : Int32) dX3_fewestSigns_40 kc_1 ?_
    exact r_iretR G E dX3_fewestSigns_41 h
  replace h := h.2 hs_1
  rcases Classical.em (r_1 = (116 : Int32)) with hs_2 | hs_2
  · replace h := h.1 hs_2
    refine r_lookup G 42 dX3_fewestSigns_4 rfl (off := 38) (by rw [khit hs_2 kt_116]; rfl) (by decide) ?_
    refine r_iconst G (3 : Int32) dX3_fewestSigns_42 kc_3 ?_
    exact r_iretR G E dX3_fewestSigns_43 h
  replace h := h.2 hs_2
  refine r_lookup G 44 dX3_fewestSigns_4 rfl (off := 40) (by show Op.lookupswitch.offset [(98, 38), (102, 36), (116, 38)] 40 _ = _; rw [lv_osw hs_0 kt_98, lv_osw hs_1 kt_102, lv_osw hs_2 kt_116]; rfl) (by decide) ?_
  refine r_iconst G (2 : Int32) dX3_fewestSigns_44 kc_2 ?_
  exact r_iretR G E dX3_fewestSigns_45 h
abbrev rm_X3_faultPlace : Room := { frames := 4, cells := 0, slots := 0, locals := 84 }
def wp_X3_faultPlace (σ : k_M) (Q : Int32 → Prop) : Prop :=
  (k_lp1 (fun (B_2 : Int32 → Prop) (x1_2 : Int32) => (((σ 1 1) ≤ x1_2 → wp_X3_fewestSigns σ (fun (r_31 : Int32) => ((r_31 ≤ (σ 1 1) → Q (-6 : Int32)) ∧ (¬ r_31 ≤ (σ 1 1) → Q (σ 1 1))))) ∧ (¬ (σ 1 1) ≤ x1_2 → wp_X3_canStand σ x1_2 (fun (r_12 : Int32) => ((r_12 = 0 → Q x1_2) ∧ (¬ r_12 = 0 → B_2 (x1_2 + (1 : Int32)))))))) (0 : Int32))
theorem hd_X3_faultPlace : yX3_faultPlace.cls ≠ "java/lang/invoke/MethodHandle" ∧ yX3_faultPlace.cls ≠ "java/lang/invoke/VarHandle" ∧ (parseMethodDescriptor yX3_faultPlace.desc).map (fun d => d.parameters.length) = some 0 := by decide +kernel
theorem hdv_X3_faultPlace : yX3_faultPlace.cls = RX3 ∧ yX3_faultPlace.cls ≠ "java/lang/invoke/MethodHandle" ∧ yX3_faultPlace.cls ≠ "java/lang/invoke/VarHandle" ∧ (parseMethodDescriptor yX3_faultPlace.desc).map (fun d => d.parameters.length) = some 0 := ⟨rfl, hd_X3_faultPlace⟩
set_option maxHeartbeats 4000000 in
set_option maxRecDepth 100000 in
theorem c_X3_faultPlace (l : Launch) (D : va_G) (a : Nat → Nat) (cI cO : ClassId) (gI : Nat → Option Nat) (σ : k_M) (Q : Int32 → Prop) (h : wp_X3_faultPlace σ  Q) : Met l yX3_faultPlace wsX3_faultPlace rm_X3_faultPlace (k_PR D [(cI, .int), (cO, .object "FreshShares$Circle")] (wC a cI cO gI) σ [.ref (a 1)]) (vp_Si Q) 0 0 (fun _ => False) := by
  refine k_metR (by decide) rfl (Nat.le_of_ble_eq_true rfl) ?_
  intro Γ G E
  unfold wp_X3_faultPlace at h
  have inX3 : ∀ w ∈ wsX30, w ∈ wsX3_faultPlace := by decide +kernel
  have lk_15 := G.2.2.2.2.1 (.fieldLink RX3 15 "FreshShares$Script" "length" "I") (by decide +kernel)
  show k_J Γ rm_X3_faultPlace 2 true (wC a cI cO gI) 0 [(0, .ref (a 1))] [] σ
  refine r_iconst G (0 : Int32) dX3_faultPlace_0 kc_0 ?_
  refine r_istore_n (lv' := [(1, .int (0 : Int32)), (0, .ref (a 1))]) G dX3_faultPlace_1 rfl (by decide) rfl ?_
  obtain ⟨I_2, n_2, h, hI_2⟩ := h
  have key_2 : ∀ (n : Nat) (x1_2 : Int32), I_2 n x1_2 → k_J Γ rm_X3_faultPlace 2 true (wC a cI cO gI) 2 [(0, .ref (a 1)), (1, .int x1_2)] [] σ := by
    intro n
    induction n using Nat.strongRecOn with
    | ind n ih_2 =>
      intro x1_2 h
      replace h := hI_2 n x1_2 h
      refine r_iload_n G dX3_faultPlace_2 1 rfl rfl ?_
      refine r_aload_n G dX3_faultPlace_3 0 rfl rfl ?_
      refine r_get G inX3 1 1 wC_1 rfl (by decide) lk_15 rfl rfl dX3_faultPlace_4 ?_
      refine r_icmp_ge G 26 dX3_faultPlace_7 (by decide) (fun hc => ?_) (fun hc => ?_)
      · replace h := h.1 hc
        refine r_aload_n G dX3_faultPlace_26 0 rfl rfl ?_
        refine r_get G inX3 1 1 wC_1 rfl (by decide) lk_15 rfl rfl dX3_faultPlace_27 ?_
        refine r_aload_n G dX3_faultPlace_30 0 rfl rfl ?_
        refine r_cVR G (ci := 3) (cq := (RX3, TX3, 2)) [] [.int (σ 1 1)] (c_X3_fewestSigns (k_l Γ) (k_D Γ) a cI cO gI _ _ h) 1 rfl wC_1 (cwV 0 G.2.2.2.2.1 gX3_faultPlace_X3_fewestSigns rfl rfl rfl hdv_X3_fewestSigns ⟨Nat.le_of_ble_eq_true rfl, Nat.le_of_ble_eq_true rfl⟩) [0, 1] rfl (fun _ hP => hP) rfl rfl (Nat.le_of_ble_eq_true rfl) dX3_faultPlace_31 (fun r_31 h => ?_)
        refine r_icmp_ge G 44 dX3_faultPlace_34 (by decide) (fun hc => ?_) (fun hc => ?_)
        · replace h := h.1 hc
          refine r_bipush G (-6 : Int32) dX3_faultPlace_44 kb_m6 ?_
          exact r_iretR G E dX3_faultPlace_46 h
        · replace h := h.2 hc
          refine r_aload_n G dX3_faultPlace_37 0 rfl rfl ?_
          refine r_get G inX3 1 1 wC_1 rfl (by decide) lk_15 rfl rfl dX3_faultPlace_38 ?_
          refine r_goto G 46 dX3_faultPlace_41 (by decide) ?_
          exact r_iretR G E dX3_faultPlace_46 h
      · replace h := h.2 hc
        refine r_aload_n G dX3_faultPlace_10 0 rfl rfl ?_
        refine r_iload_n G dX3_faultPlace_11 1 rfl rfl ?_
        refine r_cVR G (ci := 3) (cq := (RX3, TX3, 2)) [.int x1_2] [] (c_X3_canStand (k_l Γ) (k_D Γ) a cI cO gI _ _ _ h) 1 rfl wC_1 (cwV 1 G.2.2.2.2.1 gX3_faultPlace_X3_canStand rfl rfl rfl hdv_X3_canStand ⟨Nat.le_of_ble_eq_true rfl, Nat.le_of_ble_eq_true rfl⟩) [0, 1] rfl (fun _ hP => hP) rfl rfl (Nat.le_of_ble_eq_true rfl) dX3_faultPlace_12 (fun r_12 h => ?_)
        have hz_12 := h.1
        replace h := h.2
        refine r_if_ne G 20 dX3_faultPlace_15 (by decide) (fun hc => ?_) (fun hc => ?_)
        · replace h := h.2 hc
          refine r_iinc (lv' := [(1, .int (x1_2 + (1 : Int32))), (0, .ref (a 1))]) G 1 dX3_faultPlace_20 kc_1 rfl (by decide) rfl ?_
          refine r_goto G 2 dX3_faultPlace_23 (by decide) ?_
          obtain ⟨m_2, hm_2, h⟩ := h
          exact r_sub [1, 0] rfl (ih_2 m_2 hm_2 _ h)
        · replace h := h.1 hc
          refine r_iload_n G dX3_faultPlace_18 1 rfl rfl ?_
          exact r_iretR G E dX3_faultPlace_19 h
  exact r_sub [1, 0] rfl (key_2 n_2 _ h)
abbrev rm_X6_act : Room := { frames := 7, cells := 0, slots := 0, locals := 160 }
def wp_X6_act (σ : k_M) (Q : Int32 → k_M → Prop) : Prop :=
  wp_X3_faultPlace σ (fun (r_4 : Int32) => ((r_4 = (-6 : Int32) → wp_X2_perform σ (fun (r_23 : Int32) (σ_23 : k_M) => ((r_23 < 0 → Q r_23 σ_23) ∧ (¬ r_23 < 0 → Q r_23 (k_put (k_put σ_23 1 1 (0 : Int32)) 4 11 (((k_put σ_23 1 1 (0 : Int32)) 4 11) + (1 : Int32))))))) ∧ (¬ r_4 = (-6 : Int32) → Q (-7 : Int32) σ)))
theorem hd_X6_act : yX6_act.cls ≠ "java/lang/invoke/MethodHandle" ∧ yX6_act.cls ≠ "java/lang/invoke/VarHandle" ∧ (parseMethodDescriptor yX6_act.desc).map (fun d => d.parameters.length) = some 0 := by decide +kernel
theorem hdv_X6_act : yX6_act.cls = RX6 ∧ yX6_act.cls ≠ "java/lang/invoke/MethodHandle" ∧ yX6_act.cls ≠ "java/lang/invoke/VarHandle" ∧ (parseMethodDescriptor yX6_act.desc).map (fun d => d.parameters.length) = some 0 := ⟨rfl, hd_X6_act⟩
set_option maxHeartbeats 4000000 in
set_option maxRecDepth 100000 in
theorem c_X6_act (l : Launch) (D : va_G) (a : Nat → Nat) (cI cO : ClassId) (gI : Nat → Option Nat) (σ : k_M) (Q : Int32 → k_M → Prop) (h : wp_X6_act σ  Q) : Met l yX6_act wsX6_act rm_X6_act (k_PW D [(cI, .int), (cO, .object "FreshShares$Circle")] (wC a cI cO gI) σ [.ref (a 0)]) (k_Qi D (wC a cI cO gI) Q) 0 0 (k_wA (wC a cI cO gI)) := by
  refine k_metW (Qc := fun D => k_Qi D (wC a cI cO gI) Q) (by decide) rfl (Nat.le_of_ble_eq_true rfl) ?_
  intro Γ G hD E
  unfold wp_X6_act at h
  have inX0 : ∀ w ∈ wsX00, w ∈ wsX6_act := by decide +kernel
  have inX3 : ∀ w ∈ wsX30, w ∈ wsX6_act := by decide +kernel
  have inX6 : ∀ w ∈ wsX60, w ∈ wsX6_act := by decide +kernel
  have lk_10 := G.2.2.2.2.1 (.fieldLink RX6 10 "FreshShares" "script" "LFreshShares$Script;") (by decide +kernel)
  have lk_19 := G.2.2.2.2.1 (.fieldLink RX6 19 "FreshShares" "orders" "LFreshShares$Orders;") (by decide +kernel)
  have lk_27 := G.2.2.2.2.1 (.fieldLink RX6 27 "FreshShares" "circle" "LFreshShares$Circle;") (by decide +kernel)
  show k_J Γ rm_X6_act 2 false (wC a cI cO gI) 0 [(0, .ref (a 0))] [] σ
  refine r_aload_n G dX6_act_0 0 rfl rfl ?_
  refine r_get G inX6 0 0 wC_0 rfl (by decide) lk_10 rfl rfl dX6_act_1 ?_
  refine r_cVR G (ci := 3) (cq := (RX3, TX3, 2)) [] [] (c_X3_faultPlace (k_l Γ) (k_D Γ) a cI cO gI _ _ h) 1 rfl wC_1 (cwV 0 G.2.2.2.2.1 gX6_act_X3_faultPlace rfl rfl rfl hdv_X3_faultPlace ⟨Nat.le_of_ble_eq_true rfl, Nat.le_of_ble_eq_true rfl⟩) [0, 1] rfl (fun _ hP => hP) rfl rfl (Nat.le_of_ble_eq_true rfl) dX6_act_4 (fun r_4 h => ?_)
  refine r_bipush G (-6 : Int32) dX6_act_7 kb_m6 ?_
  refine r_icmp_eq G 15 dX6_act_9 (by decide) (fun hc => ?_) (fun hc => ?_)
  · replace h := h.1 hc
    refine r_aload_n G dX6_act_15 0 rfl rfl ?_
    refine r_get G inX6 0 1 wC_0 rfl (by decide) lk_19 rfl rfl dX6_act_16 ?_
    refine r_aload_n G dX6_act_19 0 rfl rfl ?_
    refine r_get G inX6 0 0 wC_0 rfl (by decide) lk_10 rfl rfl dX6_act_20 ?_
    refine r_cVWi G hD (ci := 2) (cq := (RX2, TX2, 6)) [.ref (a 1)] [] (c_X2_perform (k_l Γ) (k_D Γ) a cI cO gI _ _ h) 3 rfl wC_3 (cwV 1 G.2.2.2.2.1 gX6_act_X2_perform rfl rfl rfl hdv_X2_perform ⟨Nat.le_of_ble_eq_true rfl, Nat.le_of_ble_eq_true rfl⟩) [0, 1] rfl rfl rfl (Nat.le_of_ble_eq_true rfl) dX6_act_23 (fun r_23 σ_23 h => ?_)
    refine r_istore_n (lv' := [(1, .int r_23), (0, .ref (a 0))]) G dX6_act_26 rfl (by decide) rfl ?_
    refine r_iload_n G dX6_act_27 0 rfl rfl ?_
    refine r_if_lt G 52 dX6_act_28 (by decide) (fun hc => ?_) (fun hc => ?_)
    · replace h := h.1 hc
      refine r_iload_n G dX6_act_52 0 rfl rfl ?_
      exact r_iretW G E dX6_act_53 h
    · replace h := h.2 hc
      refine r_aload_n G dX6_act_31 1 rfl rfl ?_
      refine r_get G inX6 0 0 wC_0 rfl (by decide) lk_10 rfl rfl dX6_act_32 ?_
      refine r_iconst G (0 : Int32) dX6_act_35 kc_0 ?_
      refine r_putN G hD tyX3 tyX3_ok nmX3 inX3 1 1 wC_1 rfl (by decide) (G.2.2.2.2.2.2.at 0 rfl rfl) rfl rfl (ty := .int) (by decide +kernel) rfl rfl (Nat.le_of_ble_eq_true rfl) _ wC_1_1 dX6_act_36 ?_
      refine r_aload_n G dX6_act_39 1 rfl rfl ?_
      refine r_get G inX6 0 2 wC_0 rfl (by decide) lk_27 rfl rfl dX6_act_40 ?_
      refine r_dup G rfl dX6_act_43 ?_
      refine r_getN G inX0 4 11 wC_4 rfl (by decide) (G.2.2.2.2.2.2.at 27 rfl rfl) rfl rfl dX6_act_44 ?_
      refine r_iconst G (1 : Int32) dX6_act_47 kc_1 ?_
      refine r_iadd G dX6_act_48 ?_
      refine r_putN G hD tyX0 tyX0_ok nmX0 inX0 4 11 wC_4 rfl (by decide) (G.2.2.2.2.2.2.at 27 rfl rfl) rfl rfl (ty := .int) (by decide +kernel) rfl rfl (Nat.le_of_ble_eq_true rfl) _ wC_4_11 dX6_act_49 ?_
      refine r_iload_n G dX6_act_52 0 rfl rfl ?_
      exact r_iretW G E dX6_act_53 h
  · replace h := h.2 hc
    refine r_bipush G (-7 : Int32) dX6_act_12 kb_m7 ?_
    exact r_iretW G E dX6_act_14 h
abbrev rm_X6_bent : Room := { frames := 1, cells := 0, slots := 0, locals := 20 }
def wp_X6_bent (σ : k_M) (p1 p2 p3 : Int32) (Q : Int32 → k_M → Prop) : Prop :=
  wp_X6_isMember p1 (fun (r_1 : Int32) => ((r_1 = 0 → Q (-1 : Int32) σ) ∧ (¬ r_1 = 0 → ((p2 < 0 → Q (-2 : Int32) σ) ∧ (¬ p2 < 0 → (((5 : Int32) ≤ p2 → Q (-2 : Int32) σ) ∧ (¬ (5 : Int32) ≤ p2 → ((p3 < 0 → Q (-2 : Int32) σ) ∧ (¬ p3 < 0 → wp_X6_highestBend p2 (fun (r_24 : Int32) => ((p3 ≤ r_24 → (vp_in ((p1 * (5 : Int32)) + p2) 40 ∧ (vp_in ((p1 * (5 : Int32)) + p2) 40 ∧ Q ((σ 6) ((p1 * (5 : Int32)) + p2).toNatClampNeg) (k_put σ 6 ((p1 * (5 : Int32)) + p2).toNatClampNeg p3)))) ∧ (¬ p3 ≤ r_24 → Q (-2 : Int32) σ))))))))))))
theorem hd_X6_bent : yX6_bent.cls ≠ "java/lang/invoke/MethodHandle" ∧ yX6_bent.cls ≠ "java/lang/invoke/VarHandle" ∧ (parseMethodDescriptor yX6_bent.desc).map (fun d => d.parameters.length) = some 3 := by decide +kernel
theorem hdv_X6_bent : yX6_bent.cls = RX6 ∧ yX6_bent.cls ≠ "java/lang/invoke/MethodHandle" ∧ yX6_bent.cls ≠ "java/lang/invoke/VarHandle" ∧ (parseMethodDescriptor yX6_bent.desc).map (fun d => d.parameters.length) = some 3 := ⟨rfl, hd_X6_bent⟩
set_option maxHeartbeats 4000000 in
set_option maxRecDepth 100000 in
theorem c_X6_bent (l : Launch) (D : va_G) (a : Nat → Nat) (cI cO : ClassId) (gI : Nat → Option Nat) (σ : k_M) (p1 p2 p3 : Int32) (Q : Int32 → k_M → Prop) (h : wp_X6_bent σ p1 p2 p3 Q) : Met l yX6_bent wsX6_bent rm_X6_bent (k_PW D [(cI, .int), (cO, .object "FreshShares$Circle")] (wC a cI cO gI) σ [.ref (a 0), .int p1, .int p2, .int p3]) (k_Qi D (wC a cI cO gI) Q) 0 0 (k_wA (wC a cI cO gI)) := by
  refine k_metW (Qc := fun D => k_Qi D (wC a cI cO gI) Q) (by decide) rfl (Nat.le_of_ble_eq_true rfl) ?_
  intro Γ G hD E
  unfold wp_X6_bent at h
  have inX0 : ∀ w ∈ wsX00, w ∈ wsX6_bent := by decide +kernel
  have inX6 : ∀ w ∈ wsX60, w ∈ wsX6_bent := by decide +kernel
  have lk_27 := G.2.2.2.2.1 (.fieldLink RX6 27 "FreshShares" "circle" "LFreshShares$Circle;") (by decide +kernel)
  show k_J Γ rm_X6_bent 6 false (wC a cI cO gI) 0 [(0, .ref (a 0)), (1, .int p1), (2, .int p2), (3, .int p3)] [] σ
  refine r_iload_n G dX6_bent_0 1 rfl rfl ?_
  refine r_cSR G [.int p1] [] (c_X6_isMember (k_l Γ) (k_D Γ) _ _ h) (va_cwS 1 G.2.2.2.2.1 gX6_bent_X6_isMember rfl rfl rfl hd_X6_isMember ⟨Nat.le_of_ble_eq_true rfl, Nat.le_of_ble_eq_true rfl⟩) [] rfl (fun _ _ => k_E0) rfl rfl (Nat.le_of_ble_eq_true rfl) dX6_bent_1 (fun r_1 h => ?_)
  have hz_1 := h.1
  replace h := h.2
  refine r_if_ne G 9 dX6_bent_4 (by decide) (fun hc => ?_) (fun hc => ?_)
  · replace h := h.2 hc
    refine r_iload_n G dX6_bent_9 2 rfl rfl ?_
    refine r_if_lt G 30 dX6_bent_10 (by decide) (fun hc => ?_) (fun hc => ?_)
    · replace h := h.1 hc
      refine r_bipush G (-2 : Int32) dX6_bent_30 kb_m2 ?_
      exact r_iretW G E dX6_bent_32 h
    · replace h := h.2 hc
      refine r_iload_n G dX6_bent_13 2 rfl rfl ?_
      refine r_iconst G (5 : Int32) dX6_bent_14 kc_5 ?_
      refine r_icmp_ge G 30 dX6_bent_15 (by decide) (fun hc => ?_) (fun hc => ?_)
      · replace h := h.1 hc
        refine r_bipush G (-2 : Int32) dX6_bent_30 kb_m2 ?_
        exact r_iretW G E dX6_bent_32 h
      · replace h := h.2 hc
        refine r_iload_n G dX6_bent_18 3 rfl rfl ?_
        refine r_if_lt G 30 dX6_bent_19 (by decide) (fun hc => ?_) (fun hc => ?_)
        · replace h := h.1 hc
          refine r_bipush G (-2 : Int32) dX6_bent_30 kb_m2 ?_
          exact r_iretW G E dX6_bent_32 h
        · replace h := h.2 hc
          refine r_iload_n G dX6_bent_22 3 rfl rfl ?_
          refine r_iload_n G dX6_bent_23 2 rfl rfl ?_
          refine r_cSR G [.int p2] [.int p3] (c_X6_highestBend (k_l Γ) (k_D Γ) _ _ h) (va_cwS 1 G.2.2.2.2.1 gX6_bent_X6_highestBend rfl rfl rfl hd_X6_highestBend ⟨Nat.le_of_ble_eq_true rfl, Nat.le_of_ble_eq_true rfl⟩) [] rfl (fun _ _ => k_E0) rfl rfl (Nat.le_of_ble_eq_true rfl) dX6_bent_24 (fun r_24 h => ?_)
          refine r_icmp_le G 33 dX6_bent_27 (by decide) (fun hc => ?_) (fun hc => ?_)
          · replace h := h.1 hc
            refine r_iload_n G dX6_bent_33 1 rfl rfl ?_
            refine r_iconst G (5 : Int32) dX6_bent_34 kc_5 ?_
            refine r_imul G dX6_bent_35 ?_
            refine r_iload_n G dX6_bent_36 2 rfl rfl ?_
            refine r_iadd G dX6_bent_37 ?_
            refine r_istore (lv' := [(4, .int ((p1 * (5 : Int32)) + p2)), (0, .ref (a 0)), (1, .int p1), (2, .int p2), (3, .int p3)]) G dX6_bent_38 (by decide) rfl ?_
            refine r_aload_n G dX6_bent_40 1 rfl rfl ?_
            refine r_get G inX6 0 2 wC_0 rfl (by decide) lk_27 rfl rfl dX6_bent_41 ?_
            refine r_getN G inX0 4 1 wC_4 rfl (by decide) (G.2.2.2.2.2.2.at 10 rfl rfl) rfl rfl dX6_bent_44 ?_
            refine r_iload G dX6_bent_47 0 rfl ?_
            refine r_iald G 6 0 wC_6 rfl h.1 dX6_bent_49 ?_
            replace h := h.2
            refine r_istore (lv' := [(5, .int ((σ 6) ((p1 * (5 : Int32)) + p2).toNatClampNeg)), (4, .int ((p1 * (5 : Int32)) + p2)), (0, .ref (a 0)), (1, .int p1), (2, .int p2), (3, .int p3)]) G dX6_bent_50 (by decide) rfl ?_
            refine r_aload_n G dX6_bent_52 2 rfl rfl ?_
            refine r_get G inX6 0 2 wC_0 rfl (by decide) lk_27 rfl rfl dX6_bent_53 ?_
            refine r_getN G inX0 4 1 wC_4 rfl (by decide) (G.2.2.2.2.2.2.at 10 rfl rfl) rfl rfl dX6_bent_56 ?_
            refine r_iload G dX6_bent_59 1 rfl ?_
            refine r_iload_n G dX6_bent_61 5 rfl rfl ?_
            refine r_iast G hD 6 0 wC_6 rfl h.1 _ wC_6_s dX6_bent_62 ?_
            replace h := h.2
            refine r_iload G dX6_bent_63 0 rfl ?_
            exact r_iretW G E dX6_bent_65 h
          · replace h := h.2 hc
            refine r_bipush G (-2 : Int32) dX6_bent_30 kb_m2 ?_
            exact r_iretW G E dX6_bent_32 h
  · replace h := h.1 hc
    refine r_iconst G (-1 : Int32) dX6_bent_7 kc_m1 ?_
    exact r_iretW G E dX6_bent_8 h
abbrev rm_X6_keptImages : Room := { frames := 1, cells := 0, slots := 0, locals := 20 }
def wp_X6_keptImages (gI : Nat → Option Nat) (σ : k_M) (Q : Int32 → Prop) : Prop :=
  (k_lp2 (fun (B_4 : Int32 → Int32 → Prop) (x1_4 : Int32) (x2_4 : Int32) => (((2 : Int32) ≤ x2_4 → Q x1_4) ∧ (¬ (2 : Int32) ≤ x2_4 → (vp_in x2_4 2 ∧ (((gI x2_4.toNatClampNeg) = none → B_4 x1_4 (x2_4 + (1 : Int32))) ∧ (∀ y_15, (gI x2_4.toNatClampNeg) = some y_15 → wp_X4_only x2_4 (fun (r_20 : Int32) => B_4 (x1_4 ||| r_20) (x2_4 + (1 : Int32))))))))) (0 : Int32) (0 : Int32))
theorem hd_X6_keptImages : yX6_keptImages.cls ≠ "java/lang/invoke/MethodHandle" ∧ yX6_keptImages.cls ≠ "java/lang/invoke/VarHandle" ∧ (parseMethodDescriptor yX6_keptImages.desc).map (fun d => d.parameters.length) = some 0 := by decide +kernel
theorem hdv_X6_keptImages : yX6_keptImages.cls = RX6 ∧ yX6_keptImages.cls ≠ "java/lang/invoke/MethodHandle" ∧ yX6_keptImages.cls ≠ "java/lang/invoke/VarHandle" ∧ (parseMethodDescriptor yX6_keptImages.desc).map (fun d => d.parameters.length) = some 0 := ⟨rfl, hd_X6_keptImages⟩
set_option maxHeartbeats 4000000 in
set_option maxRecDepth 100000 in
theorem c_X6_keptImages (l : Launch) (D : va_G) (a : Nat → Nat) (cI cO : ClassId) (gI : Nat → Option Nat) (σ : k_M) (Q : Int32 → Prop) (h : wp_X6_keptImages gI σ  Q) : Met l yX6_keptImages wsX6_keptImages rm_X6_keptImages (k_PR D [(cI, .int), (cO, .object "FreshShares$Circle")] (wC a cI cO gI) σ [.ref (a 0)]) (vp_Si Q) 0 0 (fun _ => False) := by
  refine k_metR (by decide) rfl (Nat.le_of_ble_eq_true rfl) ?_
  intro Γ G E
  unfold wp_X6_keptImages at h
  have inX6 : ∀ w ∈ wsX60, w ∈ wsX6_keptImages := by decide +kernel
  have lk_30 := G.2.2.2.2.1 (.fieldLink RX6 30 "FreshShares" "images" "[LFreshShares$Circle;") (by decide +kernel)
  show k_J Γ rm_X6_keptImages 3 true (wC a cI cO gI) 0 [(0, .ref (a 0))] [] σ
  refine r_iconst G (0 : Int32) dX6_keptImages_0 kc_0 ?_
  refine r_istore_n (lv' := [(1, .int (0 : Int32)), (0, .ref (a 0))]) G dX6_keptImages_1 rfl (by decide) rfl ?_
  refine r_iconst G (0 : Int32) dX6_keptImages_2 kc_0 ?_
  refine r_istore_n (lv' := [(2, .int (0 : Int32)), (1, .int (0 : Int32)), (0, .ref (a 0))]) G dX6_keptImages_3 rfl (by decide) rfl ?_
  obtain ⟨I_4, n_4, h, hI_4⟩ := h
  have key_4 : ∀ (n : Nat) (x1_4 : Int32) (x2_4 : Int32), I_4 n x1_4 x2_4 → k_J Γ rm_X6_keptImages 3 true (wC a cI cO gI) 4 [(0, .ref (a 0)), (1, .int x1_4), (2, .int x2_4)] [] σ := by
    intro n
    induction n using Nat.strongRecOn with
    | ind n ih_4 =>
      intro x1_4 x2_4 h
      replace h := hI_4 n x1_4 x2_4 h
      refine r_iload_n G dX6_keptImages_4 2 rfl rfl ?_
      refine r_iconst G (2 : Int32) dX6_keptImages_5 kc_2 ?_
      refine r_icmp_ge G 31 dX6_keptImages_6 (by decide) (fun hc => ?_) (fun hc => ?_)
      · replace h := h.1 hc
        refine r_iload_n G dX6_keptImages_31 1 rfl rfl ?_
        exact r_iretR G E dX6_keptImages_32 h
      · replace h := h.2 hc
        refine r_aload_n G dX6_keptImages_9 0 rfl rfl ?_
        refine r_get G inX6 0 3 wC_0 rfl (by decide) lk_30 rfl rfl dX6_keptImages_10 ?_
        refine r_iload_n G dX6_keptImages_13 2 rfl rfl ?_
        refine r_aald G 18 1 wC_18 rfl h.1 dX6_keptImages_14 ?_
        replace h := h.2
        refine r_ifnull G 25 dX6_keptImages_15 (by decide) (fun hc => ?_) (fun y_15 hc => ?_)
        · replace h := h.1 hc
          refine r_iinc (lv' := [(2, .int (x2_4 + (1 : Int32))), (0, .ref (a 0)), (1, .int x1_4)]) G 2 dX6_keptImages_25 kc_1 rfl (by decide) rfl ?_
          refine r_goto G 4 dX6_keptImages_28 (by decide) ?_
          obtain ⟨m_4, hm_4, h⟩ := h
          exact r_sub [1, 2, 0] rfl (ih_4 m_4 hm_4 _ _ h)
        · replace h := h.2 y_15 hc
          refine r_iload_n G dX6_keptImages_18 1 rfl rfl ?_
          refine r_iload_n G dX6_keptImages_19 2 rfl rfl ?_
          refine r_cSR G [.int x2_4] [.int x1_4] (c_X4_only (k_l Γ) (k_D Γ) _ _ h) (va_cwS 1 G.2.2.2.2.1 gX6_keptImages_X4_only rfl rfl rfl hd_X4_only ⟨Nat.le_of_ble_eq_true rfl, Nat.le_of_ble_eq_true rfl⟩) [] rfl (fun _ _ => k_E0) rfl rfl (Nat.le_of_ble_eq_true rfl) dX6_keptImages_20 (fun r_20 h => ?_)
          refine r_ior G dX6_keptImages_23 ?_
          refine r_istore_n (lv' := [(1, .int (x1_4 ||| r_20)), (0, .ref (a 0)), (2, .int x2_4)]) G dX6_keptImages_24 rfl (by decide) rfl ?_
          refine r_iinc (lv' := [(2, .int (x2_4 + (1 : Int32))), (1, .int (x1_4 ||| r_20)), (0, .ref (a 0))]) G 2 dX6_keptImages_25 kc_1 rfl (by decide) rfl ?_
          refine r_goto G 4 dX6_keptImages_28 (by decide) ?_
          obtain ⟨m_4, hm_4, h⟩ := h
          exact r_sub [2, 1, 0] rfl (ih_4 m_4 hm_4 _ _ h)
  exact r_sub [2, 1, 0] rfl (key_4 n_4 _ _ h)
abbrev rm_X6_count : Room := { frames := 2, cells := 0, slots := 0, locals := 42 }
def wp_X6_count (gI : Nat → Option Nat) (σ : k_M) (p1 : Int32) (Q : Int32 → Prop) : Prop :=
  ((p1 = (0 : Int32) → wp_X0_isDealt σ (fun (r_52 : Int32) => ((r_52 = 0 → Q (-6 : Int32)) ∧ (¬ r_52 = 0 → Q (σ 4 7))))) ∧ (¬ p1 = (0 : Int32) → ((p1 = (1 : Int32) → wp_X0_isDealt σ (fun (r_75 : Int32) => ((r_75 = 0 → Q (-6 : Int32)) ∧ (¬ r_75 = 0 → Q (σ 4 8))))) ∧ (¬ p1 = (1 : Int32) → ((p1 = (2 : Int32) → wp_J6_bitCount_0f7a4 (σ 4 6) (fun (r_101 : Int32) => Q r_101)) ∧ (¬ p1 = (2 : Int32) → ((p1 = (3 : Int32) → Q (σ 4 6)) ∧ (¬ p1 = (3 : Int32) → ((p1 = (4 : Int32) → Q (σ 10 3)) ∧ (¬ p1 = (4 : Int32) → ((p1 = (5 : Int32) → Q (σ 4 11)) ∧ (¬ p1 = (5 : Int32) → ((p1 = (6 : Int32) → Q (σ 1 1)) ∧ (¬ p1 = (6 : Int32) → ((p1 = (7 : Int32) → wp_X6_keptImages gI σ (fun (r_141 : Int32) => Q r_141)) ∧ (¬ p1 = (7 : Int32) → ((p1 < (10 : Int32) → Q (-2 : Int32)) ∧ (¬ p1 < (10 : Int32) → wp_X0_wasEpoch σ (p1 - (10 : Int32)) (fun (r_159 : Int32) => ((r_159 = 0 → Q (-2 : Int32)) ∧ (¬ r_159 = 0 → wp_X0_thresholdOf σ (p1 - (10 : Int32)) (fun (r_173 : Int32) => Q r_173))))))))))))))))))))))
theorem hd_X6_count : yX6_count.cls ≠ "java/lang/invoke/MethodHandle" ∧ yX6_count.cls ≠ "java/lang/invoke/VarHandle" ∧ (parseMethodDescriptor yX6_count.desc).map (fun d => d.parameters.length) = some 1 := by decide +kernel
theorem hdv_X6_count : yX6_count.cls = RX6 ∧ yX6_count.cls ≠ "java/lang/invoke/MethodHandle" ∧ yX6_count.cls ≠ "java/lang/invoke/VarHandle" ∧ (parseMethodDescriptor yX6_count.desc).map (fun d => d.parameters.length) = some 1 := ⟨rfl, hd_X6_count⟩
set_option maxHeartbeats 4000000 in
set_option maxRecDepth 100000 in
theorem c_X6_count (l : Launch) (D : va_G) (a : Nat → Nat) (cI cO : ClassId) (gI : Nat → Option Nat) (σ : k_M) (p1 : Int32) (Q : Int32 → Prop) (h : wp_X6_count gI σ p1 Q) : Met l yX6_count wsX6_count rm_X6_count (k_PR D [(cI, .int), (cO, .object "FreshShares$Circle")] (wC a cI cO gI) σ [.ref (a 0), .int p1]) (vp_Si Q) 0 0 (fun _ => False) := by
  refine k_metR (by decide) rfl (Nat.le_of_ble_eq_true rfl) ?_
  intro Γ G E
  unfold wp_X6_count at h
  have inX0 : ∀ w ∈ wsX00, w ∈ wsX6_count := by decide +kernel
  have inX1 : ∀ w ∈ wsX10, w ∈ wsX6_count := by decide +kernel
  have inX3 : ∀ w ∈ wsX30, w ∈ wsX6_count := by decide +kernel
  have inX6 : ∀ w ∈ wsX60, w ∈ wsX6_count := by decide +kernel
  have lk_10 := G.2.2.2.2.1 (.fieldLink RX6 10 "FreshShares" "script" "LFreshShares$Script;") (by decide +kernel)
  have lk_27 := G.2.2.2.2.1 (.fieldLink RX6 27 "FreshShares" "circle" "LFreshShares$Circle;") (by decide +kernel)
  show k_J Γ rm_X6_count 2 true (wC a cI cO gI) 0 [(0, .ref (a 0)), (1, .int p1)] [] σ
  refine r_iload_n G dX6_count_0 1 rfl rfl ?_
  rcases Classical.em (p1 = (0 : Int32)) with hs_0 | hs_0
  · replace h := h.1 hs_0
    refine r_tableIn G 48 dX6_count_1 0 (khit hs_0 kt_0) (by decide) (by decide) (off := 47) rfl (by decide) ?_
    refine r_aload_n G dX6_count_48 0 rfl rfl ?_
    refine r_get G inX6 0 2 wC_0 rfl (by decide) lk_27 rfl rfl dX6_count_49 ?_
    refine r_cVR G (ci := 0) (cq := (RX0, TX0, 12)) [] [] (c_X0_isDealt (k_l Γ) (k_D Γ) a cI cO gI _ _ h) 4 rfl wC_4 (cwV 0 G.2.2.2.2.1 gX6_count_X0_isDealt rfl rfl rfl hdv_X0_isDealt ⟨Nat.le_of_ble_eq_true rfl, Nat.le_of_ble_eq_true rfl⟩) [0, 1] rfl (fun _ hP => hP) rfl rfl (Nat.le_of_ble_eq_true rfl) dX6_count_52 (fun r_52 h => ?_)
    have hz_52 := h.1
    replace h := h.2
    refine r_if_eq G 68 dX6_count_55 (by decide) (fun hc => ?_) (fun hc => ?_)
    · replace h := h.1 hc
      refine r_bipush G (-6 : Int32) dX6_count_68 kb_m6 ?_
      exact r_iretR G E dX6_count_70 h
    · replace h := h.2 hc
      refine r_aload_n G dX6_count_58 0 rfl rfl ?_
      refine r_get G inX6 0 2 wC_0 rfl (by decide) lk_27 rfl rfl dX6_count_59 ?_
      refine r_getN G inX0 4 7 wC_4 rfl (by decide) (G.2.2.2.2.2.2.at 20 rfl rfl) rfl rfl dX6_count_62 ?_
      refine r_goto G 70 dX6_count_65 (by decide) ?_
      exact r_iretR G E dX6_count_70 h
  replace h := h.2 hs_0
  rcases Classical.em (p1 = (1 : Int32)) with hs_1 | hs_1
  · replace h := h.1 hs_1
    refine r_tableIn G 71 dX6_count_1 1 (khit hs_1 kt_1) (by decide) (by decide) (off := 70) rfl (by decide) ?_
    refine r_aload_n G dX6_count_71 0 rfl rfl ?_
    refine r_get G inX6 0 2 wC_0 rfl (by decide) lk_27 rfl rfl dX6_count_72 ?_
    refine r_cVR G (ci := 0) (cq := (RX0, TX0, 12)) [] [] (c_X0_isDealt (k_l Γ) (k_D Γ) a cI cO gI _ _ h) 4 rfl wC_4 (cwV 0 G.2.2.2.2.1 gX6_count_X0_isDealt rfl rfl rfl hdv_X0_isDealt ⟨Nat.le_of_ble_eq_true rfl, Nat.le_of_ble_eq_true rfl⟩) [0, 1] rfl (fun _ hP => hP) rfl rfl (Nat.le_of_ble_eq_true rfl) dX6_count_75 (fun r_75 h => ?_)
    have hz_75 := h.1
    replace h := h.2
    refine r_if_eq G 91 dX6_count_78 (by decide) (fun hc => ?_) (fun hc => ?_)
    · replace h := h.1 hc
      refine r_bipush G (-6 : Int32) dX6_count_91 kb_m6 ?_
      exact r_iretR G E dX6_count_93 h
    · replace h := h.2 hc
      refine r_aload_n G dX6_count_81 0 rfl rfl ?_
      refine r_get G inX6 0 2 wC_0 rfl (by decide) lk_27 rfl rfl dX6_count_82 ?_
      refine r_getN G inX0 4 8 wC_4 rfl (by decide) (G.2.2.2.2.2.2.at 22 rfl rfl) rfl rfl dX6_count_85 ?_
      refine r_goto G 93 dX6_count_88 (by decide) ?_
      exact r_iretR G E dX6_count_93 h
  replace h := h.2 hs_1
  rcases Classical.em (p1 = (2 : Int32)) with hs_2 | hs_2
  · replace h := h.1 hs_2
    refine r_tableIn G 94 dX6_count_1 2 (khit hs_2 kt_2) (by decide) (by decide) (off := 93) rfl (by decide) ?_
    refine r_aload_n G dX6_count_94 0 rfl rfl ?_
    refine r_get G inX6 0 2 wC_0 rfl (by decide) lk_27 rfl rfl dX6_count_95 ?_
    refine r_getN G inX0 4 6 wC_4 rfl (by decide) (G.2.2.2.2.2.2.at 18 rfl rfl) rfl rfl dX6_count_98 ?_
    refine r_cSR G [.int (σ 4 6)] [] (c_J6_bitCount_0f7a4 (k_l Γ) (k_D Γ) _ _ h) (va_cwS 1 G.2.2.2.2.1 gX6_count_J6_bitCount_0f7a4 rfl rfl rfl hd_J6_bitCount_0f7a4 ⟨Nat.le_of_ble_eq_true rfl, Nat.le_of_ble_eq_true rfl⟩) [] rfl (fun _ _ => k_E0) rfl rfl (Nat.le_of_ble_eq_true rfl) dX6_count_101 (fun r_101 h => ?_)
    exact r_iretR G E dX6_count_104 h
  replace h := h.2 hs_2
  rcases Classical.em (p1 = (3 : Int32)) with hs_3 | hs_3
  · replace h := h.1 hs_3
    refine r_tableIn G 105 dX6_count_1 3 (khit hs_3 kt_3) (by decide) (by decide) (off := 104) rfl (by decide) ?_
    refine r_aload_n G dX6_count_105 0 rfl rfl ?_
    refine r_get G inX6 0 2 wC_0 rfl (by decide) lk_27 rfl rfl dX6_count_106 ?_
    refine r_getN G inX0 4 6 wC_4 rfl (by decide) (G.2.2.2.2.2.2.at 18 rfl rfl) rfl rfl dX6_count_109 ?_
    exact r_iretR G E dX6_count_112 h
  replace h := h.2 hs_3
  rcases Classical.em (p1 = (4 : Int32)) with hs_4 | hs_4
  · replace h := h.1 hs_4
    refine r_tableIn G 113 dX6_count_1 4 (khit hs_4 kt_4) (by decide) (by decide) (off := 112) rfl (by decide) ?_
    refine r_aload_n G dX6_count_113 0 rfl rfl ?_
    refine r_get G inX6 0 2 wC_0 rfl (by decide) lk_27 rfl rfl dX6_count_114 ?_
    refine r_getN G inX0 4 5 wC_4 rfl (by decide) (G.2.2.2.2.2.2.at 16 rfl rfl) rfl rfl dX6_count_117 ?_
    refine r_getN G inX1 10 3 wC_10 rfl (by decide) (G.2.2.2.2.2.2.at 7 rfl rfl) rfl rfl dX6_count_120 ?_
    exact r_iretR G E dX6_count_123 h
  replace h := h.2 hs_4
  rcases Classical.em (p1 = (5 : Int32)) with hs_5 | hs_5
  · replace h := h.1 hs_5
    refine r_tableIn G 124 dX6_count_1 5 (khit hs_5 kt_5) (by decide) (by decide) (off := 123) rfl (by decide) ?_
    refine r_aload_n G dX6_count_124 0 rfl rfl ?_
    refine r_get G inX6 0 2 wC_0 rfl (by decide) lk_27 rfl rfl dX6_count_125 ?_
    refine r_getN G inX0 4 11 wC_4 rfl (by decide) (G.2.2.2.2.2.2.at 27 rfl rfl) rfl rfl dX6_count_128 ?_
    exact r_iretR G E dX6_count_131 h
  replace h := h.2 hs_5
  rcases Classical.em (p1 = (6 : Int32)) with hs_6 | hs_6
  · replace h := h.1 hs_6
    refine r_tableIn G 132 dX6_count_1 6 (khit hs_6 kt_6) (by decide) (by decide) (off := 131) rfl (by decide) ?_
    refine r_aload_n G dX6_count_132 0 rfl rfl ?_
    refine r_get G inX6 0 0 wC_0 rfl (by decide) lk_10 rfl rfl dX6_count_133 ?_
    refine r_getN G inX3 1 1 wC_1 rfl (by decide) (G.2.2.2.2.2.2.at 0 rfl rfl) rfl rfl dX6_count_136 ?_
    exact r_iretR G E dX6_count_139 h
  replace h := h.2 hs_6
  rcases Classical.em (p1 = (7 : Int32)) with hs_7 | hs_7
  · replace h := h.1 hs_7
    refine r_tableIn G 140 dX6_count_1 7 (khit hs_7 kt_7) (by decide) (by decide) (off := 139) rfl (by decide) ?_
    refine r_aload_n G dX6_count_140 0 rfl rfl ?_
    refine r_cVR G (ci := 4) (cq := (RX6, TX6, 4)) [] [] (c_X6_keptImages (k_l Γ) (k_D Γ) a cI cO gI _ _ h) 0 rfl wC_0 (cwV 0 G.2.2.2.2.1 gX6_count_X6_keptImages rfl rfl rfl hdv_X6_keptImages ⟨Nat.le_of_ble_eq_true rfl, Nat.le_of_ble_eq_true rfl⟩) [0, 1] rfl (fun _ hP => hP) rfl rfl (Nat.le_of_ble_eq_true rfl) dX6_count_141 (fun r_141 h => ?_)
    exact r_iretR G E dX6_count_144 h
  replace h := h.2 hs_7
  refine r_tableOut G 145 dX6_count_1 (by have z0 := lv_neT hs_0 kt_0; have z1 := lv_neT hs_1 kt_1; have z2 := lv_neT hs_2 kt_2; have z3 := lv_neT hs_3 kt_3; have z4 := lv_neT hs_4 kt_4; have z5 := lv_neT hs_5 kt_5; have z6 := lv_neT hs_6 kt_6; have z7 := lv_neT hs_7 kt_7; omega) (by decide) ?_
  refine r_iload_n G dX6_count_145 1 rfl rfl ?_
  refine r_bipush G (10 : Int32) dX6_count_146 kb_10 ?_
  refine r_icmp_lt G 179 dX6_count_148 (by decide) (fun hc => ?_) (fun hc => ?_)
  · replace h := h.1 hc
    refine r_bipush G (-2 : Int32) dX6_count_179 kb_m2 ?_
    exact r_iretR G E dX6_count_181 h
  · replace h := h.2 hc
    refine r_aload_n G dX6_count_151 0 rfl rfl ?_
    refine r_get G inX6 0 2 wC_0 rfl (by decide) lk_27 rfl rfl dX6_count_152 ?_
    refine r_iload_n G dX6_count_155 1 rfl rfl ?_
    refine r_bipush G (10 : Int32) dX6_count_156 kb_10 ?_
    refine r_isub G dX6_count_158 ?_
    refine r_cVR G (ci := 0) (cq := (RX0, TX0, 12)) [.int (p1 - (10 : Int32))] [] (c_X0_wasEpoch (k_l Γ) (k_D Γ) a cI cO gI _ _ _ h) 4 rfl wC_4 (cwV 1 G.2.2.2.2.1 gX6_count_X0_wasEpoch rfl rfl rfl hdv_X0_wasEpoch ⟨Nat.le_of_ble_eq_true rfl, Nat.le_of_ble_eq_true rfl⟩) [0, 1] rfl (fun _ hP => hP) rfl rfl (Nat.le_of_ble_eq_true rfl) dX6_count_159 (fun r_159 h => ?_)
    have hz_159 := h.1
    replace h := h.2
    refine r_if_eq G 179 dX6_count_162 (by decide) (fun hc => ?_) (fun hc => ?_)
    · replace h := h.1 hc
      refine r_bipush G (-2 : Int32) dX6_count_179 kb_m2 ?_
      exact r_iretR G E dX6_count_181 h
    · replace h := h.2 hc
      refine r_aload_n G dX6_count_165 0 rfl rfl ?_
      refine r_get G inX6 0 2 wC_0 rfl (by decide) lk_27 rfl rfl dX6_count_166 ?_
      refine r_iload_n G dX6_count_169 1 rfl rfl ?_
      refine r_bipush G (10 : Int32) dX6_count_170 kb_10 ?_
      refine r_isub G dX6_count_172 ?_
      refine r_cVR G (ci := 0) (cq := (RX0, TX0, 12)) [.int (p1 - (10 : Int32))] [] (c_X0_thresholdOf (k_l Γ) (k_D Γ) a cI cO gI _ _ _ h) 4 rfl wC_4 (cwV 1 G.2.2.2.2.1 gX6_count_X0_thresholdOf rfl rfl rfl hdv_X0_thresholdOf ⟨Nat.le_of_ble_eq_true rfl, Nat.le_of_ble_eq_true rfl⟩) [0, 1] rfl (fun _ hP => hP) rfl rfl (Nat.le_of_ble_eq_true rfl) dX6_count_173 (fun r_173 h => ?_)
      refine r_goto G 181 dX6_count_176 (by decide) ?_
      exact r_iretR G E dX6_count_181 h
abbrev rm_X6_fault : Room := { frames := 5, cells := 0, slots := 0, locals := 105 }
def wp_X6_fault (σ : k_M) (Q : Int32 → Prop) : Prop :=
  wp_X3_faultPlace σ (fun (r_4 : Int32) => Q r_4)
theorem hd_X6_fault : yX6_fault.cls ≠ "java/lang/invoke/MethodHandle" ∧ yX6_fault.cls ≠ "java/lang/invoke/VarHandle" ∧ (parseMethodDescriptor yX6_fault.desc).map (fun d => d.parameters.length) = some 0 := by decide +kernel
theorem hdv_X6_fault : yX6_fault.cls = RX6 ∧ yX6_fault.cls ≠ "java/lang/invoke/MethodHandle" ∧ yX6_fault.cls ≠ "java/lang/invoke/VarHandle" ∧ (parseMethodDescriptor yX6_fault.desc).map (fun d => d.parameters.length) = some 0 := ⟨rfl, hd_X6_fault⟩
set_option maxHeartbeats 4000000 in
set_option maxRecDepth 100000 in
theorem c_X6_fault (l : Launch) (D : va_G) (a : Nat → Nat) (cI cO : ClassId) (gI : Nat → Option Nat) (σ : k_M) (Q : Int32 → Prop) (h : wp_X6_fault σ  Q) : Met l yX6_fault wsX6_fault rm_X6_fault (k_PR D [(cI, .int), (cO, .object "FreshShares$Circle")] (wC a cI cO gI) σ [.ref (a 0)]) (vp_Si Q) 0 0 (fun _ => False) := by
  refine k_metR (by decide) rfl (Nat.le_of_ble_eq_true rfl) ?_
  intro Γ G E
  unfold wp_X6_fault at h
  have inX6 : ∀ w ∈ wsX60, w ∈ wsX6_fault := by decide +kernel
  have lk_10 := G.2.2.2.2.1 (.fieldLink RX6 10 "FreshShares" "script" "LFreshShares$Script;") (by decide +kernel)
  show k_J Γ rm_X6_fault 1 true (wC a cI cO gI) 0 [(0, .ref (a 0))] [] σ
  refine r_aload_n G dX6_fault_0 0 rfl rfl ?_
  refine r_get G inX6 0 0 wC_0 rfl (by decide) lk_10 rfl rfl dX6_fault_1 ?_
  refine r_cVR G (ci := 3) (cq := (RX3, TX3, 2)) [] [] (c_X3_faultPlace (k_l Γ) (k_D Γ) a cI cO gI _ _ h) 1 rfl wC_1 (cwV 0 G.2.2.2.2.1 gX6_fault_X3_faultPlace rfl rfl rfl hdv_X3_faultPlace ⟨Nat.le_of_ble_eq_true rfl, Nat.le_of_ble_eq_true rfl⟩) [0, 1] rfl (fun _ hP => hP) rfl rfl (Nat.le_of_ble_eq_true rfl) dX6_fault_4 (fun r_4 h => ?_)
  exact r_iretR G E dX6_fault_7 h
abbrev rm_X6_fits : Room := { frames := 3, cells := 0, slots := 0, locals := 68 }
def wp_X6_fits (σ : k_M) (p1 p2 : Int32) (Q : Int32 → Prop) : Prop :=
  wp_X6_isValue p1 (fun (r_1 : Int32) => ((r_1 = 0 → Q (-2 : Int32)) ∧ (¬ r_1 = 0 → wp_X6_isValue p2 (fun (r_8 : Int32) => ((r_8 = 0 → Q (-2 : Int32)) ∧ (¬ r_8 = 0 → wp_X0_isDealt σ (fun (r_21 : Int32) => ((r_21 = 0 → Q (-3 : Int32)) ∧ (¬ r_21 = 0 → wp_X5_fitting (σ 8) p1 p2 (σ 4 7) (fun (r_46 : Int32) => ((r_46 = 0 → Q (0 : Int32)) ∧ (¬ r_46 = 0 → Q (1 : Int32)))))))))))))
theorem hd_X6_fits : yX6_fits.cls ≠ "java/lang/invoke/MethodHandle" ∧ yX6_fits.cls ≠ "java/lang/invoke/VarHandle" ∧ (parseMethodDescriptor yX6_fits.desc).map (fun d => d.parameters.length) = some 2 := by decide +kernel
theorem hdv_X6_fits : yX6_fits.cls = RX6 ∧ yX6_fits.cls ≠ "java/lang/invoke/MethodHandle" ∧ yX6_fits.cls ≠ "java/lang/invoke/VarHandle" ∧ (parseMethodDescriptor yX6_fits.desc).map (fun d => d.parameters.length) = some 2 := ⟨rfl, hd_X6_fits⟩
set_option maxHeartbeats 4000000 in
set_option maxRecDepth 100000 in
theorem c_X6_fits (l : Launch) (D : va_G) (a : Nat → Nat) (cI cO : ClassId) (gI : Nat → Option Nat) (σ : k_M) (p1 p2 : Int32) (Q : Int32 → Prop) (h : wp_X6_fits σ p1 p2 Q) : Met l yX6_fits wsX6_fits rm_X6_fits (k_PR D [(cI, .int), (cO, .object "FreshShares$Circle")] (wC a cI cO gI) σ [.ref (a 0), .int p1, .int p2]) (vp_Si Q) 0 0 (fun _ => False) := by
  refine k_metR (by decide) rfl (Nat.le_of_ble_eq_true rfl) ?_
  intro Γ G E
  unfold wp_X6_fits at h
  have inX0 : ∀ w ∈ wsX00, w ∈ wsX6_fits := by decide +kernel
  have inX6 : ∀ w ∈ wsX60, w ∈ wsX6_fits := by decide +kernel
  have lk_27 := G.2.2.2.2.1 (.fieldLink RX6 27 "FreshShares" "circle" "LFreshShares$Circle;") (by decide +kernel)
  show k_J Γ rm_X6_fits 3 true (wC a cI cO gI) 0 [(0, .ref (a 0)), (1, .int p1), (2, .int p2)] [] σ
  refine r_iload_n G dX6_fits_0 1 rfl rfl ?_
  refine r_cSR G [.int p1] [] (c_X6_isValue (k_l Γ) (k_D Γ) _ _ h) (va_cwS 1 G.2.2.2.2.1 gX6_fits_X6_isValue rfl rfl rfl hd_X6_isValue ⟨Nat.le_of_ble_eq_true rfl, Nat.le_of_ble_eq_true rfl⟩) [] rfl (fun _ _ => k_E0) rfl rfl (Nat.le_of_ble_eq_true rfl) dX6_fits_1 (fun r_1 h => ?_)
  have hz_1 := h.1
  replace h := h.2
  refine r_if_eq G 14 dX6_fits_4 (by decide) (fun hc => ?_) (fun hc => ?_)
  · replace h := h.1 hc
    refine r_bipush G (-2 : Int32) dX6_fits_14 kb_m2 ?_
    exact r_iretR G E dX6_fits_16 h
  · replace h := h.2 hc
    refine r_iload_n G dX6_fits_7 2 rfl rfl ?_
    refine r_cSR G [.int p2] [] (c_X6_isValue (k_l Γ) (k_D Γ) _ _ h) (va_cwS 1 G.2.2.2.2.1 gX6_fits_X6_isValue rfl rfl rfl hd_X6_isValue ⟨Nat.le_of_ble_eq_true rfl, Nat.le_of_ble_eq_true rfl⟩) [] rfl (fun _ _ => k_E0) rfl rfl (Nat.le_of_ble_eq_true rfl) dX6_fits_8 (fun r_8 h => ?_)
    have hz_8 := h.1
    replace h := h.2
    refine r_if_ne G 17 dX6_fits_11 (by decide) (fun hc => ?_) (fun hc => ?_)
    · replace h := h.2 hc
      refine r_aload_n G dX6_fits_17 0 rfl rfl ?_
      refine r_get G inX6 0 2 wC_0 rfl (by decide) lk_27 rfl rfl dX6_fits_18 ?_
      refine r_cVR G (ci := 0) (cq := (RX0, TX0, 12)) [] [] (c_X0_isDealt (k_l Γ) (k_D Γ) a cI cO gI _ _ h) 4 rfl wC_4 (cwV 0 G.2.2.2.2.1 gX6_fits_X0_isDealt rfl rfl rfl hdv_X0_isDealt ⟨Nat.le_of_ble_eq_true rfl, Nat.le_of_ble_eq_true rfl⟩) [0, 1] rfl (fun _ hP => hP) rfl rfl (Nat.le_of_ble_eq_true rfl) dX6_fits_21 (fun r_21 h => ?_)
      have hz_21 := h.1
      replace h := h.2
      refine r_if_ne G 30 dX6_fits_24 (by decide) (fun hc => ?_) (fun hc => ?_)
      · replace h := h.2 hc
        refine r_iload_n G dX6_fits_30 1 rfl rfl ?_
        refine r_iload_n G dX6_fits_31 2 rfl rfl ?_
        refine r_aload_n G dX6_fits_32 0 rfl rfl ?_
        refine r_get G inX6 0 2 wC_0 rfl (by decide) lk_27 rfl rfl dX6_fits_33 ?_
        refine r_getN G inX0 4 3 wC_4 rfl (by decide) (G.2.2.2.2.2.2.at 14 rfl rfl) rfl rfl dX6_fits_36 ?_
        refine r_aload_n G dX6_fits_39 0 rfl rfl ?_
        refine r_get G inX6 0 2 wC_0 rfl (by decide) lk_27 rfl rfl dX6_fits_40 ?_
        refine r_getN G inX0 4 7 wC_4 rfl (by decide) (G.2.2.2.2.2.2.at 20 rfl rfl) rfl rfl dX6_fits_43 ?_
        refine r_cSR G [.int p1, .int p2, .ref (a 8), .int (σ 4 7)] [] (c_X5_fitting_8 (k_l Γ) (k_D Γ) a cI cO gI _ _ _ _ _ h) (va_cwS 4 G.2.2.2.2.1 gX6_fits_X5_fitting rfl rfl rfl hd_X5_fitting ⟨Nat.le_of_ble_eq_true rfl, Nat.le_of_ble_eq_true rfl⟩) [0, 1] rfl (fun _ hP => hP) rfl rfl (Nat.le_of_ble_eq_true rfl) dX6_fits_46 (fun r_46 h => ?_)
        have hz_46 := h.1
        replace h := h.2
        refine r_if_eq G 56 dX6_fits_49 (by decide) (fun hc => ?_) (fun hc => ?_)
        · replace h := h.1 hc
          refine r_iconst G (0 : Int32) dX6_fits_56 kc_0 ?_
          exact r_iretR G E dX6_fits_57 h
        · replace h := h.2 hc
          refine r_iconst G (1 : Int32) dX6_fits_52 kc_1 ?_
          refine r_goto G 57 dX6_fits_53 (by decide) ?_
          exact r_iretR G E dX6_fits_57 h
      · replace h := h.1 hc
        refine r_bipush G (-3 : Int32) dX6_fits_27 kb_m3 ?_
        exact r_iretR G E dX6_fits_29 h
    · replace h := h.1 hc
      refine r_bipush G (-2 : Int32) dX6_fits_14 kb_m2 ?_
      exact r_iretR G E dX6_fits_16 h
abbrev rm_X6_loot : Room := { frames := 0, cells := 0, slots := 0, locals := 0 }
def wp_X6_loot (σ : k_M) (p1 p2 : Int32) (Q : Int32 → Prop) : Prop :=
  ((p2 < 0 → Q (-2 : Int32)) ∧ (¬ p2 < 0 → ((p2 ≤ (2 : Int32) → ((p1 < 0 → Q (-6 : Int32)) ∧ (¬ p1 < 0 → (((σ 10 3) ≤ p1 → Q (-6 : Int32)) ∧ (¬ (σ 10 3) ≤ p1 → ((p1 < (24 : Int32) → ((p2 = 0 → (vp_in p1 24 ∧ Q ((σ 11) p1.toNatClampNeg))) ∧ (¬ p2 = 0 → ((p2 = (1 : Int32) → (vp_in p1 24 ∧ Q ((σ 12) p1.toNatClampNeg))) ∧ (¬ p2 = (1 : Int32) → (vp_in p1 24 ∧ Q ((σ 13) p1.toNatClampNeg))))))) ∧ (¬ p1 < (24 : Int32) → Q (-6 : Int32)))))))) ∧ (¬ p2 ≤ (2 : Int32) → Q (-2 : Int32)))))
theorem hd_X6_loot : yX6_loot.cls ≠ "java/lang/invoke/MethodHandle" ∧ yX6_loot.cls ≠ "java/lang/invoke/VarHandle" ∧ (parseMethodDescriptor yX6_loot.desc).map (fun d => d.parameters.length) = some 2 := by decide +kernel
theorem hdv_X6_loot : yX6_loot.cls = RX6 ∧ yX6_loot.cls ≠ "java/lang/invoke/MethodHandle" ∧ yX6_loot.cls ≠ "java/lang/invoke/VarHandle" ∧ (parseMethodDescriptor yX6_loot.desc).map (fun d => d.parameters.length) = some 2 := ⟨rfl, hd_X6_loot⟩
set_option maxHeartbeats 4000000 in
set_option maxRecDepth 100000 in
theorem c_X6_loot (l : Launch) (D : va_G) (a : Nat → Nat) (cI cO : ClassId) (gI : Nat → Option Nat) (σ : k_M) (p1 p2 : Int32) (Q : Int32 → Prop) (h : wp_X6_loot σ p1 p2 Q) : Met l yX6_loot wsX6_loot rm_X6_loot (k_PR D [(cI, .int), (cO, .object "FreshShares$Circle")] (wC a cI cO gI) σ [.ref (a 0), .int p1, .int p2]) (vp_Si Q) 0 0 (fun _ => False) := by
  refine k_metR (by decide) rfl (Nat.le_of_ble_eq_true rfl) ?_
  intro Γ G E
  unfold wp_X6_loot at h
  have inX0 : ∀ w ∈ wsX00, w ∈ wsX6_loot := by decide +kernel
  have inX1 : ∀ w ∈ wsX10, w ∈ wsX6_loot := by decide +kernel
  have inX6 : ∀ w ∈ wsX60, w ∈ wsX6_loot := by decide +kernel
  have lk_27 := G.2.2.2.2.1 (.fieldLink RX6 27 "FreshShares" "circle" "LFreshShares$Circle;") (by decide +kernel)
  show k_J Γ rm_X6_loot 4 true (wC a cI cO gI) 0 [(0, .ref (a 0)), (1, .int p1), (2, .int p2)] [] σ
  refine r_iload_n G dX6_loot_0 2 rfl rfl ?_
  refine r_if_lt G 9 dX6_loot_1 (by decide) (fun hc => ?_) (fun hc => ?_)
  · replace h := h.1 hc
    refine r_bipush G (-2 : Int32) dX6_loot_9 kb_m2 ?_
    exact r_iretR G E dX6_loot_11 h
  · replace h := h.2 hc
    refine r_iload_n G dX6_loot_4 2 rfl rfl ?_
    refine r_iconst G (2 : Int32) dX6_loot_5 kc_2 ?_
    refine r_icmp_le G 12 dX6_loot_6 (by decide) (fun hc => ?_) (fun hc => ?_)
    · replace h := h.1 hc
      refine r_aload_n G dX6_loot_12 0 rfl rfl ?_
      refine r_get G inX6 0 2 wC_0 rfl (by decide) lk_27 rfl rfl dX6_loot_13 ?_
      refine r_getN G inX0 4 5 wC_4 rfl (by decide) (G.2.2.2.2.2.2.at 16 rfl rfl) rfl rfl dX6_loot_16 ?_
      refine r_astore_n (lv' := [(3, .ref (a 10)), (0, .ref (a 0)), (1, .int p1), (2, .int p2)]) G dX6_loot_19 rfl (by decide) rfl ?_
      refine r_iload_n G dX6_loot_20 2 rfl rfl ?_
      refine r_if_lt G 38 dX6_loot_21 (by decide) (fun hc => ?_) (fun hc => ?_)
      · replace h := h.1 hc
        refine r_bipush G (-6 : Int32) dX6_loot_38 kb_m6 ?_
        exact r_iretR G E dX6_loot_40 h
      · replace h := h.2 hc
        refine r_iload_n G dX6_loot_24 2 rfl rfl ?_
        refine r_aload_n G dX6_loot_25 0 rfl rfl ?_
        refine r_getN G inX1 10 3 wC_10 rfl (by decide) (G.2.2.2.2.2.2.at 7 rfl rfl) rfl rfl dX6_loot_26 ?_
        refine r_icmp_ge G 38 dX6_loot_29 (by decide) (fun hc => ?_) (fun hc => ?_)
        · replace h := h.1 hc
          refine r_bipush G (-6 : Int32) dX6_loot_38 kb_m6 ?_
          exact r_iretR G E dX6_loot_40 h
        · replace h := h.2 hc
          refine r_iload_n G dX6_loot_32 2 rfl rfl ?_
          refine r_bipush G (24 : Int32) dX6_loot_33 kb_24 ?_
          refine r_icmp_lt G 41 dX6_loot_35 (by decide) (fun hc => ?_) (fun hc => ?_)
          · replace h := h.1 hc
            refine r_iload_n G dX6_loot_41 3 rfl rfl ?_
            refine r_if_ne G 52 dX6_loot_42 (by decide) (fun hc => ?_) (fun hc => ?_)
            · replace h := h.2 hc
              refine r_iload_n G dX6_loot_52 3 rfl rfl ?_
              refine r_iconst G (1 : Int32) dX6_loot_53 kc_1 ?_
              refine r_icmp_ne G 66 dX6_loot_54 (by decide) (fun hc => ?_) (fun hc => ?_)
              · replace h := h.2 hc
                refine r_aload_n G dX6_loot_66 0 rfl rfl ?_
                refine r_getN G inX1 10 2 wC_10 rfl (by decide) (G.2.2.2.2.2.2.at 4 rfl rfl) rfl rfl dX6_loot_67 ?_
                refine r_iload_n G dX6_loot_70 2 rfl rfl ?_
                refine r_iald G 13 0 wC_13 rfl h.1 dX6_loot_71 ?_
                replace h := h.2
                exact r_iretR G E dX6_loot_72 h
              · replace h := h.1 hc
                refine r_aload_n G dX6_loot_57 0 rfl rfl ?_
                refine r_getN G inX1 10 1 wC_10 rfl (by decide) (G.2.2.2.2.2.2.at 3 rfl rfl) rfl rfl dX6_loot_58 ?_
                refine r_iload_n G dX6_loot_61 2 rfl rfl ?_
                refine r_iald G 12 0 wC_12 rfl h.1 dX6_loot_62 ?_
                replace h := h.2
                refine r_goto G 72 dX6_loot_63 (by decide) ?_
                exact r_iretR G E dX6_loot_72 h
            · replace h := h.1 hc
              refine r_aload_n G dX6_loot_45 0 rfl rfl ?_
              refine r_getN G inX1 10 0 wC_10 rfl (by decide) (G.2.2.2.2.2.2.at 1 rfl rfl) rfl rfl dX6_loot_46 ?_
              refine r_iload_n G dX6_loot_49 2 rfl rfl ?_
              refine r_iald G 11 0 wC_11 rfl h.1 dX6_loot_50 ?_
              replace h := h.2
              exact r_iretR G E dX6_loot_51 h
          · replace h := h.2 hc
            refine r_bipush G (-6 : Int32) dX6_loot_38 kb_m6 ?_
            exact r_iretR G E dX6_loot_40 h
    · replace h := h.2 hc
      refine r_bipush G (-2 : Int32) dX6_loot_9 kb_m2 ?_
      exact r_iretR G E dX6_loot_11 h
abbrev rm_X6_shareFacts : Room := { frames := 3, cells := 0, slots := 0, locals := 68 }
def wp_X6_shareFacts (σ : k_M) (p1 p2 : Int32) (Q : Int32 → Prop) : Prop :=
  wp_X4_has (σ 4 6) p1 (fun (r_8 : Int32) => ((r_8 = 0 → Q (-6 : Int32)) ∧ (¬ r_8 = 0 → ((p2 = 0 → (vp_in p1 8 ∧ Q ((σ 7) p1.toNatClampNeg))) ∧ (¬ p2 = 0 → wp_X0_tells σ p1 (fun (r_36 : Int32) => ((p2 = (1 : Int32) → Q r_36) ∧ (¬ p2 = (1 : Int32) → wp_X5_fitting (σ 8) r_36 p1 (σ 4 7) (fun (r_63 : Int32) => ((r_63 = 0 → Q (0 : Int32)) ∧ (¬ r_63 = 0 → Q (1 : Int32))))))))))))
theorem hd_X6_shareFacts : yX6_shareFacts.cls ≠ "java/lang/invoke/MethodHandle" ∧ yX6_shareFacts.cls ≠ "java/lang/invoke/VarHandle" ∧ (parseMethodDescriptor yX6_shareFacts.desc).map (fun d => d.parameters.length) = some 2 := by decide +kernel
theorem hdv_X6_shareFacts : yX6_shareFacts.cls = RX6 ∧ yX6_shareFacts.cls ≠ "java/lang/invoke/MethodHandle" ∧ yX6_shareFacts.cls ≠ "java/lang/invoke/VarHandle" ∧ (parseMethodDescriptor yX6_shareFacts.desc).map (fun d => d.parameters.length) = some 2 := ⟨rfl, hd_X6_shareFacts⟩
set_option maxHeartbeats 4000000 in
set_option maxRecDepth 100000 in
theorem c_X6_shareFacts (l : Launch) (D : va_G) (a : Nat → Nat) (cI cO : ClassId) (gI : Nat → Option Nat) (σ : k_M) (p1 p2 : Int32) (Q : Int32 → Prop) (h : wp_X6_shareFacts σ p1 p2 Q) : Met l yX6_shareFacts wsX6_shareFacts rm_X6_shareFacts (k_PR D [(cI, .int), (cO, .object "FreshShares$Circle")] (wC a cI cO gI) σ [.ref (a 0), .int p1, .int p2]) (vp_Si Q) 0 0 (fun _ => False) := by
  refine k_metR (by decide) rfl (Nat.le_of_ble_eq_true rfl) ?_
  intro Γ G E
  unfold wp_X6_shareFacts at h
  have inX0 : ∀ w ∈ wsX00, w ∈ wsX6_shareFacts := by decide +kernel
  have inX6 : ∀ w ∈ wsX60, w ∈ wsX6_shareFacts := by decide +kernel
  have lk_27 := G.2.2.2.2.1 (.fieldLink RX6 27 "FreshShares" "circle" "LFreshShares$Circle;") (by decide +kernel)
  show k_J Γ rm_X6_shareFacts 4 true (wC a cI cO gI) 0 [(0, .ref (a 0)), (1, .int p1), (2, .int p2)] [] σ
  refine r_aload_n G dX6_shareFacts_0 0 rfl rfl ?_
  refine r_get G inX6 0 2 wC_0 rfl (by decide) lk_27 rfl rfl dX6_shareFacts_1 ?_
  refine r_getN G inX0 4 6 wC_4 rfl (by decide) (G.2.2.2.2.2.2.at 18 rfl rfl) rfl rfl dX6_shareFacts_4 ?_
  refine r_iload_n G dX6_shareFacts_7 1 rfl rfl ?_
  refine r_cSR G [.int (σ 4 6), .int p1] [] (c_X4_has (k_l Γ) (k_D Γ) _ _ _ h) (va_cwS 2 G.2.2.2.2.1 gX6_shareFacts_X4_has rfl rfl rfl hd_X4_has ⟨Nat.le_of_ble_eq_true rfl, Nat.le_of_ble_eq_true rfl⟩) [] rfl (fun _ _ => k_E0) rfl rfl (Nat.le_of_ble_eq_true rfl) dX6_shareFacts_8 (fun r_8 h => ?_)
  have hz_8 := h.1
  replace h := h.2
  refine r_if_ne G 17 dX6_shareFacts_11 (by decide) (fun hc => ?_) (fun hc => ?_)
  · replace h := h.2 hc
    refine r_iload_n G dX6_shareFacts_17 2 rfl rfl ?_
    refine r_if_ne G 31 dX6_shareFacts_18 (by decide) (fun hc => ?_) (fun hc => ?_)
    · replace h := h.2 hc
      refine r_aload_n G dX6_shareFacts_31 0 rfl rfl ?_
      refine r_get G inX6 0 2 wC_0 rfl (by decide) lk_27 rfl rfl dX6_shareFacts_32 ?_
      refine r_iload_n G dX6_shareFacts_35 1 rfl rfl ?_
      refine r_cVR G (ci := 0) (cq := (RX0, TX0, 12)) [.int p1] [] (c_X0_tells (k_l Γ) (k_D Γ) a cI cO gI _ _ _ h) 4 rfl wC_4 (cwV 1 G.2.2.2.2.1 gX6_shareFacts_X0_tells rfl rfl rfl hdv_X0_tells ⟨Nat.le_of_ble_eq_true rfl, Nat.le_of_ble_eq_true rfl⟩) [0, 1] rfl (fun _ hP => hP) rfl rfl (Nat.le_of_ble_eq_true rfl) dX6_shareFacts_36 (fun r_36 h => ?_)
      refine r_istore_n (lv' := [(3, .int r_36), (0, .ref (a 0)), (1, .int p1), (2, .int p2)]) G dX6_shareFacts_39 rfl (by decide) rfl ?_
      refine r_iload_n G dX6_shareFacts_40 3 rfl rfl ?_
      refine r_iconst G (1 : Int32) dX6_shareFacts_41 kc_1 ?_
      refine r_icmp_ne G 47 dX6_shareFacts_42 (by decide) (fun hc => ?_) (fun hc => ?_)
      · replace h := h.2 hc
        refine r_iload_n G dX6_shareFacts_47 0 rfl rfl ?_
        refine r_iload_n G dX6_shareFacts_48 2 rfl rfl ?_
        refine r_aload_n G dX6_shareFacts_49 1 rfl rfl ?_
        refine r_get G inX6 0 2 wC_0 rfl (by decide) lk_27 rfl rfl dX6_shareFacts_50 ?_
        refine r_getN G inX0 4 3 wC_4 rfl (by decide) (G.2.2.2.2.2.2.at 14 rfl rfl) rfl rfl dX6_shareFacts_53 ?_
        refine r_aload_n G dX6_shareFacts_56 1 rfl rfl ?_
        refine r_get G inX6 0 2 wC_0 rfl (by decide) lk_27 rfl rfl dX6_shareFacts_57 ?_
        refine r_getN G inX0 4 7 wC_4 rfl (by decide) (G.2.2.2.2.2.2.at 20 rfl rfl) rfl rfl dX6_shareFacts_60 ?_
        refine r_cSR G [.int r_36, .int p1, .ref (a 8), .int (σ 4 7)] [] (c_X5_fitting_8 (k_l Γ) (k_D Γ) a cI cO gI _ _ _ _ _ h) (va_cwS 4 G.2.2.2.2.1 gX6_shareFacts_X5_fitting rfl rfl rfl hd_X5_fitting ⟨Nat.le_of_ble_eq_true rfl, Nat.le_of_ble_eq_true rfl⟩) [0, 1] rfl (fun _ hP => hP) rfl rfl (Nat.le_of_ble_eq_true rfl) dX6_shareFacts_63 (fun r_63 h => ?_)
        have hz_63 := h.1
        replace h := h.2
        refine r_if_eq G 73 dX6_shareFacts_66 (by decide) (fun hc => ?_) (fun hc => ?_)
        · replace h := h.1 hc
          refine r_iconst G (0 : Int32) dX6_shareFacts_73 kc_0 ?_
          exact r_iretR G E dX6_shareFacts_74 h
        · replace h := h.2 hc
          refine r_iconst G (1 : Int32) dX6_shareFacts_69 kc_1 ?_
          refine r_goto G 74 dX6_shareFacts_70 (by decide) ?_
          exact r_iretR G E dX6_shareFacts_74 h
      · replace h := h.1 hc
        refine r_iload_n G dX6_shareFacts_45 0 rfl rfl ?_
        exact r_iretR G E dX6_shareFacts_46 h
    · replace h := h.1 hc
      refine r_aload_n G dX6_shareFacts_21 0 rfl rfl ?_
      refine r_get G inX6 0 2 wC_0 rfl (by decide) lk_27 rfl rfl dX6_shareFacts_22 ?_
      refine r_getN G inX0 4 2 wC_4 rfl (by decide) (G.2.2.2.2.2.2.at 12 rfl rfl) rfl rfl dX6_shareFacts_25 ?_
      refine r_iload_n G dX6_shareFacts_28 1 rfl rfl ?_
      refine r_iald G 7 0 wC_7 rfl h.1 dX6_shareFacts_29 ?_
      replace h := h.2
      exact r_iretR G E dX6_shareFacts_30 h
  · replace h := h.1 hc
    refine r_bipush G (-6 : Int32) dX6_shareFacts_14 kb_m6 ?_
    exact r_iretR G E dX6_shareFacts_16 h
abbrev rm_X6_member : Room := { frames := 4, cells := 0, slots := 0, locals := 91 }
def wp_X6_member (σ : k_M) (p1 p2 : Int32) (Q : Int32 → Prop) : Prop :=
  wp_X6_isMember p1 (fun (r_1 : Int32) => ((r_1 = 0 → Q (-1 : Int32)) ∧ (¬ r_1 = 0 → (∃ K_25 : Prop, ( K_25  → (∃ K_52 : Prop, ( K_52  → ((p2 < (10 : Int32) → Q (-2 : Int32)) ∧ (¬ p2 < (10 : Int32) → (((15 : Int32) ≤ p2 → Q (-2 : Int32)) ∧ (¬ (15 : Int32) ≤ p2 → (vp_in (((p1 * (5 : Int32)) + p2) - (10 : Int32)) 40 ∧ Q ((σ 5) (((p1 * (5 : Int32)) + p2) - (10 : Int32)).toNatClampNeg))))))) ∧ ((p2 < (3 : Int32) → K_52) ∧ (¬ p2 < (3 : Int32) → (((8 : Int32) ≤ p2 → K_52) ∧ (¬ (8 : Int32) ≤ p2 → (vp_in (((p1 * (5 : Int32)) + p2) - (3 : Int32)) 40 ∧ Q ((σ 6) (((p1 * (5 : Int32)) + p2) - (3 : Int32)).toNatClampNeg)))))))) ∧ ((p2 < 0 → K_25) ∧ (¬ p2 < 0 → (((2 : Int32) < p2 → K_25) ∧ (¬ (2 : Int32) < p2 → wp_X6_shareFacts σ p1 p2 (fun (r_21 : Int32) => Q r_21)))))))))
theorem hd_X6_member : yX6_member.cls ≠ "java/lang/invoke/MethodHandle" ∧ yX6_member.cls ≠ "java/lang/invoke/VarHandle" ∧ (parseMethodDescriptor yX6_member.desc).map (fun d => d.parameters.length) = some 2 := by decide +kernel
theorem hdv_X6_member : yX6_member.cls = RX6 ∧ yX6_member.cls ≠ "java/lang/invoke/MethodHandle" ∧ yX6_member.cls ≠ "java/lang/invoke/VarHandle" ∧ (parseMethodDescriptor yX6_member.desc).map (fun d => d.parameters.length) = some 2 := ⟨rfl, hd_X6_member⟩
set_option maxHeartbeats 4000000 in
set_option maxRecDepth 100000 in
theorem c_X6_member (l : Launch) (D : va_G) (a : Nat → Nat) (cI cO : ClassId) (gI : Nat → Option Nat) (σ : k_M) (p1 p2 : Int32) (Q : Int32 → Prop) (h : wp_X6_member σ p1 p2 Q) : Met l yX6_member wsX6_member rm_X6_member (k_PR D [(cI, .int), (cO, .object "FreshShares$Circle")] (wC a cI cO gI) σ [.ref (a 0), .int p1, .int p2]) (vp_Si Q) 0 0 (fun _ => False) := by
  refine k_metR (by decide) rfl (Nat.le_of_ble_eq_true rfl) ?_
  intro Γ G E
  unfold wp_X6_member at h
  have inX0 : ∀ w ∈ wsX00, w ∈ wsX6_member := by decide +kernel
  have inX6 : ∀ w ∈ wsX60, w ∈ wsX6_member := by decide +kernel
  have lk_27 := G.2.2.2.2.1 (.fieldLink RX6 27 "FreshShares" "circle" "LFreshShares$Circle;") (by decide +kernel)
  show k_J Γ rm_X6_member 3 true (wC a cI cO gI) 0 [(0, .ref (a 0)), (1, .int p1), (2, .int p2)] [] σ
  refine r_iload_n G dX6_member_0 1 rfl rfl ?_
  refine r_cSR G [.int p1] [] (c_X6_isMember (k_l Γ) (k_D Γ) _ _ h) (va_cwS 1 G.2.2.2.2.1 gX6_member_X6_isMember rfl rfl rfl hd_X6_isMember ⟨Nat.le_of_ble_eq_true rfl, Nat.le_of_ble_eq_true rfl⟩) [] rfl (fun _ _ => k_E0) rfl rfl (Nat.le_of_ble_eq_true rfl) dX6_member_1 (fun r_1 h => ?_)
  have hz_1 := h.1
  replace h := h.2
  refine r_if_ne G 9 dX6_member_4 (by decide) (fun hc => ?_) (fun hc => ?_)
  · replace h := h.2 hc
    refine r_iload_n G dX6_member_9 2 rfl rfl ?_
    obtain ⟨K_25, hK_25, h⟩ := h
    have kj_25 :  K_25  → k_J Γ rm_X6_member 3 true (wC a cI cO gI) 25 [(0, .ref (a 0)), (1, .int p1), (2, .int p2)] [] σ := by
      intro  h
      replace h := hK_25  h
      refine r_iload_n G dX6_member_25 2 rfl rfl ?_
      refine r_iconst G (3 : Int32) dX6_member_26 kc_3 ?_
      obtain ⟨K_52, hK_52, h⟩ := h
      have kj_52 :  K_52  → k_J Γ rm_X6_member 3 true (wC a cI cO gI) 52 [(0, .ref (a 0)), (1, .int p1), (2, .int p2)] [] σ := by
        intro  h
        replace h := hK_52  h
        refine r_iload_n G dX6_member_52 2 rfl rfl ?_
        refine r_bipush G (10 : Int32) dX6_member_53 kb_10 ?_
        refine r_icmp_lt G 81 dX6_member_55 (by decide) (fun hc => ?_) (fun hc => ?_)
        · replace h := h.1 hc
          refine r_bipush G (-2 : Int32) dX6_member_81 kb_m2 ?_
          exact r_iretR G E dX6_member_83 h
        · replace h := h.2 hc
          refine r_iload_n G dX6_member_58 2 rfl rfl ?_
          refine r_bipush G (15 : Int32) dX6_member_59 kb_15 ?_
          refine r_icmp_ge G 81 dX6_member_61 (by decide) (fun hc => ?_) (fun hc => ?_)
          · replace h := h.1 hc
            refine r_bipush G (-2 : Int32) dX6_member_81 kb_m2 ?_
            exact r_iretR G E dX6_member_83 h
          · replace h := h.2 hc
            refine r_aload_n G dX6_member_64 0 rfl rfl ?_
            refine r_get G inX6 0 2 wC_0 rfl (by decide) lk_27 rfl rfl dX6_member_65 ?_
            refine r_getN G inX0 4 0 wC_4 rfl (by decide) (G.2.2.2.2.2.2.at 8 rfl rfl) rfl rfl dX6_member_68 ?_
            refine r_iload_n G dX6_member_71 1 rfl rfl ?_
            refine r_iconst G (5 : Int32) dX6_member_72 kc_5 ?_
            refine r_imul G dX6_member_73 ?_
            refine r_iload_n G dX6_member_74 2 rfl rfl ?_
            refine r_iadd G dX6_member_75 ?_
            refine r_bipush G (10 : Int32) dX6_member_76 kb_10 ?_
            refine r_isub G dX6_member_78 ?_
            refine r_iald G 5 0 wC_5 rfl h.1 dX6_member_79 ?_
            replace h := h.2
            exact r_iretR G E dX6_member_80 h
      refine r_icmp_lt G 52 dX6_member_27 (by decide) (fun hc => ?_) (fun hc => ?_)
      · replace h := h.1 hc
        exact r_sub [0, 1, 2] rfl (kj_52  h)
      · replace h := h.2 hc
        refine r_iload_n G dX6_member_30 2 rfl rfl ?_
        refine r_bipush G (8 : Int32) dX6_member_31 kb_8 ?_
        refine r_icmp_ge G 52 dX6_member_33 (by decide) (fun hc => ?_) (fun hc => ?_)
        · replace h := h.1 hc
          exact r_sub [0, 1, 2] rfl (kj_52  h)
        · replace h := h.2 hc
          refine r_aload_n G dX6_member_36 0 rfl rfl ?_
          refine r_get G inX6 0 2 wC_0 rfl (by decide) lk_27 rfl rfl dX6_member_37 ?_
          refine r_getN G inX0 4 1 wC_4 rfl (by decide) (G.2.2.2.2.2.2.at 10 rfl rfl) rfl rfl dX6_member_40 ?_
          refine r_iload_n G dX6_member_43 1 rfl rfl ?_
          refine r_iconst G (5 : Int32) dX6_member_44 kc_5 ?_
          refine r_imul G dX6_member_45 ?_
          refine r_iload_n G dX6_member_46 2 rfl rfl ?_
          refine r_iadd G dX6_member_47 ?_
          refine r_iconst G (3 : Int32) dX6_member_48 kc_3 ?_
          refine r_isub G dX6_member_49 ?_
          refine r_iald G 6 0 wC_6 rfl h.1 dX6_member_50 ?_
          replace h := h.2
          exact r_iretR G E dX6_member_51 h
    refine r_if_lt G 25 dX6_member_10 (by decide) (fun hc => ?_) (fun hc => ?_)
    · replace h := h.1 hc
      exact r_sub [0, 1, 2] rfl (kj_25  h)
    · replace h := h.2 hc
      refine r_iload_n G dX6_member_13 2 rfl rfl ?_
      refine r_iconst G (2 : Int32) dX6_member_14 kc_2 ?_
      refine r_icmp_gt G 25 dX6_member_15 (by decide) (fun hc => ?_) (fun hc => ?_)
      · replace h := h.1 hc
        exact r_sub [0, 1, 2] rfl (kj_25  h)
      · replace h := h.2 hc
        refine r_aload_n G dX6_member_18 0 rfl rfl ?_
        refine r_iload_n G dX6_member_19 1 rfl rfl ?_
        refine r_iload_n G dX6_member_20 2 rfl rfl ?_
        refine r_cVR G (ci := 4) (cq := (RX6, TX6, 4)) [.int p1, .int p2] [] (c_X6_shareFacts (k_l Γ) (k_D Γ) a cI cO gI _ _ _ _ h) 0 rfl wC_0 (cwV 2 G.2.2.2.2.1 gX6_member_X6_shareFacts rfl rfl rfl hdv_X6_shareFacts ⟨Nat.le_of_ble_eq_true rfl, Nat.le_of_ble_eq_true rfl⟩) [0, 1] rfl (fun _ hP => hP) rfl rfl (Nat.le_of_ble_eq_true rfl) dX6_member_21 (fun r_21 h => ?_)
        exact r_iretR G E dX6_member_24 h
  · replace h := h.1 hc
    refine r_iconst G (-1 : Int32) dX6_member_7 kc_m1 ?_
    exact r_iretR G E dX6_member_8 h
abbrev rm_X6_named : Room := { frames := 0, cells := 0, slots := 0, locals := 0 }
def wp_X6_named (σ : k_M) (p1 : Int32) (Q : Int32 → Prop) : Prop :=
  ((p1 = 0 → Q (σ 4 9)) ∧ (¬ p1 = 0 → ((p1 = (1 : Int32) → Q (σ 4 10)) ∧ (¬ p1 = (1 : Int32) → Q (-2 : Int32)))))
theorem hd_X6_named : yX6_named.cls ≠ "java/lang/invoke/MethodHandle" ∧ yX6_named.cls ≠ "java/lang/invoke/VarHandle" ∧ (parseMethodDescriptor yX6_named.desc).map (fun d => d.parameters.length) = some 1 := by decide +kernel
theorem hdv_X6_named : yX6_named.cls = RX6 ∧ yX6_named.cls ≠ "java/lang/invoke/MethodHandle" ∧ yX6_named.cls ≠ "java/lang/invoke/VarHandle" ∧ (parseMethodDescriptor yX6_named.desc).map (fun d => d.parameters.length) = some 1 := ⟨rfl, hd_X6_named⟩
set_option maxHeartbeats 4000000 in
set_option maxRecDepth 100000 in
theorem c_X6_named (l : Launch) (D : va_G) (a : Nat → Nat) (cI cO : ClassId) (gI : Nat → Option Nat) (σ : k_M) (p1 : Int32) (Q : Int32 → Prop) (h : wp_X6_named σ p1 Q) : Met l yX6_named wsX6_named rm_X6_named (k_PR D [(cI, .int), (cO, .object "FreshShares$Circle")] (wC a cI cO gI) σ [.ref (a 0), .int p1]) (vp_Si Q) 0 0 (fun _ => False) := by
  refine k_metR (by decide) rfl (Nat.le_of_ble_eq_true rfl) ?_
  intro Γ G E
  unfold wp_X6_named at h
  have inX0 : ∀ w ∈ wsX00, w ∈ wsX6_named := by decide +kernel
  have inX6 : ∀ w ∈ wsX60, w ∈ wsX6_named := by decide +kernel
  have lk_27 := G.2.2.2.2.1 (.fieldLink RX6 27 "FreshShares" "circle" "LFreshShares$Circle;") (by decide +kernel)
  show k_J Γ rm_X6_named 2 true (wC a cI cO gI) 0 [(0, .ref (a 0)), (1, .int p1)] [] σ
  refine r_iload_n G dX6_named_0 1 rfl rfl ?_
  refine r_if_ne G 12 dX6_named_1 (by decide) (fun hc => ?_) (fun hc => ?_)
  · replace h := h.2 hc
    refine r_iload_n G dX6_named_12 1 rfl rfl ?_
    refine r_iconst G (1 : Int32) dX6_named_13 kc_1 ?_
    refine r_icmp_ne G 27 dX6_named_14 (by decide) (fun hc => ?_) (fun hc => ?_)
    · replace h := h.2 hc
      refine r_bipush G (-2 : Int32) dX6_named_27 kb_m2 ?_
      exact r_iretR G E dX6_named_29 h
    · replace h := h.1 hc
      refine r_aload_n G dX6_named_17 0 rfl rfl ?_
      refine r_get G inX6 0 2 wC_0 rfl (by decide) lk_27 rfl rfl dX6_named_18 ?_
      refine r_getN G inX0 4 10 wC_4 rfl (by decide) (G.2.2.2.2.2.2.at 26 rfl rfl) rfl rfl dX6_named_21 ?_
      refine r_goto G 29 dX6_named_24 (by decide) ?_
      exact r_iretR G E dX6_named_29 h
  · replace h := h.1 hc
    refine r_aload_n G dX6_named_4 0 rfl rfl ?_
    refine r_get G inX6 0 2 wC_0 rfl (by decide) lk_27 rfl rfl dX6_named_5 ?_
    refine r_getN G inX0 4 9 wC_4 rfl (by decide) (G.2.2.2.2.2.2.at 24 rfl rfl) rfl rfl dX6_named_8 ?_
    exact r_iretR G E dX6_named_11 h
abbrev rm_X6_row : Room := { frames := 1, cells := 0, slots := 0, locals := 20 }
def wp_X6_row (σ : k_M) (p1 p2 p3 : Int32) (Q : Int32 → k_M → Prop) : Prop :=
  (∃ K_13 : Prop, ( K_13  → ((p2 < 0 → Q (-2 : Int32) σ) ∧ (¬ p2 < 0 → (((5 : Int32) ≤ p2 → Q (-2 : Int32) σ) ∧ (¬ (5 : Int32) ≤ p2 → wp_X6_isValue p3 (fun (r_23 : Int32) => ((r_23 = 0 → Q (-2 : Int32) σ) ∧ (¬ r_23 = 0 → (vp_in ((p1 * (5 : Int32)) + p2) 40 ∧ (vp_in ((p1 * (5 : Int32)) + p2) 40 ∧ Q ((σ 5) ((p1 * (5 : Int32)) + p2).toNatClampNeg) (k_put σ 5 ((p1 * (5 : Int32)) + p2).toNatClampNeg p3))))))))))) ∧ ((p1 = 0 → K_13) ∧ (¬ p1 = 0 → wp_X6_isMember p1 (fun (r_5 : Int32) => ((r_5 = 0 → Q (-1 : Int32) σ) ∧ (¬ r_5 = 0 → K_13))))))
theorem hd_X6_row : yX6_row.cls ≠ "java/lang/invoke/MethodHandle" ∧ yX6_row.cls ≠ "java/lang/invoke/VarHandle" ∧ (parseMethodDescriptor yX6_row.desc).map (fun d => d.parameters.length) = some 3 := by decide +kernel
theorem hdv_X6_row : yX6_row.cls = RX6 ∧ yX6_row.cls ≠ "java/lang/invoke/MethodHandle" ∧ yX6_row.cls ≠ "java/lang/invoke/VarHandle" ∧ (parseMethodDescriptor yX6_row.desc).map (fun d => d.parameters.length) = some 3 := ⟨rfl, hd_X6_row⟩
set_option maxHeartbeats 4000000 in
set_option maxRecDepth 100000 in
theorem c_X6_row (l : Launch) (D : va_G) (a : Nat → Nat) (cI cO : ClassId) (gI : Nat → Option Nat) (σ : k_M) (p1 p2 p3 : Int32) (Q : Int32 → k_M → Prop) (h : wp_X6_row σ p1 p2 p3 Q) : Met l yX6_row wsX6_row rm_X6_row (k_PW D [(cI, .int), (cO, .object "FreshShares$Circle")] (wC a cI cO gI) σ [.ref (a 0), .int p1, .int p2, .int p3]) (k_Qi D (wC a cI cO gI) Q) 0 0 (k_wA (wC a cI cO gI)) := by
  refine k_metW (Qc := fun D => k_Qi D (wC a cI cO gI) Q) (by decide) rfl (Nat.le_of_ble_eq_true rfl) ?_
  intro Γ G hD E
  unfold wp_X6_row at h
  have inX0 : ∀ w ∈ wsX00, w ∈ wsX6_row := by decide +kernel
  have inX6 : ∀ w ∈ wsX60, w ∈ wsX6_row := by decide +kernel
  have lk_27 := G.2.2.2.2.1 (.fieldLink RX6 27 "FreshShares" "circle" "LFreshShares$Circle;") (by decide +kernel)
  show k_J Γ rm_X6_row 6 false (wC a cI cO gI) 0 [(0, .ref (a 0)), (1, .int p1), (2, .int p2), (3, .int p3)] [] σ
  refine r_iload_n G dX6_row_0 1 rfl rfl ?_
  obtain ⟨K_13, hK_13, h⟩ := h
  have kj_13 :  K_13  → k_J Γ rm_X6_row 6 false (wC a cI cO gI) 13 [(0, .ref (a 0)), (1, .int p1), (2, .int p2), (3, .int p3)] [] σ := by
    intro  h
    replace h := hK_13  h
    refine r_iload_n G dX6_row_13 2 rfl rfl ?_
    refine r_if_lt G 29 dX6_row_14 (by decide) (fun hc => ?_) (fun hc => ?_)
    · replace h := h.1 hc
      refine r_bipush G (-2 : Int32) dX6_row_29 kb_m2 ?_
      exact r_iretW G E dX6_row_31 h
    · replace h := h.2 hc
      refine r_iload_n G dX6_row_17 2 rfl rfl ?_
      refine r_iconst G (5 : Int32) dX6_row_18 kc_5 ?_
      refine r_icmp_ge G 29 dX6_row_19 (by decide) (fun hc => ?_) (fun hc => ?_)
      · replace h := h.1 hc
        refine r_bipush G (-2 : Int32) dX6_row_29 kb_m2 ?_
        exact r_iretW G E dX6_row_31 h
      · replace h := h.2 hc
        refine r_iload_n G dX6_row_22 3 rfl rfl ?_
        refine r_cSR G [.int p3] [] (c_X6_isValue (k_l Γ) (k_D Γ) _ _ h) (va_cwS 1 G.2.2.2.2.1 gX6_row_X6_isValue rfl rfl rfl hd_X6_isValue ⟨Nat.le_of_ble_eq_true rfl, Nat.le_of_ble_eq_true rfl⟩) [] rfl (fun _ _ => k_E0) rfl rfl (Nat.le_of_ble_eq_true rfl) dX6_row_23 (fun r_23 h => ?_)
        have hz_23 := h.1
        replace h := h.2
        refine r_if_ne G 32 dX6_row_26 (by decide) (fun hc => ?_) (fun hc => ?_)
        · replace h := h.2 hc
          refine r_iload_n G dX6_row_32 1 rfl rfl ?_
          refine r_iconst G (5 : Int32) dX6_row_33 kc_5 ?_
          refine r_imul G dX6_row_34 ?_
          refine r_iload_n G dX6_row_35 2 rfl rfl ?_
          refine r_iadd G dX6_row_36 ?_
          refine r_istore (lv' := [(4, .int ((p1 * (5 : Int32)) + p2)), (0, .ref (a 0)), (1, .int p1), (2, .int p2), (3, .int p3)]) G dX6_row_37 (by decide) rfl ?_
          refine r_aload_n G dX6_row_39 1 rfl rfl ?_
          refine r_get G inX6 0 2 wC_0 rfl (by decide) lk_27 rfl rfl dX6_row_40 ?_
          refine r_getN G inX0 4 0 wC_4 rfl (by decide) (G.2.2.2.2.2.2.at 8 rfl rfl) rfl rfl dX6_row_43 ?_
          refine r_iload G dX6_row_46 0 rfl ?_
          refine r_iald G 5 0 wC_5 rfl h.1 dX6_row_48 ?_
          replace h := h.2
          refine r_istore (lv' := [(5, .int ((σ 5) ((p1 * (5 : Int32)) + p2).toNatClampNeg)), (4, .int ((p1 * (5 : Int32)) + p2)), (0, .ref (a 0)), (1, .int p1), (2, .int p2), (3, .int p3)]) G dX6_row_49 (by decide) rfl ?_
          refine r_aload_n G dX6_row_51 2 rfl rfl ?_
          refine r_get G inX6 0 2 wC_0 rfl (by decide) lk_27 rfl rfl dX6_row_52 ?_
          refine r_getN G inX0 4 0 wC_4 rfl (by decide) (G.2.2.2.2.2.2.at 8 rfl rfl) rfl rfl dX6_row_55 ?_
          refine r_iload G dX6_row_58 1 rfl ?_
          refine r_iload_n G dX6_row_60 5 rfl rfl ?_
          refine r_iast G hD 5 0 wC_5 rfl h.1 _ wC_5_s dX6_row_61 ?_
          replace h := h.2
          refine r_iload G dX6_row_62 0 rfl ?_
          exact r_iretW G E dX6_row_64 h
        · replace h := h.1 hc
          refine r_bipush G (-2 : Int32) dX6_row_29 kb_m2 ?_
          exact r_iretW G E dX6_row_31 h
  refine r_if_eq G 13 dX6_row_1 (by decide) (fun hc => ?_) (fun hc => ?_)
  · replace h := h.1 hc
    exact r_sub [0, 1, 2, 3] rfl (kj_13  h)
  · replace h := h.2 hc
    refine r_iload_n G dX6_row_4 1 rfl rfl ?_
    refine r_cSR G [.int p1] [] (c_X6_isMember (k_l Γ) (k_D Γ) _ _ h) (va_cwS 1 G.2.2.2.2.1 gX6_row_X6_isMember rfl rfl rfl hd_X6_isMember ⟨Nat.le_of_ble_eq_true rfl, Nat.le_of_ble_eq_true rfl⟩) [] rfl (fun _ _ => k_E0) rfl rfl (Nat.le_of_ble_eq_true rfl) dX6_row_5 (fun r_5 h => ?_)
    have hz_5 := h.1
    replace h := h.2
    refine r_if_ne G 13 dX6_row_8 (by decide) (fun hc => ?_) (fun hc => ?_)
    · replace h := h.2 hc
      exact r_sub [0, 1, 2, 3] rfl (kj_13  h)
    · replace h := h.1 hc
      refine r_iconst G (-1 : Int32) dX6_row_11 kc_m1 ?_
      exact r_iretW G E dX6_row_12 h
abbrev rm_X6_say : Room := { frames := 1, cells := 0, slots := 0, locals := 21 }
def wp_X6_say (σ : k_M) (p1 : Int32) (Q : Int32 → k_M → Prop) : Prop :=
  ((p1 < (33 : Int32) → Q (-2 : Int32) σ) ∧ (¬ p1 < (33 : Int32) → ((p1 ≤ (126 : Int32) → wp_X3_append σ p1 (fun (r_20 : Int32) (σ_20 : k_M) => ((r_20 = 0 → Q (-4 : Int32) σ_20) ∧ (¬ r_20 = 0 → Q (σ_20 1 1) σ_20)))) ∧ (¬ p1 ≤ (126 : Int32) → Q (-2 : Int32) σ))))
theorem hd_X6_say : yX6_say.cls ≠ "java/lang/invoke/MethodHandle" ∧ yX6_say.cls ≠ "java/lang/invoke/VarHandle" ∧ (parseMethodDescriptor yX6_say.desc).map (fun d => d.parameters.length) = some 1 := by decide +kernel
theorem hdv_X6_say : yX6_say.cls = RX6 ∧ yX6_say.cls ≠ "java/lang/invoke/MethodHandle" ∧ yX6_say.cls ≠ "java/lang/invoke/VarHandle" ∧ (parseMethodDescriptor yX6_say.desc).map (fun d => d.parameters.length) = some 1 := ⟨rfl, hd_X6_say⟩
set_option maxHeartbeats 4000000 in
set_option maxRecDepth 100000 in
theorem c_X6_say (l : Launch) (D : va_G) (a : Nat → Nat) (cI cO : ClassId) (gI : Nat → Option Nat) (σ : k_M) (p1 : Int32) (Q : Int32 → k_M → Prop) (h : wp_X6_say σ p1 Q) : Met l yX6_say wsX6_say rm_X6_say (k_PW D [(cI, .int), (cO, .object "FreshShares$Circle")] (wC a cI cO gI) σ [.ref (a 0), .int p1]) (k_Qi D (wC a cI cO gI) Q) 0 0 (k_wA (wC a cI cO gI)) := by
  refine k_metW (Qc := fun D => k_Qi D (wC a cI cO gI) Q) (by decide) rfl (Nat.le_of_ble_eq_true rfl) ?_
  intro Γ G hD E
  unfold wp_X6_say at h
  have inX3 : ∀ w ∈ wsX30, w ∈ wsX6_say := by decide +kernel
  have inX6 : ∀ w ∈ wsX60, w ∈ wsX6_say := by decide +kernel
  have lk_10 := G.2.2.2.2.1 (.fieldLink RX6 10 "FreshShares" "script" "LFreshShares$Script;") (by decide +kernel)
  show k_J Γ rm_X6_say 2 false (wC a cI cO gI) 0 [(0, .ref (a 0)), (1, .int p1)] [] σ
  refine r_iload_n G dX6_say_0 1 rfl rfl ?_
  refine r_bipush G (33 : Int32) dX6_say_1 kb_33 ?_
  refine r_icmp_lt G 12 dX6_say_3 (by decide) (fun hc => ?_) (fun hc => ?_)
  · replace h := h.1 hc
    refine r_bipush G (-2 : Int32) dX6_say_12 kb_m2 ?_
    exact r_iretW G E dX6_say_14 h
  · replace h := h.2 hc
    refine r_iload_n G dX6_say_6 1 rfl rfl ?_
    refine r_bipush G (126 : Int32) dX6_say_7 kb_126 ?_
    refine r_icmp_le G 15 dX6_say_9 (by decide) (fun hc => ?_) (fun hc => ?_)
    · replace h := h.1 hc
      refine r_aload_n G dX6_say_15 0 rfl rfl ?_
      refine r_get G inX6 0 0 wC_0 rfl (by decide) lk_10 rfl rfl dX6_say_16 ?_
      refine r_iload_n G dX6_say_19 1 rfl rfl ?_
      refine r_cVWi G hD (ci := 3) (cq := (RX3, TX3, 2)) [.int p1] [] (c_X3_append (k_l Γ) (k_D Γ) a cI cO gI _ _ _ h) 1 rfl wC_1 (cwV 1 G.2.2.2.2.1 gX6_say_X3_append rfl rfl rfl hdv_X3_append ⟨Nat.le_of_ble_eq_true rfl, Nat.le_of_ble_eq_true rfl⟩) [0, 1] rfl rfl rfl (Nat.le_of_ble_eq_true rfl) dX6_say_20 (fun r_20 σ_20 h => ?_)
      have hz_20 := h.1
      replace h := h.2
      refine r_if_eq G 36 dX6_say_23 (by decide) (fun hc => ?_) (fun hc => ?_)
      · replace h := h.1 hc
        refine r_bipush G (-4 : Int32) dX6_say_36 kb_m4 ?_
        exact r_iretW G E dX6_say_38 h
      · replace h := h.2 hc
        refine r_aload_n G dX6_say_26 0 rfl rfl ?_
        refine r_get G inX6 0 0 wC_0 rfl (by decide) lk_10 rfl rfl dX6_say_27 ?_
        refine r_getN G inX3 1 1 wC_1 rfl (by decide) (G.2.2.2.2.2.2.at 0 rfl rfl) rfl rfl dX6_say_30 ?_
        refine r_goto G 38 dX6_say_33 (by decide) ?_
        exact r_iretW G E dX6_say_38 h
    · replace h := h.2 hc
      refine r_bipush G (-2 : Int32) dX6_say_12 kb_m2 ?_
      exact r_iretW G E dX6_say_14 h
abbrev rm_X6_seal : Room := { frames := 1, cells := 0, slots := 0, locals := 20 }
def wp_X6_seal (σ : k_M) (p1 : Int32) (Q : Int32 → Prop) : Prop :=
  wp_X0_isDealt σ (fun (r_4 : Int32) => ((r_4 = 0 → Q (-3 : Int32)) ∧ (¬ r_4 = 0 → ((p1 < 0 → Q (-6 : Int32)) ∧ (¬ p1 < 0 → (((5 : Int32) ≤ p1 → Q (-6 : Int32)) ∧ (¬ (5 : Int32) ≤ p1 → ((p1 < (σ 4 7) → (vp_in p1 5 ∧ Q ((σ 8) p1.toNatClampNeg))) ∧ (¬ p1 < (σ 4 7) → Q (-6 : Int32))))))))))
theorem hd_X6_seal : yX6_seal.cls ≠ "java/lang/invoke/MethodHandle" ∧ yX6_seal.cls ≠ "java/lang/invoke/VarHandle" ∧ (parseMethodDescriptor yX6_seal.desc).map (fun d => d.parameters.length) = some 1 := by decide +kernel
theorem hdv_X6_seal : yX6_seal.cls = RX6 ∧ yX6_seal.cls ≠ "java/lang/invoke/MethodHandle" ∧ yX6_seal.cls ≠ "java/lang/invoke/VarHandle" ∧ (parseMethodDescriptor yX6_seal.desc).map (fun d => d.parameters.length) = some 1 := ⟨rfl, hd_X6_seal⟩
set_option maxHeartbeats 4000000 in
set_option maxRecDepth 100000 in
theorem c_X6_seal (l : Launch) (D : va_G) (a : Nat → Nat) (cI cO : ClassId) (gI : Nat → Option Nat) (σ : k_M) (p1 : Int32) (Q : Int32 → Prop) (h : wp_X6_seal σ p1 Q) : Met l yX6_seal wsX6_seal rm_X6_seal (k_PR D [(cI, .int), (cO, .object "FreshShares$Circle")] (wC a cI cO gI) σ [.ref (a 0), .int p1]) (vp_Si Q) 0 0 (fun _ => False) := by
  refine k_metR (by decide) rfl (Nat.le_of_ble_eq_true rfl) ?_
  intro Γ G E
  unfold wp_X6_seal at h
  have inX0 : ∀ w ∈ wsX00, w ∈ wsX6_seal := by decide +kernel
  have inX6 : ∀ w ∈ wsX60, w ∈ wsX6_seal := by decide +kernel
  have lk_27 := G.2.2.2.2.1 (.fieldLink RX6 27 "FreshShares" "circle" "LFreshShares$Circle;") (by decide +kernel)
  show k_J Γ rm_X6_seal 2 true (wC a cI cO gI) 0 [(0, .ref (a 0)), (1, .int p1)] [] σ
  refine r_aload_n G dX6_seal_0 0 rfl rfl ?_
  refine r_get G inX6 0 2 wC_0 rfl (by decide) lk_27 rfl rfl dX6_seal_1 ?_
  refine r_cVR G (ci := 0) (cq := (RX0, TX0, 12)) [] [] (c_X0_isDealt (k_l Γ) (k_D Γ) a cI cO gI _ _ h) 4 rfl wC_4 (cwV 0 G.2.2.2.2.1 gX6_seal_X0_isDealt rfl rfl rfl hdv_X0_isDealt ⟨Nat.le_of_ble_eq_true rfl, Nat.le_of_ble_eq_true rfl⟩) [0, 1] rfl (fun _ hP => hP) rfl rfl (Nat.le_of_ble_eq_true rfl) dX6_seal_4 (fun r_4 h => ?_)
  have hz_4 := h.1
  replace h := h.2
  refine r_if_ne G 13 dX6_seal_7 (by decide) (fun hc => ?_) (fun hc => ?_)
  · replace h := h.2 hc
    refine r_iload_n G dX6_seal_13 1 rfl rfl ?_
    refine r_if_lt G 33 dX6_seal_14 (by decide) (fun hc => ?_) (fun hc => ?_)
    · replace h := h.1 hc
      refine r_bipush G (-6 : Int32) dX6_seal_33 kb_m6 ?_
      exact r_iretR G E dX6_seal_35 h
    · replace h := h.2 hc
      refine r_iload_n G dX6_seal_17 1 rfl rfl ?_
      refine r_iconst G (5 : Int32) dX6_seal_18 kc_5 ?_
      refine r_icmp_ge G 33 dX6_seal_19 (by decide) (fun hc => ?_) (fun hc => ?_)
      · replace h := h.1 hc
        refine r_bipush G (-6 : Int32) dX6_seal_33 kb_m6 ?_
        exact r_iretR G E dX6_seal_35 h
      · replace h := h.2 hc
        refine r_iload_n G dX6_seal_22 1 rfl rfl ?_
        refine r_aload_n G dX6_seal_23 0 rfl rfl ?_
        refine r_get G inX6 0 2 wC_0 rfl (by decide) lk_27 rfl rfl dX6_seal_24 ?_
        refine r_getN G inX0 4 7 wC_4 rfl (by decide) (G.2.2.2.2.2.2.at 20 rfl rfl) rfl rfl dX6_seal_27 ?_
        refine r_icmp_lt G 36 dX6_seal_30 (by decide) (fun hc => ?_) (fun hc => ?_)
        · replace h := h.1 hc
          refine r_aload_n G dX6_seal_36 0 rfl rfl ?_
          refine r_get G inX6 0 2 wC_0 rfl (by decide) lk_27 rfl rfl dX6_seal_37 ?_
          refine r_getN G inX0 4 3 wC_4 rfl (by decide) (G.2.2.2.2.2.2.at 14 rfl rfl) rfl rfl dX6_seal_40 ?_
          refine r_iload_n G dX6_seal_43 1 rfl rfl ?_
          refine r_iald G 8 0 wC_8 rfl h.1 dX6_seal_44 ?_
          replace h := h.2
          exact r_iretR G E dX6_seal_45 h
        · replace h := h.2 hc
          refine r_bipush G (-6 : Int32) dX6_seal_33 kb_m6 ?_
          exact r_iretR G E dX6_seal_35 h
  · replace h := h.1 hc
    refine r_bipush G (-3 : Int32) dX6_seal_10 kb_m3 ?_
    exact r_iretR G E dX6_seal_12 h
