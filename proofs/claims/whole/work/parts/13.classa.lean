def wp_J7_fill_53178_7 (σ : k_M) (p1 : Int32) (Q : k_M → Prop) : Prop :=
  (k_lp2 (fun (B_5 : Int32 → k_M → Prop) (x2_5 : Int32) (σ_5 : k_M) => (((8 : Int32) ≤ x2_5 → Q σ_5) ∧ (¬ (8 : Int32) ≤ x2_5 → (vp_in x2_5 8 ∧ B_5 (x2_5 + (1 : Int32)) (k_put σ_5 7 x2_5.toNatClampNeg p1))))) (0 : Int32) σ)
abbrev rm_J7_fill_53178 : Room := { frames := 0, cells := 0, slots := 0, locals := 0 }
theorem hd_J7_fill_53178 : yJ7_fill_53178.cls ≠ "java/lang/invoke/MethodHandle" ∧ yJ7_fill_53178.cls ≠ "java/lang/invoke/VarHandle" ∧ (parseMethodDescriptor yJ7_fill_53178.desc).map (fun d => d.parameters.length) = some 2 := by decide +kernel
theorem hdv_J7_fill_53178 : yJ7_fill_53178.cls = RJ7 ∧ yJ7_fill_53178.cls ≠ "java/lang/invoke/MethodHandle" ∧ yJ7_fill_53178.cls ≠ "java/lang/invoke/VarHandle" ∧ (parseMethodDescriptor yJ7_fill_53178.desc).map (fun d => d.parameters.length) = some 2 := ⟨rfl, hd_J7_fill_53178⟩
set_option maxHeartbeats 4000000 in
set_option maxRecDepth 100000 in
theorem c_J7_fill_53178_7 (l : Launch) (D : va_G) (a : Nat → Nat) (cI cO : ClassId) (gI : Nat → Option Nat) (σ : k_M) (p1 : Int32) (Q : k_M → Prop) (h : wp_J7_fill_53178_7 σ p1 Q) : Met l yJ7_fill_53178 wsJ7_fill_53178 rm_J7_fill_53178 (k_PW D [(cI, .int), (cO, .object "FreshShares$Circle")] (wC a cI cO gI) σ [.ref (a 7), .int p1]) (k_Qv D (wC a cI cO gI) Q) 0 0 (k_wA (wC a cI cO gI)) := by
  refine k_metW (Qc := fun D => k_Qv D (wC a cI cO gI) Q) (by decide) rfl (Nat.le_of_ble_eq_true rfl) ?_
  intro Γ G hD E
  unfold wp_J7_fill_53178_7 at h
  show k_J Γ rm_J7_fill_53178 4 false (wC a cI cO gI) 0 [(0, .ref (a 7)), (1, .int p1)] [] σ
  refine r_iconst G (0 : Int32) dJ7_fill_53178_0 kc_0 ?_
  refine r_istore_n (lv' := [(2, .int (0 : Int32)), (0, .ref (a 7)), (1, .int p1)]) G dJ7_fill_53178_1 rfl (by decide) rfl ?_
  refine r_aload_n G dJ7_fill_53178_2 1 rfl rfl ?_
  refine r_alen G 7 0 (8 : Int32) wC_7 rfl ka_8 dJ7_fill_53178_3 ?_
  refine r_istore_n (lv' := [(3, .int (8 : Int32)), (2, .int (0 : Int32)), (0, .ref (a 7)), (1, .int p1)]) G dJ7_fill_53178_4 rfl (by decide) rfl ?_
  obtain ⟨I_5, n_5, h, hI_5⟩ := h
  have key_5 : ∀ (n : Nat) (x2_5 : Int32) (σ_5 : k_M), I_5 n x2_5 σ_5 → k_J Γ rm_J7_fill_53178 4 false (wC a cI cO gI) 5 [(0, .ref (a 7)), (1, .int p1), (2, .int x2_5), (3, .int (8 : Int32))] [] σ_5 := by
    intro n
    induction n using Nat.strongRecOn with
    | ind n ih_5 =>
      intro x2_5 σ_5 h
      replace h := hI_5 n x2_5 σ_5 h
      refine r_iload_n G dJ7_fill_53178_5 2 rfl rfl ?_
      refine r_iload_n G dJ7_fill_53178_6 3 rfl rfl ?_
      refine r_icmp_ge G 20 dJ7_fill_53178_7 (by decide) (fun hc => ?_) (fun hc => ?_)
      · replace h := h.1 hc
        exact r_vretW G E dJ7_fill_53178_20 h
      · replace h := h.2 hc
        refine r_aload_n G dJ7_fill_53178_10 0 rfl rfl ?_
        refine r_iload_n G dJ7_fill_53178_11 2 rfl rfl ?_
        refine r_iload_n G dJ7_fill_53178_12 1 rfl rfl ?_
        refine r_iast G hD 7 0 wC_7 rfl h.1 _ wC_7_s dJ7_fill_53178_13 ?_
        replace h := h.2
        refine r_iinc (lv' := [(2, .int (x2_5 + (1 : Int32))), (0, .ref (a 7)), (1, .int p1), (3, .int (8 : Int32))]) G 2 dJ7_fill_53178_14 kc_1 rfl (by decide) rfl ?_
        refine r_goto G 5 dJ7_fill_53178_17 (by decide) ?_
        obtain ⟨m_5, hm_5, h⟩ := h
        exact r_sub [1, 2, 0, 3] rfl (ih_5 m_5 hm_5 _ _ h)
  exact r_sub [2, 3, 1, 0] rfl (key_5 n_5 _ _ h)
def wp_J7_fill_53178_8 (σ : k_M) (p1 : Int32) (Q : k_M → Prop) : Prop :=
  (k_lp2 (fun (B_5 : Int32 → k_M → Prop) (x2_5 : Int32) (σ_5 : k_M) => (((5 : Int32) ≤ x2_5 → Q σ_5) ∧ (¬ (5 : Int32) ≤ x2_5 → (vp_in x2_5 5 ∧ B_5 (x2_5 + (1 : Int32)) (k_put σ_5 8 x2_5.toNatClampNeg p1))))) (0 : Int32) σ)
set_option maxHeartbeats 4000000 in
set_option maxRecDepth 100000 in
theorem c_J7_fill_53178_8 (l : Launch) (D : va_G) (a : Nat → Nat) (cI cO : ClassId) (gI : Nat → Option Nat) (σ : k_M) (p1 : Int32) (Q : k_M → Prop) (h : wp_J7_fill_53178_8 σ p1 Q) : Met l yJ7_fill_53178 wsJ7_fill_53178 rm_J7_fill_53178 (k_PW D [(cI, .int), (cO, .object "FreshShares$Circle")] (wC a cI cO gI) σ [.ref (a 8), .int p1]) (k_Qv D (wC a cI cO gI) Q) 0 0 (k_wA (wC a cI cO gI)) := by
  refine k_metW (Qc := fun D => k_Qv D (wC a cI cO gI) Q) (by decide) rfl (Nat.le_of_ble_eq_true rfl) ?_
  intro Γ G hD E
  unfold wp_J7_fill_53178_8 at h
  show k_J Γ rm_J7_fill_53178 4 false (wC a cI cO gI) 0 [(0, .ref (a 8)), (1, .int p1)] [] σ
  refine r_iconst G (0 : Int32) dJ7_fill_53178_0 kc_0 ?_
  refine r_istore_n (lv' := [(2, .int (0 : Int32)), (0, .ref (a 8)), (1, .int p1)]) G dJ7_fill_53178_1 rfl (by decide) rfl ?_
  refine r_aload_n G dJ7_fill_53178_2 1 rfl rfl ?_
  refine r_alen G 8 0 (5 : Int32) wC_8 rfl ka_5 dJ7_fill_53178_3 ?_
  refine r_istore_n (lv' := [(3, .int (5 : Int32)), (2, .int (0 : Int32)), (0, .ref (a 8)), (1, .int p1)]) G dJ7_fill_53178_4 rfl (by decide) rfl ?_
  obtain ⟨I_5, n_5, h, hI_5⟩ := h
  have key_5 : ∀ (n : Nat) (x2_5 : Int32) (σ_5 : k_M), I_5 n x2_5 σ_5 → k_J Γ rm_J7_fill_53178 4 false (wC a cI cO gI) 5 [(0, .ref (a 8)), (1, .int p1), (2, .int x2_5), (3, .int (5 : Int32))] [] σ_5 := by
    intro n
    induction n using Nat.strongRecOn with
    | ind n ih_5 =>
      intro x2_5 σ_5 h
      replace h := hI_5 n x2_5 σ_5 h
      refine r_iload_n G dJ7_fill_53178_5 2 rfl rfl ?_
      refine r_iload_n G dJ7_fill_53178_6 3 rfl rfl ?_
      refine r_icmp_ge G 20 dJ7_fill_53178_7 (by decide) (fun hc => ?_) (fun hc => ?_)
      · replace h := h.1 hc
        exact r_vretW G E dJ7_fill_53178_20 h
      · replace h := h.2 hc
        refine r_aload_n G dJ7_fill_53178_10 0 rfl rfl ?_
        refine r_iload_n G dJ7_fill_53178_11 2 rfl rfl ?_
        refine r_iload_n G dJ7_fill_53178_12 1 rfl rfl ?_
        refine r_iast G hD 8 0 wC_8 rfl h.1 _ wC_8_s dJ7_fill_53178_13 ?_
        replace h := h.2
        refine r_iinc (lv' := [(2, .int (x2_5 + (1 : Int32))), (0, .ref (a 8)), (1, .int p1), (3, .int (5 : Int32))]) G 2 dJ7_fill_53178_14 kc_1 rfl (by decide) rfl ?_
        refine r_goto G 5 dJ7_fill_53178_17 (by decide) ?_
        obtain ⟨m_5, hm_5, h⟩ := h
        exact r_sub [1, 2, 0, 3] rfl (ih_5 m_5 hm_5 _ _ h)
  exact r_sub [2, 3, 1, 0] rfl (key_5 n_5 _ _ h)
abbrev rm_X0_isLastEpoch : Room := { frames := 0, cells := 0, slots := 0, locals := 0 }
def wp_X0_isLastEpoch (σ : k_M) (Q : Int32 → Prop) : Prop :=
  (((σ 4 8) < (199 : Int32) → Q (0 : Int32)) ∧ (¬ (σ 4 8) < (199 : Int32) → Q (1 : Int32)))
theorem hd_X0_isLastEpoch : yX0_isLastEpoch.cls ≠ "java/lang/invoke/MethodHandle" ∧ yX0_isLastEpoch.cls ≠ "java/lang/invoke/VarHandle" ∧ (parseMethodDescriptor yX0_isLastEpoch.desc).map (fun d => d.parameters.length) = some 0 := by decide +kernel
theorem hdv_X0_isLastEpoch : yX0_isLastEpoch.cls = RX0 ∧ yX0_isLastEpoch.cls ≠ "java/lang/invoke/MethodHandle" ∧ yX0_isLastEpoch.cls ≠ "java/lang/invoke/VarHandle" ∧ (parseMethodDescriptor yX0_isLastEpoch.desc).map (fun d => d.parameters.length) = some 0 := ⟨rfl, hd_X0_isLastEpoch⟩
set_option maxHeartbeats 4000000 in
set_option maxRecDepth 100000 in
theorem c_X0_isLastEpoch (l : Launch) (D : va_G) (a : Nat → Nat) (cI cO : ClassId) (gI : Nat → Option Nat) (σ : k_M) (Q : Int32 → Prop) (h : wp_X0_isLastEpoch σ  Q) : Met l yX0_isLastEpoch wsX0_isLastEpoch rm_X0_isLastEpoch (k_PR D [(cI, .int), (cO, .object "FreshShares$Circle")] (wC a cI cO gI) σ [.ref (a 4)]) (vp_Si (fun r => (r = 0 ∨ r = 1) ∧ Q r)) 0 0 (fun _ => False) := by
  refine k_metR (by decide) rfl (Nat.le_of_ble_eq_true rfl) ?_
  intro Γ G E
  unfold wp_X0_isLastEpoch at h
  have inX0 : ∀ w ∈ wsX00, w ∈ wsX0_isLastEpoch := by decide +kernel
  have lk_41 := G.2.2.2.2.1 (.fieldLink RX0 41 "FreshShares$Circle" "epoch" "I") (by decide +kernel)
  show k_J Γ rm_X0_isLastEpoch 1 true (wC a cI cO gI) 0 [(0, .ref (a 4))] [] σ
  refine r_aload_n G dX0_isLastEpoch_0 0 rfl rfl ?_
  refine r_get G inX0 4 8 wC_4 rfl (by decide) lk_41 rfl rfl dX0_isLastEpoch_1 ?_
  refine r_sipush G (199 : Int32) dX0_isLastEpoch_4 ks_199 ?_
  refine r_icmp_lt G 14 dX0_isLastEpoch_7 (by decide) (fun hc => ?_) (fun hc => ?_)
  · replace h := h.1 hc
    refine r_iconst G (0 : Int32) dX0_isLastEpoch_14 kc_0 ?_
    exact r_zretR G E kz_0 dX0_isLastEpoch_15 ⟨kzo_0, h⟩
  · replace h := h.2 hc
    refine r_iconst G (1 : Int32) dX0_isLastEpoch_10 kc_1 ?_
    refine r_goto G 15 dX0_isLastEpoch_11 (by decide) ?_
    exact r_zretR G E kz_1 dX0_isLastEpoch_15 ⟨kzo_1, h⟩
abbrev rm_X0_beginEpoch : Room := { frames := 1, cells := 0, slots := 0, locals := 20 }
def wp_X0_beginEpoch (σ : k_M) (p1 : Int32) (Q : k_M → Prop) : Prop :=
  wp_X0_isLastEpoch σ (fun (r_1 : Int32) => ((r_1 = 0 → (vp_in ((k_put (k_put σ 4 8 ((σ 4 8) + (1 : Int32))) 4 7 p1) 4 8) 200 ∧ Q (k_put (k_put (k_put σ 4 8 ((σ 4 8) + (1 : Int32))) 4 7 p1) 9 ((k_put (k_put σ 4 8 ((σ 4 8) + (1 : Int32))) 4 7 p1) 4 8).toNatClampNeg p1))) ∧ (¬ r_1 = 0 → Q σ)))
theorem hd_X0_beginEpoch : yX0_beginEpoch.cls ≠ "java/lang/invoke/MethodHandle" ∧ yX0_beginEpoch.cls ≠ "java/lang/invoke/VarHandle" ∧ (parseMethodDescriptor yX0_beginEpoch.desc).map (fun d => d.parameters.length) = some 1 := by decide +kernel
theorem hdv_X0_beginEpoch : yX0_beginEpoch.cls = RX0 ∧ yX0_beginEpoch.cls ≠ "java/lang/invoke/MethodHandle" ∧ yX0_beginEpoch.cls ≠ "java/lang/invoke/VarHandle" ∧ (parseMethodDescriptor yX0_beginEpoch.desc).map (fun d => d.parameters.length) = some 1 := ⟨rfl, hd_X0_beginEpoch⟩
set_option maxHeartbeats 4000000 in
set_option maxRecDepth 100000 in
theorem c_X0_beginEpoch (l : Launch) (D : va_G) (a : Nat → Nat) (cI cO : ClassId) (gI : Nat → Option Nat) (σ : k_M) (p1 : Int32) (Q : k_M → Prop) (h : wp_X0_beginEpoch σ p1 Q) : Met l yX0_beginEpoch wsX0_beginEpoch rm_X0_beginEpoch (k_PW D [(cI, .int), (cO, .object "FreshShares$Circle")] (wC a cI cO gI) σ [.ref (a 4), .int p1]) (k_Qv D (wC a cI cO gI) Q) 0 0 (k_wA (wC a cI cO gI)) := by
  refine k_metW (Qc := fun D => k_Qv D (wC a cI cO gI) Q) (by decide) rfl (Nat.le_of_ble_eq_true rfl) ?_
  intro Γ G hD E
  unfold wp_X0_beginEpoch at h
  have inX0 : ∀ w ∈ wsX00, w ∈ wsX0_beginEpoch := by decide +kernel
  have lk_24 := G.2.2.2.2.1 (.fieldLink RX0 24 "FreshShares$Circle" "thresholds" "[I") (by decide +kernel)
  have lk_38 := G.2.2.2.2.1 (.fieldLink RX0 38 "FreshShares$Circle" "threshold" "I") (by decide +kernel)
  have lk_41 := G.2.2.2.2.1 (.fieldLink RX0 41 "FreshShares$Circle" "epoch" "I") (by decide +kernel)
  show k_J Γ rm_X0_beginEpoch 2 false (wC a cI cO gI) 0 [(0, .ref (a 4)), (1, .int p1)] [] σ
  refine r_aload_n G dX0_beginEpoch_0 0 rfl rfl ?_
  refine r_cVR G (ci := 0) (cq := (RX0, TX0, 12)) [] [] (c_X0_isLastEpoch (k_l Γ) (k_D Γ) a cI cO gI _ _ h) 4 rfl wC_4 (cwV 0 G.2.2.2.2.1 gX0_beginEpoch_X0_isLastEpoch rfl rfl rfl hdv_X0_isLastEpoch ⟨Nat.le_of_ble_eq_true rfl, Nat.le_of_ble_eq_true rfl⟩) [0, 1] rfl (fun _ hP => hP) rfl rfl (Nat.le_of_ble_eq_true rfl) dX0_beginEpoch_1 (fun r_1 h => ?_)
  have hz_1 := h.1
  replace h := h.2
  refine r_if_ne G 32 dX0_beginEpoch_4 (by decide) (fun hc => ?_) (fun hc => ?_)
  · replace h := h.2 hc
    exact r_vretW G E dX0_beginEpoch_32 h
  · replace h := h.1 hc
    refine r_aload_n G dX0_beginEpoch_7 0 rfl rfl ?_
    refine r_dup G rfl dX0_beginEpoch_8 ?_
    refine r_get G inX0 4 8 wC_4 rfl (by decide) lk_41 rfl rfl dX0_beginEpoch_9 ?_
    refine r_iconst G (1 : Int32) dX0_beginEpoch_12 kc_1 ?_
    refine r_iadd G dX0_beginEpoch_13 ?_
    refine r_put G hD tyX0 tyX0_ok nmX0 inX0 4 8 wC_4 rfl (by decide) lk_41 rfl rfl (ty := .int) (by decide +kernel) rfl rfl (Nat.le_of_ble_eq_true rfl) _ wC_4_8 dX0_beginEpoch_14 ?_
    refine r_aload_n G dX0_beginEpoch_17 0 rfl rfl ?_
    refine r_iload_n G dX0_beginEpoch_18 1 rfl rfl ?_
    refine r_put G hD tyX0 tyX0_ok nmX0 inX0 4 7 wC_4 rfl (by decide) lk_38 rfl rfl (ty := .int) (by decide +kernel) rfl rfl (Nat.le_of_ble_eq_true rfl) _ wC_4_7 dX0_beginEpoch_19 ?_
    refine r_aload_n G dX0_beginEpoch_22 0 rfl rfl ?_
    refine r_get G inX0 4 4 wC_4 rfl (by decide) lk_24 rfl rfl dX0_beginEpoch_23 ?_
    refine r_aload_n G dX0_beginEpoch_26 0 rfl rfl ?_
    refine r_get G inX0 4 8 wC_4 rfl (by decide) lk_41 rfl rfl dX0_beginEpoch_27 ?_
    refine r_iload_n G dX0_beginEpoch_30 1 rfl rfl ?_
    refine r_iast G hD 9 0 wC_9 rfl h.1 _ wC_9_s dX0_beginEpoch_31 ?_
    replace h := h.2
    exact r_vretW G E dX0_beginEpoch_32 h
abbrev rm_X0_bend : Room := { frames := 0, cells := 0, slots := 0, locals := 0 }
def wp_X0_bend (σ : k_M) (p1 p2 : Int32) (Q : Int32 → Prop) : Prop :=
  (vp_in ((p1 * (5 : Int32)) + p2) 40 ∧ Q ((σ 6) ((p1 * (5 : Int32)) + p2).toNatClampNeg))
theorem hd_X0_bend : yX0_bend.cls ≠ "java/lang/invoke/MethodHandle" ∧ yX0_bend.cls ≠ "java/lang/invoke/VarHandle" ∧ (parseMethodDescriptor yX0_bend.desc).map (fun d => d.parameters.length) = some 2 := by decide +kernel
theorem hdv_X0_bend : yX0_bend.cls = RX0 ∧ yX0_bend.cls ≠ "java/lang/invoke/MethodHandle" ∧ yX0_bend.cls ≠ "java/lang/invoke/VarHandle" ∧ (parseMethodDescriptor yX0_bend.desc).map (fun d => d.parameters.length) = some 2 := ⟨rfl, hd_X0_bend⟩
set_option maxHeartbeats 4000000 in
set_option maxRecDepth 100000 in
theorem c_X0_bend (l : Launch) (D : va_G) (a : Nat → Nat) (cI cO : ClassId) (gI : Nat → Option Nat) (σ : k_M) (p1 p2 : Int32) (Q : Int32 → Prop) (h : wp_X0_bend σ p1 p2 Q) : Met l yX0_bend wsX0_bend rm_X0_bend (k_PR D [(cI, .int), (cO, .object "FreshShares$Circle")] (wC a cI cO gI) σ [.ref (a 4), .int p1, .int p2]) (vp_Si Q) 0 0 (fun _ => False) := by
  refine k_metR (by decide) rfl (Nat.le_of_ble_eq_true rfl) ?_
  intro Γ G E
  unfold wp_X0_bend at h
  have inX0 : ∀ w ∈ wsX00, w ∈ wsX0_bend := by decide +kernel
  have lk_15 := G.2.2.2.2.1 (.fieldLink RX0 15 "FreshShares$Circle" "bends" "[I") (by decide +kernel)
  show k_J Γ rm_X0_bend 3 true (wC a cI cO gI) 0 [(0, .ref (a 4)), (1, .int p1), (2, .int p2)] [] σ
  refine r_aload_n G dX0_bend_0 0 rfl rfl ?_
  refine r_get G inX0 4 1 wC_4 rfl (by decide) lk_15 rfl rfl dX0_bend_1 ?_
  refine r_iload_n G dX0_bend_4 1 rfl rfl ?_
  refine r_iconst G (5 : Int32) dX0_bend_5 kc_5 ?_
  refine r_imul G dX0_bend_6 ?_
  refine r_iload_n G dX0_bend_7 2 rfl rfl ?_
  refine r_iadd G dX0_bend_8 ?_
  refine r_iald G 6 0 wC_6 rfl h.1 dX0_bend_9 ?_
  replace h := h.2
  exact r_iretR G E dX0_bend_10 h
abbrev rm_X1_victims : Room := { frames := 1, cells := 0, slots := 0, locals := 20 }
def wp_X1_victims (σ : k_M) (p1 : Int32) (Q : Int32 → Prop) : Prop :=
  (k_lp2 (fun (B_4 : Int32 → Int32 → Prop) (x2_4 : Int32) (x3_4 : Int32) => (((σ 10 3) ≤ x3_4 → Q x2_4) ∧ (¬ (σ 10 3) ≤ x3_4 → (((24 : Int32) ≤ x3_4 → Q x2_4) ∧ (¬ (24 : Int32) ≤ x3_4 → (∃ K_33 : Prop, ( K_33  → (vp_in x3_4 24 ∧ wp_X4_only ((σ 11) x3_4.toNatClampNeg) (fun (r_40 : Int32) => B_4 (x2_4 ||| r_40) (x3_4 + (1 : Int32))))) ∧ ((p1 = (-1 : Int32) → K_33) ∧ (¬ p1 = (-1 : Int32) → (vp_in x3_4 24 ∧ ((((σ 12) x3_4.toNatClampNeg) = p1 → K_33) ∧ (¬ ((σ 12) x3_4.toNatClampNeg) = p1 → B_4 x2_4 (x3_4 + (1 : Int32))))))))))))) (0 : Int32) (0 : Int32))
theorem hd_X1_victims : yX1_victims.cls ≠ "java/lang/invoke/MethodHandle" ∧ yX1_victims.cls ≠ "java/lang/invoke/VarHandle" ∧ (parseMethodDescriptor yX1_victims.desc).map (fun d => d.parameters.length) = some 1 := by decide +kernel
theorem hdv_X1_victims : yX1_victims.cls = RX1 ∧ yX1_victims.cls ≠ "java/lang/invoke/MethodHandle" ∧ yX1_victims.cls ≠ "java/lang/invoke/VarHandle" ∧ (parseMethodDescriptor yX1_victims.desc).map (fun d => d.parameters.length) = some 1 := ⟨rfl, hd_X1_victims⟩
set_option maxHeartbeats 4000000 in
set_option maxRecDepth 100000 in
theorem c_X1_victims (l : Launch) (D : va_G) (a : Nat → Nat) (cI cO : ClassId) (gI : Nat → Option Nat) (σ : k_M) (p1 : Int32) (Q : Int32 → Prop) (h : wp_X1_victims σ p1 Q) : Met l yX1_victims wsX1_victims rm_X1_victims (k_PR D [(cI, .int), (cO, .object "FreshShares$Circle")] (wC a cI cO gI) σ [.ref (a 10), .int p1]) (vp_Si Q) 0 0 (fun _ => False) := by
  refine k_metR (by decide) rfl (Nat.le_of_ble_eq_true rfl) ?_
  intro Γ G E
  unfold wp_X1_victims at h
  have inX1 : ∀ w ∈ wsX10, w ∈ wsX1_victims := by decide +kernel
  have lk_9 := G.2.2.2.2.1 (.fieldLink RX1 9 "FreshShares$Loot" "members" "[I") (by decide +kernel)
  have lk_15 := G.2.2.2.2.1 (.fieldLink RX1 15 "FreshShares$Loot" "epochs" "[I") (by decide +kernel)
  have lk_21 := G.2.2.2.2.1 (.fieldLink RX1 21 "FreshShares$Loot" "size" "I") (by decide +kernel)
  show k_J Γ rm_X1_victims 4 true (wC a cI cO gI) 0 [(0, .ref (a 10)), (1, .int p1)] [] σ
  refine r_iconst G (0 : Int32) dX1_victims_0 kc_0 ?_
  refine r_istore_n (lv' := [(2, .int (0 : Int32)), (0, .ref (a 10)), (1, .int p1)]) G dX1_victims_1 rfl (by decide) rfl ?_
  refine r_iconst G (0 : Int32) dX1_victims_2 kc_0 ?_
  refine r_istore_n (lv' := [(3, .int (0 : Int32)), (2, .int (0 : Int32)), (0, .ref (a 10)), (1, .int p1)]) G dX1_victims_3 rfl (by decide) rfl ?_
  obtain ⟨I_4, n_4, h, hI_4⟩ := h
  have key_4 : ∀ (n : Nat) (x2_4 : Int32) (x3_4 : Int32), I_4 n x2_4 x3_4 → k_J Γ rm_X1_victims 4 true (wC a cI cO gI) 4 [(0, .ref (a 10)), (1, .int p1), (2, .int x2_4), (3, .int x3_4)] [] σ := by
    intro n
    induction n using Nat.strongRecOn with
    | ind n ih_4 =>
      intro x2_4 x3_4 h
      replace h := hI_4 n x2_4 x3_4 h
      refine r_iload_n G dX1_victims_4 3 rfl rfl ?_
      refine r_aload_n G dX1_victims_5 0 rfl rfl ?_
      refine r_get G inX1 10 3 wC_10 rfl (by decide) lk_21 rfl rfl dX1_victims_6 ?_
      refine r_icmp_ge G 51 dX1_victims_9 (by decide) (fun hc => ?_) (fun hc => ?_)
      · replace h := h.1 hc
        refine r_iload_n G dX1_victims_51 2 rfl rfl ?_
        exact r_iretR G E dX1_victims_52 h
      · replace h := h.2 hc
        refine r_iload_n G dX1_victims_12 3 rfl rfl ?_
        refine r_bipush G (24 : Int32) dX1_victims_13 kb_24 ?_
        refine r_icmp_ge G 51 dX1_victims_15 (by decide) (fun hc => ?_) (fun hc => ?_)
        · replace h := h.1 hc
          refine r_iload_n G dX1_victims_51 2 rfl rfl ?_
          exact r_iretR G E dX1_victims_52 h
        · replace h := h.2 hc
          refine r_iload_n G dX1_victims_18 1 rfl rfl ?_
          refine r_iconst G (-1 : Int32) dX1_victims_19 kc_m1 ?_
          obtain ⟨K_33, hK_33, h⟩ := h
          have kj_33 :  K_33  → k_J Γ rm_X1_victims 4 true (wC a cI cO gI) 33 [(0, .ref (a 10)), (1, .int p1), (2, .int x2_4), (3, .int x3_4)] [] σ := by
            intro  h
            replace h := hK_33  h
            refine r_iload_n G dX1_victims_33 2 rfl rfl ?_
            refine r_aload_n G dX1_victims_34 0 rfl rfl ?_
            refine r_get G inX1 10 0 wC_10 rfl (by decide) lk_9 rfl rfl dX1_victims_35 ?_
            refine r_iload_n G dX1_victims_38 3 rfl rfl ?_
            refine r_iald G 11 0 wC_11 rfl h.1 dX1_victims_39 ?_
            replace h := h.2
            refine r_cSR G [.int ((σ 11) x3_4.toNatClampNeg)] [.int x2_4] (c_X4_only (k_l Γ) (k_D Γ) _ _ h) (va_cwS 1 G.2.2.2.2.1 gX1_victims_X4_only rfl rfl rfl hd_X4_only ⟨Nat.le_of_ble_eq_true rfl, Nat.le_of_ble_eq_true rfl⟩) [] rfl (fun _ _ => k_E0) rfl rfl (Nat.le_of_ble_eq_true rfl) dX1_victims_40 (fun r_40 h => ?_)
            refine r_ior G dX1_victims_43 ?_
            refine r_istore_n (lv' := [(2, .int (x2_4 ||| r_40)), (0, .ref (a 10)), (1, .int p1), (3, .int x3_4)]) G dX1_victims_44 rfl (by decide) rfl ?_
            refine r_iinc (lv' := [(3, .int (x3_4 + (1 : Int32))), (2, .int (x2_4 ||| r_40)), (0, .ref (a 10)), (1, .int p1)]) G 3 dX1_victims_45 kc_1 rfl (by decide) rfl ?_
            refine r_goto G 4 dX1_victims_48 (by decide) ?_
            obtain ⟨m_4, hm_4, h⟩ := h
            exact r_sub [2, 3, 1, 0] rfl (ih_4 m_4 hm_4 _ _ h)
          refine r_icmp_eq G 33 dX1_victims_20 (by decide) (fun hc => ?_) (fun hc => ?_)
          · replace h := h.1 hc
            exact r_sub [0, 1, 2, 3] rfl (kj_33  h)
          · replace h := h.2 hc
            refine r_aload_n G dX1_victims_23 0 rfl rfl ?_
            refine r_get G inX1 10 1 wC_10 rfl (by decide) lk_15 rfl rfl dX1_victims_24 ?_
            refine r_iload_n G dX1_victims_27 3 rfl rfl ?_
            refine r_iald G 12 0 wC_12 rfl h.1 dX1_victims_28 ?_
            replace h := h.2
            refine r_iload_n G dX1_victims_29 1 rfl rfl ?_
            refine r_icmp_ne G 45 dX1_victims_30 (by decide) (fun hc => ?_) (fun hc => ?_)
            · replace h := h.2 hc
              refine r_iinc (lv' := [(3, .int (x3_4 + (1 : Int32))), (0, .ref (a 10)), (1, .int p1), (2, .int x2_4)]) G 3 dX1_victims_45 kc_1 rfl (by decide) rfl ?_
              refine r_goto G 4 dX1_victims_48 (by decide) ?_
              obtain ⟨m_4, hm_4, h⟩ := h
              exact r_sub [1, 2, 3, 0] rfl (ih_4 m_4 hm_4 _ _ h)
            · replace h := h.1 hc
              exact r_sub [0, 1, 2, 3] rfl (kj_33  h)
  exact r_sub [2, 3, 1, 0] rfl (key_4 n_4 _ _ h)
abbrev rm_X0_wasEpoch : Room := { frames := 0, cells := 0, slots := 0, locals := 0 }
def wp_X0_wasEpoch (σ : k_M) (p1 : Int32) (Q : Int32 → Prop) : Prop :=
  ((p1 < 0 → Q (0 : Int32)) ∧ (¬ p1 < 0 → (((σ 4 8) < p1 → Q (0 : Int32)) ∧ (¬ (σ 4 8) < p1 → (((200 : Int32) ≤ p1 → Q (0 : Int32)) ∧ (¬ (200 : Int32) ≤ p1 → Q (1 : Int32)))))))
theorem hd_X0_wasEpoch : yX0_wasEpoch.cls ≠ "java/lang/invoke/MethodHandle" ∧ yX0_wasEpoch.cls ≠ "java/lang/invoke/VarHandle" ∧ (parseMethodDescriptor yX0_wasEpoch.desc).map (fun d => d.parameters.length) = some 1 := by decide +kernel
theorem hdv_X0_wasEpoch : yX0_wasEpoch.cls = RX0 ∧ yX0_wasEpoch.cls ≠ "java/lang/invoke/MethodHandle" ∧ yX0_wasEpoch.cls ≠ "java/lang/invoke/VarHandle" ∧ (parseMethodDescriptor yX0_wasEpoch.desc).map (fun d => d.parameters.length) = some 1 := ⟨rfl, hd_X0_wasEpoch⟩
set_option maxHeartbeats 4000000 in
set_option maxRecDepth 100000 in
theorem c_X0_wasEpoch (l : Launch) (D : va_G) (a : Nat → Nat) (cI cO : ClassId) (gI : Nat → Option Nat) (σ : k_M) (p1 : Int32) (Q : Int32 → Prop) (h : wp_X0_wasEpoch σ p1 Q) : Met l yX0_wasEpoch wsX0_wasEpoch rm_X0_wasEpoch (k_PR D [(cI, .int), (cO, .object "FreshShares$Circle")] (wC a cI cO gI) σ [.ref (a 4), .int p1]) (vp_Si (fun r => (r = 0 ∨ r = 1) ∧ Q r)) 0 0 (fun _ => False) := by
  refine k_metR (by decide) rfl (Nat.le_of_ble_eq_true rfl) ?_
  intro Γ G E
  unfold wp_X0_wasEpoch at h
  have inX0 : ∀ w ∈ wsX00, w ∈ wsX0_wasEpoch := by decide +kernel
  have lk_41 := G.2.2.2.2.1 (.fieldLink RX0 41 "FreshShares$Circle" "epoch" "I") (by decide +kernel)
  show k_J Γ rm_X0_wasEpoch 2 true (wC a cI cO gI) 0 [(0, .ref (a 4)), (1, .int p1)] [] σ
  refine r_iload_n G dX0_wasEpoch_0 1 rfl rfl ?_
  refine r_if_lt G 23 dX0_wasEpoch_1 (by decide) (fun hc => ?_) (fun hc => ?_)
  · replace h := h.1 hc
    refine r_iconst G (0 : Int32) dX0_wasEpoch_23 kc_0 ?_
    exact r_zretR G E kz_0 dX0_wasEpoch_24 ⟨kzo_0, h⟩
  · replace h := h.2 hc
    refine r_iload_n G dX0_wasEpoch_4 1 rfl rfl ?_
    refine r_aload_n G dX0_wasEpoch_5 0 rfl rfl ?_
    refine r_get G inX0 4 8 wC_4 rfl (by decide) lk_41 rfl rfl dX0_wasEpoch_6 ?_
    refine r_icmp_gt G 23 dX0_wasEpoch_9 (by decide) (fun hc => ?_) (fun hc => ?_)
    · replace h := h.1 hc
      refine r_iconst G (0 : Int32) dX0_wasEpoch_23 kc_0 ?_
      exact r_zretR G E kz_0 dX0_wasEpoch_24 ⟨kzo_0, h⟩
    · replace h := h.2 hc
      refine r_iload_n G dX0_wasEpoch_12 1 rfl rfl ?_
      refine r_sipush G (200 : Int32) dX0_wasEpoch_13 ks_200 ?_
      refine r_icmp_ge G 23 dX0_wasEpoch_16 (by decide) (fun hc => ?_) (fun hc => ?_)
      · replace h := h.1 hc
        refine r_iconst G (0 : Int32) dX0_wasEpoch_23 kc_0 ?_
        exact r_zretR G E kz_0 dX0_wasEpoch_24 ⟨kzo_0, h⟩
      · replace h := h.2 hc
        refine r_iconst G (1 : Int32) dX0_wasEpoch_19 kc_1 ?_
        refine r_goto G 24 dX0_wasEpoch_20 (by decide) ?_
        exact r_zretR G E kz_1 dX0_wasEpoch_24 ⟨kzo_1, h⟩
abbrev rm_X0_thresholdOf : Room := { frames := 1, cells := 0, slots := 0, locals := 21 }
def wp_X0_thresholdOf (σ : k_M) (p1 : Int32) (Q : Int32 → Prop) : Prop :=
  wp_X0_wasEpoch σ p1 (fun (r_2 : Int32) => ((r_2 = 0 → Q (0 : Int32)) ∧ (¬ r_2 = 0 → (vp_in p1 200 ∧ Q ((σ 9) p1.toNatClampNeg)))))
theorem hd_X0_thresholdOf : yX0_thresholdOf.cls ≠ "java/lang/invoke/MethodHandle" ∧ yX0_thresholdOf.cls ≠ "java/lang/invoke/VarHandle" ∧ (parseMethodDescriptor yX0_thresholdOf.desc).map (fun d => d.parameters.length) = some 1 := by decide +kernel
theorem hdv_X0_thresholdOf : yX0_thresholdOf.cls = RX0 ∧ yX0_thresholdOf.cls ≠ "java/lang/invoke/MethodHandle" ∧ yX0_thresholdOf.cls ≠ "java/lang/invoke/VarHandle" ∧ (parseMethodDescriptor yX0_thresholdOf.desc).map (fun d => d.parameters.length) = some 1 := ⟨rfl, hd_X0_thresholdOf⟩
set_option maxHeartbeats 4000000 in
set_option maxRecDepth 100000 in
theorem c_X0_thresholdOf (l : Launch) (D : va_G) (a : Nat → Nat) (cI cO : ClassId) (gI : Nat → Option Nat) (σ : k_M) (p1 : Int32) (Q : Int32 → Prop) (h : wp_X0_thresholdOf σ p1 Q) : Met l yX0_thresholdOf wsX0_thresholdOf rm_X0_thresholdOf (k_PR D [(cI, .int), (cO, .object "FreshShares$Circle")] (wC a cI cO gI) σ [.ref (a 4), .int p1]) (vp_Si Q) 0 0 (fun _ => False) := by
  refine k_metR (by decide) rfl (Nat.le_of_ble_eq_true rfl) ?_
  intro Γ G E
  unfold wp_X0_thresholdOf at h
  have inX0 : ∀ w ∈ wsX00, w ∈ wsX0_thresholdOf := by decide +kernel
  have lk_24 := G.2.2.2.2.1 (.fieldLink RX0 24 "FreshShares$Circle" "thresholds" "[I") (by decide +kernel)
  show k_J Γ rm_X0_thresholdOf 2 true (wC a cI cO gI) 0 [(0, .ref (a 4)), (1, .int p1)] [] σ
  refine r_aload_n G dX0_thresholdOf_0 0 rfl rfl ?_
  refine r_iload_n G dX0_thresholdOf_1 1 rfl rfl ?_
  refine r_cVR G (ci := 0) (cq := (RX0, TX0, 12)) [.int p1] [] (c_X0_wasEpoch (k_l Γ) (k_D Γ) a cI cO gI _ _ _ h) 4 rfl wC_4 (cwV 1 G.2.2.2.2.1 gX0_thresholdOf_X0_wasEpoch rfl rfl rfl hdv_X0_wasEpoch ⟨Nat.le_of_ble_eq_true rfl, Nat.le_of_ble_eq_true rfl⟩) [0, 1] rfl (fun _ hP => hP) rfl rfl (Nat.le_of_ble_eq_true rfl) dX0_thresholdOf_2 (fun r_2 h => ?_)
  have hz_2 := h.1
  replace h := h.2
  refine r_if_eq G 17 dX0_thresholdOf_5 (by decide) (fun hc => ?_) (fun hc => ?_)
  · replace h := h.1 hc
    refine r_iconst G (0 : Int32) dX0_thresholdOf_17 kc_0 ?_
    exact r_iretR G E dX0_thresholdOf_18 h
  · replace h := h.2 hc
    refine r_aload_n G dX0_thresholdOf_8 0 rfl rfl ?_
    refine r_get G inX0 4 4 wC_4 rfl (by decide) lk_24 rfl rfl dX0_thresholdOf_9 ?_
    refine r_iload_n G dX0_thresholdOf_12 1 rfl rfl ?_
    refine r_iald G 9 0 wC_9 rfl h.1 dX0_thresholdOf_13 ?_
    replace h := h.2
    refine r_goto G 18 dX0_thresholdOf_14 (by decide) ?_
    exact r_iretR G E dX0_thresholdOf_18 h
abbrev rm_X0_firstLostEpoch : Room := { frames := 2, cells := 0, slots := 0, locals := 43 }
def wp_X0_firstLostEpoch (σ : k_M) (Q : Int32 → Prop) : Prop :=
  (k_lp1 (fun (B_2 : Int32 → Prop) (x1_2 : Int32) => (((σ 10 3) ≤ x1_2 → Q (-6 : Int32)) ∧ (¬ (σ 10 3) ≤ x1_2 → (((24 : Int32) ≤ x1_2 → Q (-6 : Int32)) ∧ (¬ (24 : Int32) ≤ x1_2 → (vp_in x1_2 24 ∧ wp_X1_victims σ ((σ 12) x1_2.toNatClampNeg) (fun (r_34 : Int32) => wp_J6_bitCount_0f7a4 r_34 (fun (r_37 : Int32) => wp_X0_thresholdOf σ ((σ 12) x1_2.toNatClampNeg) (fun (r_42 : Int32) => ((r_37 < r_42 → B_2 (x1_2 + (1 : Int32))) ∧ (¬ r_37 < r_42 → Q ((σ 12) x1_2.toNatClampNeg)))))))))))) (0 : Int32))
theorem hd_X0_firstLostEpoch : yX0_firstLostEpoch.cls ≠ "java/lang/invoke/MethodHandle" ∧ yX0_firstLostEpoch.cls ≠ "java/lang/invoke/VarHandle" ∧ (parseMethodDescriptor yX0_firstLostEpoch.desc).map (fun d => d.parameters.length) = some 0 := by decide +kernel
theorem hdv_X0_firstLostEpoch : yX0_firstLostEpoch.cls = RX0 ∧ yX0_firstLostEpoch.cls ≠ "java/lang/invoke/MethodHandle" ∧ yX0_firstLostEpoch.cls ≠ "java/lang/invoke/VarHandle" ∧ (parseMethodDescriptor yX0_firstLostEpoch.desc).map (fun d => d.parameters.length) = some 0 := ⟨rfl, hd_X0_firstLostEpoch⟩
set_option maxHeartbeats 4000000 in
set_option maxRecDepth 100000 in
theorem c_X0_firstLostEpoch (l : Launch) (D : va_G) (a : Nat → Nat) (cI cO : ClassId) (gI : Nat → Option Nat) (σ : k_M) (Q : Int32 → Prop) (h : wp_X0_firstLostEpoch σ  Q) : Met l yX0_firstLostEpoch wsX0_firstLostEpoch rm_X0_firstLostEpoch (k_PR D [(cI, .int), (cO, .object "FreshShares$Circle")] (wC a cI cO gI) σ [.ref (a 4)]) (vp_Si Q) 0 0 (fun _ => False) := by
  refine k_metR (by decide) rfl (Nat.le_of_ble_eq_true rfl) ?_
  intro Γ G E
  unfold wp_X0_firstLostEpoch at h
  have inX0 : ∀ w ∈ wsX00, w ∈ wsX0_firstLostEpoch := by decide +kernel
  have inX1 : ∀ w ∈ wsX10, w ∈ wsX0_firstLostEpoch := by decide +kernel
  have lk_30 := G.2.2.2.2.1 (.fieldLink RX0 30 "FreshShares$Circle" "stolen" "LFreshShares$Loot;") (by decide +kernel)
  show k_J Γ rm_X0_firstLostEpoch 3 true (wC a cI cO gI) 0 [(0, .ref (a 4))] [] σ
  refine r_iconst G (0 : Int32) dX0_firstLostEpoch_0 kc_0 ?_
  refine r_istore_n (lv' := [(1, .int (0 : Int32)), (0, .ref (a 4))]) G dX0_firstLostEpoch_1 rfl (by decide) rfl ?_
  obtain ⟨I_2, n_2, h, hI_2⟩ := h
  have key_2 : ∀ (n : Nat) (x1_2 : Int32), I_2 n x1_2 → k_J Γ rm_X0_firstLostEpoch 3 true (wC a cI cO gI) 2 [(0, .ref (a 4)), (1, .int x1_2)] [] σ := by
    intro n
    induction n using Nat.strongRecOn with
    | ind n ih_2 =>
      intro x1_2 h
      replace h := hI_2 n x1_2 h
      refine r_iload_n G dX0_firstLostEpoch_2 1 rfl rfl ?_
      refine r_aload_n G dX0_firstLostEpoch_3 0 rfl rfl ?_
      refine r_get G inX0 4 5 wC_4 rfl (by decide) lk_30 rfl rfl dX0_firstLostEpoch_4 ?_
      refine r_getN G inX1 10 3 wC_10 rfl (by decide) (G.2.2.2.2.2.2.at 6 rfl rfl) rfl rfl dX0_firstLostEpoch_7 ?_
      refine r_icmp_ge G 56 dX0_firstLostEpoch_10 (by decide) (fun hc => ?_) (fun hc => ?_)
      · replace h := h.1 hc
        refine r_bipush G (-6 : Int32) dX0_firstLostEpoch_56 kb_m6 ?_
        exact r_iretR G E dX0_firstLostEpoch_58 h
      · replace h := h.2 hc
        refine r_iload_n G dX0_firstLostEpoch_13 1 rfl rfl ?_
        refine r_bipush G (24 : Int32) dX0_firstLostEpoch_14 kb_24 ?_
        refine r_icmp_ge G 56 dX0_firstLostEpoch_16 (by decide) (fun hc => ?_) (fun hc => ?_)
        · replace h := h.1 hc
          refine r_bipush G (-6 : Int32) dX0_firstLostEpoch_56 kb_m6 ?_
          exact r_iretR G E dX0_firstLostEpoch_58 h
        · replace h := h.2 hc
          refine r_aload_n G dX0_firstLostEpoch_19 0 rfl rfl ?_
          refine r_get G inX0 4 5 wC_4 rfl (by decide) lk_30 rfl rfl dX0_firstLostEpoch_20 ?_
          refine r_getN G inX1 10 1 wC_10 rfl (by decide) (G.2.2.2.2.2.2.at 2 rfl rfl) rfl rfl dX0_firstLostEpoch_23 ?_
          refine r_iload_n G dX0_firstLostEpoch_26 1 rfl rfl ?_
          refine r_iald G 12 0 wC_12 rfl h.1 dX0_firstLostEpoch_27 ?_
          replace h := h.2
          refine r_istore_n (lv' := [(2, .int ((σ 12) x1_2.toNatClampNeg)), (0, .ref (a 4)), (1, .int x1_2)]) G dX0_firstLostEpoch_28 rfl (by decide) rfl ?_
          refine r_aload_n G dX0_firstLostEpoch_29 1 rfl rfl ?_
          refine r_get G inX0 4 5 wC_4 rfl (by decide) lk_30 rfl rfl dX0_firstLostEpoch_30 ?_
          refine r_iload_n G dX0_firstLostEpoch_33 0 rfl rfl ?_
          refine r_cVR G (ci := 1) (cq := (RX1, TX1, 4)) [.int ((σ 12) x1_2.toNatClampNeg)] [] (c_X1_victims (k_l Γ) (k_D Γ) a cI cO gI _ _ _ h) 10 rfl wC_10 (cwV 1 G.2.2.2.2.1 gX0_firstLostEpoch_X1_victims rfl rfl rfl hdv_X1_victims ⟨Nat.le_of_ble_eq_true rfl, Nat.le_of_ble_eq_true rfl⟩) [0, 1] rfl (fun _ hP => hP) rfl rfl (Nat.le_of_ble_eq_true rfl) dX0_firstLostEpoch_34 (fun r_34 h => ?_)
          refine r_cSR G [.int r_34] [] (c_J6_bitCount_0f7a4 (k_l Γ) (k_D Γ) _ _ h) (va_cwS 1 G.2.2.2.2.1 gX0_firstLostEpoch_J6_bitCount_0f7a4 rfl rfl rfl hd_J6_bitCount_0f7a4 ⟨Nat.le_of_ble_eq_true rfl, Nat.le_of_ble_eq_true rfl⟩) [] rfl (fun _ _ => k_E0) rfl rfl (Nat.le_of_ble_eq_true rfl) dX0_firstLostEpoch_37 (fun r_37 h => ?_)
          refine r_aload_n G dX0_firstLostEpoch_40 1 rfl rfl ?_
          refine r_iload_n G dX0_firstLostEpoch_41 0 rfl rfl ?_
          refine r_cVR G (ci := 0) (cq := (RX0, TX0, 12)) [.int ((σ 12) x1_2.toNatClampNeg)] [.int r_37] (c_X0_thresholdOf (k_l Γ) (k_D Γ) a cI cO gI _ _ _ h) 4 rfl wC_4 (cwV 1 G.2.2.2.2.1 gX0_firstLostEpoch_X0_thresholdOf rfl rfl rfl hdv_X0_thresholdOf ⟨Nat.le_of_ble_eq_true rfl, Nat.le_of_ble_eq_true rfl⟩) [0, 1] rfl (fun _ hP => hP) rfl rfl (Nat.le_of_ble_eq_true rfl) dX0_firstLostEpoch_42 (fun r_42 h => ?_)
          refine r_icmp_lt G 50 dX0_firstLostEpoch_45 (by decide) (fun hc => ?_) (fun hc => ?_)
          · replace h := h.1 hc
            refine r_iinc (lv' := [(1, .int (x1_2 + (1 : Int32))), (2, .int ((σ 12) x1_2.toNatClampNeg)), (0, .ref (a 4))]) G 2 dX0_firstLostEpoch_50 kc_1 rfl (by decide) rfl ?_
            refine r_goto G 2 dX0_firstLostEpoch_53 (by decide) ?_
            obtain ⟨m_2, hm_2, h⟩ := h
            exact r_sub [2, 0] rfl (ih_2 m_2 hm_2 _ h)
          · replace h := h.2 hc
            refine r_iload_n G dX0_firstLostEpoch_48 0 rfl rfl ?_
            exact r_iretR G E dX0_firstLostEpoch_49 h
  exact r_sub [1, 0] rfl (key_2 n_2 _ h)
abbrev rm_X0_isDealt : Room := { frames := 0, cells := 0, slots := 0, locals := 0 }
def wp_X0_isDealt (σ : k_M) (Q : Int32 → Prop) : Prop :=
  (((σ 4 8) < 0 → Q (0 : Int32)) ∧ (¬ (σ 4 8) < 0 → Q (1 : Int32)))
theorem hd_X0_isDealt : yX0_isDealt.cls ≠ "java/lang/invoke/MethodHandle" ∧ yX0_isDealt.cls ≠ "java/lang/invoke/VarHandle" ∧ (parseMethodDescriptor yX0_isDealt.desc).map (fun d => d.parameters.length) = some 0 := by decide +kernel
theorem hdv_X0_isDealt : yX0_isDealt.cls = RX0 ∧ yX0_isDealt.cls ≠ "java/lang/invoke/MethodHandle" ∧ yX0_isDealt.cls ≠ "java/lang/invoke/VarHandle" ∧ (parseMethodDescriptor yX0_isDealt.desc).map (fun d => d.parameters.length) = some 0 := ⟨rfl, hd_X0_isDealt⟩
set_option maxHeartbeats 4000000 in
set_option maxRecDepth 100000 in
theorem c_X0_isDealt (l : Launch) (D : va_G) (a : Nat → Nat) (cI cO : ClassId) (gI : Nat → Option Nat) (σ : k_M) (Q : Int32 → Prop) (h : wp_X0_isDealt σ  Q) : Met l yX0_isDealt wsX0_isDealt rm_X0_isDealt (k_PR D [(cI, .int), (cO, .object "FreshShares$Circle")] (wC a cI cO gI) σ [.ref (a 4)]) (vp_Si (fun r => (r = 0 ∨ r = 1) ∧ Q r)) 0 0 (fun _ => False) := by
  refine k_metR (by decide) rfl (Nat.le_of_ble_eq_true rfl) ?_
  intro Γ G E
  unfold wp_X0_isDealt at h
  have inX0 : ∀ w ∈ wsX00, w ∈ wsX0_isDealt := by decide +kernel
  have lk_41 := G.2.2.2.2.1 (.fieldLink RX0 41 "FreshShares$Circle" "epoch" "I") (by decide +kernel)
  show k_J Γ rm_X0_isDealt 1 true (wC a cI cO gI) 0 [(0, .ref (a 4))] [] σ
  refine r_aload_n G dX0_isDealt_0 0 rfl rfl ?_
  refine r_get G inX0 4 8 wC_4 rfl (by decide) lk_41 rfl rfl dX0_isDealt_1 ?_
  refine r_if_lt G 11 dX0_isDealt_4 (by decide) (fun hc => ?_) (fun hc => ?_)
  · replace h := h.1 hc
    refine r_iconst G (0 : Int32) dX0_isDealt_11 kc_0 ?_
    exact r_zretR G E kz_0 dX0_isDealt_12 ⟨kzo_0, h⟩
  · replace h := h.2 hc
    refine r_iconst G (1 : Int32) dX0_isDealt_7 kc_1 ?_
    refine r_goto G 12 dX0_isDealt_8 (by decide) ?_
    exact r_zretR G E kz_1 dX0_isDealt_12 ⟨kzo_1, h⟩
abbrev rm_X0_tells : Room := { frames := 1, cells := 0, slots := 0, locals := 22 }
def wp_X0_tells (σ : k_M) (p1 : Int32) (Q : Int32 → Prop) : Prop :=
  (vp_in p1 8 ∧ wp_X0_bend σ p1 (0 : Int32) (fun (r_9 : Int32) => wp_X5_plus ((σ 7) p1.toNatClampNeg) r_9 (fun (r_12 : Int32) => Q r_12)))
theorem hd_X0_tells : yX0_tells.cls ≠ "java/lang/invoke/MethodHandle" ∧ yX0_tells.cls ≠ "java/lang/invoke/VarHandle" ∧ (parseMethodDescriptor yX0_tells.desc).map (fun d => d.parameters.length) = some 1 := by decide +kernel
theorem hdv_X0_tells : yX0_tells.cls = RX0 ∧ yX0_tells.cls ≠ "java/lang/invoke/MethodHandle" ∧ yX0_tells.cls ≠ "java/lang/invoke/VarHandle" ∧ (parseMethodDescriptor yX0_tells.desc).map (fun d => d.parameters.length) = some 1 := ⟨rfl, hd_X0_tells⟩
set_option maxHeartbeats 4000000 in
set_option maxRecDepth 100000 in
theorem c_X0_tells (l : Launch) (D : va_G) (a : Nat → Nat) (cI cO : ClassId) (gI : Nat → Option Nat) (σ : k_M) (p1 : Int32) (Q : Int32 → Prop) (h : wp_X0_tells σ p1 Q) : Met l yX0_tells wsX0_tells rm_X0_tells (k_PR D [(cI, .int), (cO, .object "FreshShares$Circle")] (wC a cI cO gI) σ [.ref (a 4), .int p1]) (vp_Si Q) 0 0 (fun _ => False) := by
  refine k_metR (by decide) rfl (Nat.le_of_ble_eq_true rfl) ?_
  intro Γ G E
  unfold wp_X0_tells at h
  have inX0 : ∀ w ∈ wsX00, w ∈ wsX0_tells := by decide +kernel
  have lk_18 := G.2.2.2.2.1 (.fieldLink RX0 18 "FreshShares$Circle" "shares" "[I") (by decide +kernel)
  show k_J Γ rm_X0_tells 2 true (wC a cI cO gI) 0 [(0, .ref (a 4)), (1, .int p1)] [] σ
  refine r_aload_n G dX0_tells_0 0 rfl rfl ?_
  refine r_get G inX0 4 2 wC_4 rfl (by decide) lk_18 rfl rfl dX0_tells_1 ?_
  refine r_iload_n G dX0_tells_4 1 rfl rfl ?_
  refine r_iald G 7 0 wC_7 rfl h.1 dX0_tells_5 ?_
  replace h := h.2
  refine r_aload_n G dX0_tells_6 0 rfl rfl ?_
  refine r_iload_n G dX0_tells_7 1 rfl rfl ?_
  refine r_iconst G (0 : Int32) dX0_tells_8 kc_0 ?_
  refine r_cVR G (ci := 0) (cq := (RX0, TX0, 12)) [.int p1, .int (0 : Int32)] [.int ((σ 7) p1.toNatClampNeg)] (c_X0_bend (k_l Γ) (k_D Γ) a cI cO gI _ _ _ _ h) 4 rfl wC_4 (cwV 2 G.2.2.2.2.1 gX0_tells_X0_bend rfl rfl rfl hdv_X0_bend ⟨Nat.le_of_ble_eq_true rfl, Nat.le_of_ble_eq_true rfl⟩) [0, 1] rfl (fun _ hP => hP) rfl rfl (Nat.le_of_ble_eq_true rfl) dX0_tells_9 (fun r_9 h => ?_)
  refine r_cSR G [.int ((σ 7) p1.toNatClampNeg), .int r_9] [] (c_X5_plus (k_l Γ) (k_D Γ) _ _ _ h) (va_cwS 2 G.2.2.2.2.1 gX0_tells_X5_plus rfl rfl rfl hd_X5_plus ⟨Nat.le_of_ble_eq_true rfl, Nat.le_of_ble_eq_true rfl⟩) [] rfl (fun _ _ => k_E0) rfl rfl (Nat.le_of_ble_eq_true rfl) dX0_tells_12 (fun r_12 h => ?_)
  exact r_iretR G E dX0_tells_15 h
abbrev rm_X1_isFull : Room := { frames := 0, cells := 0, slots := 0, locals := 0 }
def wp_X1_isFull (σ : k_M) (Q : Int32 → Prop) : Prop :=
  (((σ 10 3) < 0 → Q (1 : Int32)) ∧ (¬ (σ 10 3) < 0 → (((σ 10 3) < (24 : Int32) → Q (0 : Int32)) ∧ (¬ (σ 10 3) < (24 : Int32) → Q (1 : Int32)))))
theorem hd_X1_isFull : yX1_isFull.cls ≠ "java/lang/invoke/MethodHandle" ∧ yX1_isFull.cls ≠ "java/lang/invoke/VarHandle" ∧ (parseMethodDescriptor yX1_isFull.desc).map (fun d => d.parameters.length) = some 0 := by decide +kernel
theorem hdv_X1_isFull : yX1_isFull.cls = RX1 ∧ yX1_isFull.cls ≠ "java/lang/invoke/MethodHandle" ∧ yX1_isFull.cls ≠ "java/lang/invoke/VarHandle" ∧ (parseMethodDescriptor yX1_isFull.desc).map (fun d => d.parameters.length) = some 0 := ⟨rfl, hd_X1_isFull⟩
set_option maxHeartbeats 4000000 in
set_option maxRecDepth 100000 in
theorem c_X1_isFull (l : Launch) (D : va_G) (a : Nat → Nat) (cI cO : ClassId) (gI : Nat → Option Nat) (σ : k_M) (Q : Int32 → Prop) (h : wp_X1_isFull σ  Q) : Met l yX1_isFull wsX1_isFull rm_X1_isFull (k_PR D [(cI, .int), (cO, .object "FreshShares$Circle")] (wC a cI cO gI) σ [.ref (a 10)]) (vp_Si (fun r => (r = 0 ∨ r = 1) ∧ Q r)) 0 0 (fun _ => False) := by
  refine k_metR (by decide) rfl (Nat.le_of_ble_eq_true rfl) ?_
  intro Γ G E
  unfold wp_X1_isFull at h
  have inX1 : ∀ w ∈ wsX10, w ∈ wsX1_isFull := by decide +kernel
  have lk_21 := G.2.2.2.2.1 (.fieldLink RX1 21 "FreshShares$Loot" "size" "I") (by decide +kernel)
  show k_J Γ rm_X1_isFull 1 true (wC a cI cO gI) 0 [(0, .ref (a 10))] [] σ
  refine r_aload_n G dX1_isFull_0 0 rfl rfl ?_
  refine r_get G inX1 10 3 wC_10 rfl (by decide) lk_21 rfl rfl dX1_isFull_1 ?_
  refine r_if_lt G 16 dX1_isFull_4 (by decide) (fun hc => ?_) (fun hc => ?_)
  · replace h := h.1 hc
    refine r_iconst G (1 : Int32) dX1_isFull_16 kc_1 ?_
    refine r_goto G 21 dX1_isFull_17 (by decide) ?_
    exact r_zretR G E kz_1 dX1_isFull_21 ⟨kzo_1, h⟩
  · replace h := h.2 hc
    refine r_aload_n G dX1_isFull_7 0 rfl rfl ?_
    refine r_get G inX1 10 3 wC_10 rfl (by decide) lk_21 rfl rfl dX1_isFull_8 ?_
    refine r_bipush G (24 : Int32) dX1_isFull_11 kb_24 ?_
    refine r_icmp_lt G 20 dX1_isFull_13 (by decide) (fun hc => ?_) (fun hc => ?_)
    · replace h := h.1 hc
      refine r_iconst G (0 : Int32) dX1_isFull_20 kc_0 ?_
      exact r_zretR G E kz_0 dX1_isFull_21 ⟨kzo_0, h⟩
    · replace h := h.2 hc
      refine r_iconst G (1 : Int32) dX1_isFull_16 kc_1 ?_
      refine r_goto G 21 dX1_isFull_17 (by decide) ?_
      exact r_zretR G E kz_1 dX1_isFull_21 ⟨kzo_1, h⟩
abbrev rm_X1_add : Room := { frames := 1, cells := 0, slots := 0, locals := 20 }
def wp_X1_add (σ : k_M) (p1 p2 p3 : Int32) (Q : k_M → Prop) : Prop :=
  wp_X1_isFull σ (fun (r_1 : Int32) => ((r_1 = 0 → (vp_in (σ 10 3) 24 ∧ (vp_in ((k_put σ 11 (σ 10 3).toNatClampNeg p1) 10 3) 24 ∧ (vp_in ((k_put (k_put σ 11 (σ 10 3).toNatClampNeg p1) 12 ((k_put σ 11 (σ 10 3).toNatClampNeg p1) 10 3).toNatClampNeg p2) 10 3) 24 ∧ Q (k_put (k_put (k_put (k_put σ 11 (σ 10 3).toNatClampNeg p1) 12 ((k_put σ 11 (σ 10 3).toNatClampNeg p1) 10 3).toNatClampNeg p2) 13 ((k_put (k_put σ 11 (σ 10 3).toNatClampNeg p1) 12 ((k_put σ 11 (σ 10 3).toNatClampNeg p1) 10 3).toNatClampNeg p2) 10 3).toNatClampNeg p3) 10 3 (((k_put (k_put (k_put σ 11 (σ 10 3).toNatClampNeg p1) 12 ((k_put σ 11 (σ 10 3).toNatClampNeg p1) 10 3).toNatClampNeg p2) 13 ((k_put (k_put σ 11 (σ 10 3).toNatClampNeg p1) 12 ((k_put σ 11 (σ 10 3).toNatClampNeg p1) 10 3).toNatClampNeg p2) 10 3).toNatClampNeg p3) 10 3) + (1 : Int32))))))) ∧ (¬ r_1 = 0 → Q σ)))
theorem hd_X1_add : yX1_add.cls ≠ "java/lang/invoke/MethodHandle" ∧ yX1_add.cls ≠ "java/lang/invoke/VarHandle" ∧ (parseMethodDescriptor yX1_add.desc).map (fun d => d.parameters.length) = some 3 := by decide +kernel
theorem hdv_X1_add : yX1_add.cls = RX1 ∧ yX1_add.cls ≠ "java/lang/invoke/MethodHandle" ∧ yX1_add.cls ≠ "java/lang/invoke/VarHandle" ∧ (parseMethodDescriptor yX1_add.desc).map (fun d => d.parameters.length) = some 3 := ⟨rfl, hd_X1_add⟩
set_option maxHeartbeats 4000000 in
set_option maxRecDepth 100000 in
theorem c_X1_add (l : Launch) (D : va_G) (a : Nat → Nat) (cI cO : ClassId) (gI : Nat → Option Nat) (σ : k_M) (p1 p2 p3 : Int32) (Q : k_M → Prop) (h : wp_X1_add σ p1 p2 p3 Q) : Met l yX1_add wsX1_add rm_X1_add (k_PW D [(cI, .int), (cO, .object "FreshShares$Circle")] (wC a cI cO gI) σ [.ref (a 10), .int p1, .int p2, .int p3]) (k_Qv D (wC a cI cO gI) Q) 0 0 (k_wA (wC a cI cO gI)) := by
  refine k_metW (Qc := fun D => k_Qv D (wC a cI cO gI) Q) (by decide) rfl (Nat.le_of_ble_eq_true rfl) ?_
  intro Γ G hD E
  unfold wp_X1_add at h
  have inX1 : ∀ w ∈ wsX10, w ∈ wsX1_add := by decide +kernel
  have lk_9 := G.2.2.2.2.1 (.fieldLink RX1 9 "FreshShares$Loot" "members" "[I") (by decide +kernel)
  have lk_15 := G.2.2.2.2.1 (.fieldLink RX1 15 "FreshShares$Loot" "epochs" "[I") (by decide +kernel)
  have lk_18 := G.2.2.2.2.1 (.fieldLink RX1 18 "FreshShares$Loot" "shares" "[I") (by decide +kernel)
  have lk_21 := G.2.2.2.2.1 (.fieldLink RX1 21 "FreshShares$Loot" "size" "I") (by decide +kernel)
  show k_J Γ rm_X1_add 4 false (wC a cI cO gI) 0 [(0, .ref (a 10)), (1, .int p1), (2, .int p2), (3, .int p3)] [] σ
  refine r_aload_n G dX1_add_0 0 rfl rfl ?_
  refine r_cVR G (ci := 1) (cq := (RX1, TX1, 4)) [] [] (c_X1_isFull (k_l Γ) (k_D Γ) a cI cO gI _ _ h) 10 rfl wC_10 (cwV 0 G.2.2.2.2.1 gX1_add_X1_isFull rfl rfl rfl hdv_X1_isFull ⟨Nat.le_of_ble_eq_true rfl, Nat.le_of_ble_eq_true rfl⟩) [0, 1] rfl (fun _ hP => hP) rfl rfl (Nat.le_of_ble_eq_true rfl) dX1_add_1 (fun r_1 h => ?_)
  have hz_1 := h.1
  replace h := h.2
  refine r_if_eq G 8 dX1_add_4 (by decide) (fun hc => ?_) (fun hc => ?_)
  · replace h := h.1 hc
    refine r_aload_n G dX1_add_8 0 rfl rfl ?_
    refine r_get G inX1 10 0 wC_10 rfl (by decide) lk_9 rfl rfl dX1_add_9 ?_
    refine r_aload_n G dX1_add_12 0 rfl rfl ?_
    refine r_get G inX1 10 3 wC_10 rfl (by decide) lk_21 rfl rfl dX1_add_13 ?_
    refine r_iload_n G dX1_add_16 1 rfl rfl ?_
    refine r_iast G hD 11 0 wC_11 rfl h.1 _ wC_11_s dX1_add_17 ?_
    replace h := h.2
    refine r_aload_n G dX1_add_18 0 rfl rfl ?_
    refine r_get G inX1 10 1 wC_10 rfl (by decide) lk_15 rfl rfl dX1_add_19 ?_
    refine r_aload_n G dX1_add_22 0 rfl rfl ?_
    refine r_get G inX1 10 3 wC_10 rfl (by decide) lk_21 rfl rfl dX1_add_23 ?_
    refine r_iload_n G dX1_add_26 2 rfl rfl ?_
    refine r_iast G hD 12 0 wC_12 rfl h.1 _ wC_12_s dX1_add_27 ?_
    replace h := h.2
    refine r_aload_n G dX1_add_28 0 rfl rfl ?_
    refine r_get G inX1 10 2 wC_10 rfl (by decide) lk_18 rfl rfl dX1_add_29 ?_
    refine r_aload_n G dX1_add_32 0 rfl rfl ?_
    refine r_get G inX1 10 3 wC_10 rfl (by decide) lk_21 rfl rfl dX1_add_33 ?_
    refine r_iload_n G dX1_add_36 3 rfl rfl ?_
    refine r_iast G hD 13 0 wC_13 rfl h.1 _ wC_13_s dX1_add_37 ?_
    replace h := h.2
    refine r_aload_n G dX1_add_38 0 rfl rfl ?_
    refine r_dup G rfl dX1_add_39 ?_
    refine r_get G inX1 10 3 wC_10 rfl (by decide) lk_21 rfl rfl dX1_add_40 ?_
    refine r_iconst G (1 : Int32) dX1_add_43 kc_1 ?_
    refine r_iadd G dX1_add_44 ?_
    refine r_put G hD tyX1 tyX1_ok nmX1 inX1 10 3 wC_10 rfl (by decide) lk_21 rfl rfl (ty := .int) (by decide +kernel) rfl rfl (Nat.le_of_ble_eq_true rfl) _ wC_10_3 dX1_add_45 ?_
    exact r_vretW G E dX1_add_48 h
  · replace h := h.2 hc
    exact r_vretW G E dX1_add_7 h
abbrev rm_X1_firstShare : Room := { frames := 0, cells := 0, slots := 0, locals := 0 }
def wp_X1_firstShare (σ : k_M) (p1 p2 : Int32) (Q : Int32 → Prop) : Prop :=
  (k_lp1 (fun (B_2 : Int32 → Prop) (x3_2 : Int32) => (((σ 10 3) ≤ x3_2 → Q (0 : Int32)) ∧ (¬ (σ 10 3) ≤ x3_2 → (((24 : Int32) ≤ x3_2 → Q (0 : Int32)) ∧ (¬ (24 : Int32) ≤ x3_2 → (vp_in x3_2 24 ∧ ((((σ 11) x3_2.toNatClampNeg) = p1 → ((p2 = (-1 : Int32) → (vp_in x3_2 24 ∧ Q ((σ 13) x3_2.toNatClampNeg))) ∧ (¬ p2 = (-1 : Int32) → (vp_in x3_2 24 ∧ ((((σ 12) x3_2.toNatClampNeg) = p2 → (vp_in x3_2 24 ∧ Q ((σ 13) x3_2.toNatClampNeg))) ∧ (¬ ((σ 12) x3_2.toNatClampNeg) = p2 → B_2 (x3_2 + (1 : Int32)))))))) ∧ (¬ ((σ 11) x3_2.toNatClampNeg) = p1 → B_2 (x3_2 + (1 : Int32)))))))))) (0 : Int32))
theorem hd_X1_firstShare : yX1_firstShare.cls ≠ "java/lang/invoke/MethodHandle" ∧ yX1_firstShare.cls ≠ "java/lang/invoke/VarHandle" ∧ (parseMethodDescriptor yX1_firstShare.desc).map (fun d => d.parameters.length) = some 2 := by decide +kernel
theorem hdv_X1_firstShare : yX1_firstShare.cls = RX1 ∧ yX1_firstShare.cls ≠ "java/lang/invoke/MethodHandle" ∧ yX1_firstShare.cls ≠ "java/lang/invoke/VarHandle" ∧ (parseMethodDescriptor yX1_firstShare.desc).map (fun d => d.parameters.length) = some 2 := ⟨rfl, hd_X1_firstShare⟩
set_option maxHeartbeats 4000000 in
set_option maxRecDepth 100000 in
theorem c_X1_firstShare (l : Launch) (D : va_G) (a : Nat → Nat) (cI cO : ClassId) (gI : Nat → Option Nat) (σ : k_M) (p1 p2 : Int32) (Q : Int32 → Prop) (h : wp_X1_firstShare σ p1 p2 Q) : Met l yX1_firstShare wsX1_firstShare rm_X1_firstShare (k_PR D [(cI, .int), (cO, .object "FreshShares$Circle")] (wC a cI cO gI) σ [.ref (a 10), .int p1, .int p2]) (vp_Si Q) 0 0 (fun _ => False) := by
  refine k_metR (by decide) rfl (Nat.le_of_ble_eq_true rfl) ?_
  intro Γ G E
  unfold wp_X1_firstShare at h
  have inX1 : ∀ w ∈ wsX10, w ∈ wsX1_firstShare := by decide +kernel
  have lk_9 := G.2.2.2.2.1 (.fieldLink RX1 9 "FreshShares$Loot" "members" "[I") (by decide +kernel)
  have lk_15 := G.2.2.2.2.1 (.fieldLink RX1 15 "FreshShares$Loot" "epochs" "[I") (by decide +kernel)
  have lk_18 := G.2.2.2.2.1 (.fieldLink RX1 18 "FreshShares$Loot" "shares" "[I") (by decide +kernel)
  have lk_21 := G.2.2.2.2.1 (.fieldLink RX1 21 "FreshShares$Loot" "size" "I") (by decide +kernel)
  show k_J Γ rm_X1_firstShare 4 true (wC a cI cO gI) 0 [(0, .ref (a 10)), (1, .int p1), (2, .int p2)] [] σ
  refine r_iconst G (0 : Int32) dX1_firstShare_0 kc_0 ?_
  refine r_istore_n (lv' := [(3, .int (0 : Int32)), (0, .ref (a 10)), (1, .int p1), (2, .int p2)]) G dX1_firstShare_1 rfl (by decide) rfl ?_
  obtain ⟨I_2, n_2, h, hI_2⟩ := h
  have key_2 : ∀ (n : Nat) (x3_2 : Int32), I_2 n x3_2 → k_J Γ rm_X1_firstShare 4 true (wC a cI cO gI) 2 [(0, .ref (a 10)), (1, .int p1), (2, .int p2), (3, .int x3_2)] [] σ := by
    intro n
    induction n using Nat.strongRecOn with
    | ind n ih_2 =>
      intro x3_2 h
      replace h := hI_2 n x3_2 h
      refine r_iload_n G dX1_firstShare_2 3 rfl rfl ?_
      refine r_aload_n G dX1_firstShare_3 0 rfl rfl ?_
      refine r_get G inX1 10 3 wC_10 rfl (by decide) lk_21 rfl rfl dX1_firstShare_4 ?_
      refine r_icmp_ge G 54 dX1_firstShare_7 (by decide) (fun hc => ?_) (fun hc => ?_)
      · replace h := h.1 hc
        refine r_iconst G (0 : Int32) dX1_firstShare_54 kc_0 ?_
        exact r_iretR G E dX1_firstShare_55 h
      · replace h := h.2 hc
        refine r_iload_n G dX1_firstShare_10 3 rfl rfl ?_
        refine r_bipush G (24 : Int32) dX1_firstShare_11 kb_24 ?_
        refine r_icmp_ge G 54 dX1_firstShare_13 (by decide) (fun hc => ?_) (fun hc => ?_)
        · replace h := h.1 hc
          refine r_iconst G (0 : Int32) dX1_firstShare_54 kc_0 ?_
          exact r_iretR G E dX1_firstShare_55 h
        · replace h := h.2 hc
          refine r_aload_n G dX1_firstShare_16 0 rfl rfl ?_
          refine r_get G inX1 10 0 wC_10 rfl (by decide) lk_9 rfl rfl dX1_firstShare_17 ?_
          refine r_iload_n G dX1_firstShare_20 3 rfl rfl ?_
          refine r_iald G 11 0 wC_11 rfl h.1 dX1_firstShare_21 ?_
          replace h := h.2
          refine r_iload_n G dX1_firstShare_22 1 rfl rfl ?_
          refine r_icmp_ne G 48 dX1_firstShare_23 (by decide) (fun hc => ?_) (fun hc => ?_)
          · replace h := h.2 hc
            refine r_iinc (lv' := [(3, .int (x3_2 + (1 : Int32))), (0, .ref (a 10)), (1, .int p1), (2, .int p2)]) G 3 dX1_firstShare_48 kc_1 rfl (by decide) rfl ?_
            refine r_goto G 2 dX1_firstShare_51 (by decide) ?_
            obtain ⟨m_2, hm_2, h⟩ := h
            exact r_sub [1, 2, 3, 0] rfl (ih_2 m_2 hm_2 _ h)
          · replace h := h.1 hc
            refine r_iload_n G dX1_firstShare_26 2 rfl rfl ?_
            refine r_iconst G (-1 : Int32) dX1_firstShare_27 kc_m1 ?_
            refine r_icmp_eq G 41 dX1_firstShare_28 (by decide) (fun hc => ?_) (fun hc => ?_)
            · replace h := h.1 hc
              refine r_aload_n G dX1_firstShare_41 0 rfl rfl ?_
              refine r_get G inX1 10 2 wC_10 rfl (by decide) lk_18 rfl rfl dX1_firstShare_42 ?_
              refine r_iload_n G dX1_firstShare_45 3 rfl rfl ?_
              refine r_iald G 13 0 wC_13 rfl h.1 dX1_firstShare_46 ?_
              replace h := h.2
              exact r_iretR G E dX1_firstShare_47 h
            · replace h := h.2 hc
              refine r_aload_n G dX1_firstShare_31 0 rfl rfl ?_
              refine r_get G inX1 10 1 wC_10 rfl (by decide) lk_15 rfl rfl dX1_firstShare_32 ?_
              refine r_iload_n G dX1_firstShare_35 3 rfl rfl ?_
              refine r_iald G 12 0 wC_12 rfl h.1 dX1_firstShare_36 ?_
              replace h := h.2
              refine r_iload_n G dX1_firstShare_37 2 rfl rfl ?_
              refine r_icmp_ne G 48 dX1_firstShare_38 (by decide) (fun hc => ?_) (fun hc => ?_)
              · replace h := h.2 hc
                refine r_iinc (lv' := [(3, .int (x3_2 + (1 : Int32))), (0, .ref (a 10)), (1, .int p1), (2, .int p2)]) G 3 dX1_firstShare_48 kc_1 rfl (by decide) rfl ?_
                refine r_goto G 2 dX1_firstShare_51 (by decide) ?_
                obtain ⟨m_2, hm_2, h⟩ := h
                exact r_sub [1, 2, 3, 0] rfl (ih_2 m_2 hm_2 _ h)
              · replace h := h.1 hc
                refine r_aload_n G dX1_firstShare_41 0 rfl rfl ?_
                refine r_get G inX1 10 2 wC_10 rfl (by decide) lk_18 rfl rfl dX1_firstShare_42 ?_
                refine r_iload_n G dX1_firstShare_45 3 rfl rfl ?_
                refine r_iald G 13 0 wC_13 rfl h.1 dX1_firstShare_46 ?_
                replace h := h.2
                exact r_iretR G E dX1_firstShare_47 h
  exact r_sub [1, 2, 3, 0] rfl (key_2 n_2 _ h)
abbrev rm_X2_closeEpoch : Room := { frames := 2, cells := 0, slots := 0, locals := 41 }
def wp_X2_closeEpoch (σ : k_M) (p1 : Int32) (Q : Int32 → k_M → Prop) : Prop :=
  wp_X0_beginEpoch σ p1 (fun (σ_5 : k_M) => wp_J6_bitCount_0f7a4 ((k_put σ_5 4 6 ((σ_5 4 6) &&& ((σ_5 4 10) ^^^ (-1 : Int32)))) 4 6) (fun (r_36 : Int32) => Q r_36 (k_put σ_5 4 6 ((σ_5 4 6) &&& ((σ_5 4 10) ^^^ (-1 : Int32))))))
theorem hd_X2_closeEpoch : yX2_closeEpoch.cls ≠ "java/lang/invoke/MethodHandle" ∧ yX2_closeEpoch.cls ≠ "java/lang/invoke/VarHandle" ∧ (parseMethodDescriptor yX2_closeEpoch.desc).map (fun d => d.parameters.length) = some 1 := by decide +kernel
theorem hdv_X2_closeEpoch : yX2_closeEpoch.cls = RX2 ∧ yX2_closeEpoch.cls ≠ "java/lang/invoke/MethodHandle" ∧ yX2_closeEpoch.cls ≠ "java/lang/invoke/VarHandle" ∧ (parseMethodDescriptor yX2_closeEpoch.desc).map (fun d => d.parameters.length) = some 1 := ⟨rfl, hd_X2_closeEpoch⟩
set_option maxHeartbeats 4000000 in
set_option maxRecDepth 100000 in
theorem c_X2_closeEpoch (l : Launch) (D : va_G) (a : Nat → Nat) (cI cO : ClassId) (gI : Nat → Option Nat) (σ : k_M) (p1 : Int32) (Q : Int32 → k_M → Prop) (h : wp_X2_closeEpoch σ p1 Q) : Met l yX2_closeEpoch wsX2_closeEpoch rm_X2_closeEpoch (k_PW D [(cI, .int), (cO, .object "FreshShares$Circle")] (wC a cI cO gI) σ [.ref (a 3), .int p1]) (k_Qi D (wC a cI cO gI) Q) 0 0 (k_wA (wC a cI cO gI)) := by
  refine k_metW (Qc := fun D => k_Qi D (wC a cI cO gI) Q) (by decide) rfl (Nat.le_of_ble_eq_true rfl) ?_
  intro Γ G hD E
  unfold wp_X2_closeEpoch at h
  have inX0 : ∀ w ∈ wsX00, w ∈ wsX2_closeEpoch := by decide +kernel
  have inX2 : ∀ w ∈ wsX20, w ∈ wsX2_closeEpoch := by decide +kernel
  have lk_12 := G.2.2.2.2.1 (.fieldLink RX2 12 "FreshShares$Orders" "circle" "LFreshShares$Circle;") (by decide +kernel)
  show k_J Γ rm_X2_closeEpoch 2 false (wC a cI cO gI) 0 [(0, .ref (a 3)), (1, .int p1)] [] σ
  refine r_aload_n G dX2_closeEpoch_0 0 rfl rfl ?_
  refine r_get G inX2 3 0 wC_3 rfl (by decide) lk_12 rfl rfl dX2_closeEpoch_1 ?_
  refine r_iload_n G dX2_closeEpoch_4 1 rfl rfl ?_
  refine r_cVWv G hD (ci := 0) (cq := (RX0, TX0, 12)) [.int p1] [] (c_X0_beginEpoch (k_l Γ) (k_D Γ) a cI cO gI _ _ _ h) 4 rfl wC_4 (cwV 1 G.2.2.2.2.1 gX2_closeEpoch_X0_beginEpoch rfl rfl rfl hdv_X0_beginEpoch ⟨Nat.le_of_ble_eq_true rfl, Nat.le_of_ble_eq_true rfl⟩) [0, 1] rfl rfl rfl (Nat.le_of_ble_eq_true rfl) dX2_closeEpoch_5 (fun σ_5 h => ?_)
  refine r_aload_n G dX2_closeEpoch_8 0 rfl rfl ?_
  refine r_get G inX2 3 0 wC_3 rfl (by decide) lk_12 rfl rfl dX2_closeEpoch_9 ?_
  refine r_dup G rfl dX2_closeEpoch_12 ?_
  refine r_getN G inX0 4 6 wC_4 rfl (by decide) (G.2.2.2.2.2.2.at 17 rfl rfl) rfl rfl dX2_closeEpoch_13 ?_
  refine r_aload_n G dX2_closeEpoch_16 0 rfl rfl ?_
  refine r_get G inX2 3 0 wC_3 rfl (by decide) lk_12 rfl rfl dX2_closeEpoch_17 ?_
  refine r_getN G inX0 4 10 wC_4 rfl (by decide) (G.2.2.2.2.2.2.at 25 rfl rfl) rfl rfl dX2_closeEpoch_20 ?_
  refine r_iconst G (-1 : Int32) dX2_closeEpoch_23 kc_m1 ?_
  refine r_ixor G dX2_closeEpoch_24 ?_
  refine r_iand G dX2_closeEpoch_25 ?_
  refine r_putN G hD tyX0 tyX0_ok nmX0 inX0 4 6 wC_4 rfl (by decide) (G.2.2.2.2.2.2.at 17 rfl rfl) rfl rfl (ty := .int) (by decide +kernel) rfl rfl (Nat.le_of_ble_eq_true rfl) _ wC_4_6 dX2_closeEpoch_26 ?_
  refine r_aload_n G dX2_closeEpoch_29 0 rfl rfl ?_
  refine r_get G inX2 3 0 wC_3 rfl (by decide) lk_12 rfl rfl dX2_closeEpoch_30 ?_
  refine r_getN G inX0 4 6 wC_4 rfl (by decide) (G.2.2.2.2.2.2.at 17 rfl rfl) rfl rfl dX2_closeEpoch_33 ?_
  refine r_cSR G [.int ((k_put σ_5 4 6 ((σ_5 4 6) &&& ((σ_5 4 10) ^^^ (-1 : Int32)))) 4 6)] [] (c_J6_bitCount_0f7a4 (k_l Γ) (k_D Γ) _ _ h) (va_cwS 1 G.2.2.2.2.1 gX2_closeEpoch_J6_bitCount_0f7a4 rfl rfl rfl hd_J6_bitCount_0f7a4 ⟨Nat.le_of_ble_eq_true rfl, Nat.le_of_ble_eq_true rfl⟩) [] rfl (fun _ _ => k_E0) rfl rfl (Nat.le_of_ble_eq_true rfl) dX2_closeEpoch_36 (fun r_36 h => ?_)
  exact r_iretW G E dX2_closeEpoch_39 h
abbrev rm_X2_polynomialAt : Room := { frames := 1, cells := 0, slots := 0, locals := 21 }
def wp_X2_polynomialAt (f : Nat → Int32) (p1 p2 p3 : Int32) (Q : Int32 → Prop) : Prop :=
  (k_lp2 (fun (B_12 : Int32 → Int32 → Prop) (x4_12 : Int32) (x5_12 : Int32) => ((x5_12 < 0 → Q x4_12) ∧ (¬ x5_12 < 0 → (∃ K_45 : Int32 → Prop, (∀ (y0_45 : Int32), K_45 y0_45 → wp_X5_times x4_12 p3 (fun (r_50 : Int32) => wp_X5_plus r_50 y0_45 (fun (r_55 : Int32) => B_12 r_55 (x5_12 + (-1 : Int32))))) ∧ (∃ K_44 : Prop, ( K_44  → K_45 (0 : Int32)) ∧ ((((p1 * (5 : Int32)) + x5_12) < 0 → K_44) ∧ (¬ ((p1 * (5 : Int32)) + x5_12) < 0 → (((40 : Int32) ≤ ((p1 * (5 : Int32)) + x5_12) → K_44) ∧ (¬ (40 : Int32) ≤ ((p1 * (5 : Int32)) + x5_12) → (vp_in ((p1 * (5 : Int32)) + x5_12) 40 ∧ K_45 (f ((p1 * (5 : Int32)) + x5_12).toNatClampNeg))))))))))) (0 : Int32) ((if (5 : Int32) < p2 then (5 : Int32) else p2) - (1 : Int32)))
theorem hd_X2_polynomialAt : yX2_polynomialAt.cls ≠ "java/lang/invoke/MethodHandle" ∧ yX2_polynomialAt.cls ≠ "java/lang/invoke/VarHandle" ∧ (parseMethodDescriptor yX2_polynomialAt.desc).map (fun d => d.parameters.length) = some 4 := by decide +kernel
theorem hdv_X2_polynomialAt : yX2_polynomialAt.cls = RX2 ∧ yX2_polynomialAt.cls ≠ "java/lang/invoke/MethodHandle" ∧ yX2_polynomialAt.cls ≠ "java/lang/invoke/VarHandle" ∧ (parseMethodDescriptor yX2_polynomialAt.desc).map (fun d => d.parameters.length) = some 4 := ⟨rfl, hd_X2_polynomialAt⟩
set_option maxHeartbeats 4000000 in
set_option maxRecDepth 100000 in
theorem c_X2_polynomialAt_5 (l : Launch) (D : va_G) (a : Nat → Nat) (cI cO : ClassId) (gI : Nat → Option Nat) (σ : k_M) (p1 p2 p3 : Int32) (Q : Int32 → Prop) (h : wp_X2_polynomialAt (σ 5) p1 p2 p3 Q) : Met l yX2_polynomialAt wsX2_polynomialAt rm_X2_polynomialAt (k_PR D [(cI, .int), (cO, .object "FreshShares$Circle")] (wC a cI cO gI) σ [.ref (a 5), .int p1, .int p2, .int p3]) (vp_Si Q) 0 0 (fun _ => False) := by
  refine k_metR (by decide) rfl (Nat.le_of_ble_eq_true rfl) ?_
  intro Γ G E
  unfold wp_X2_polynomialAt at h
  show k_J Γ rm_X2_polynomialAt 8 true (wC a cI cO gI) 0 [(0, .ref (a 5)), (1, .int p1), (2, .int p2), (3, .int p3)] [] σ
  refine r_iconst G (0 : Int32) dX2_polynomialAt_0 kc_0 ?_
  refine r_istore (lv' := [(4, .int (0 : Int32)), (0, .ref (a 5)), (1, .int p1), (2, .int p2), (3, .int p3)]) G dX2_polynomialAt_1 (by decide) rfl ?_
  refine r_iload_n G dX2_polynomialAt_3 3 rfl rfl ?_
  refine r_iconst G (5 : Int32) dX2_polynomialAt_4 kc_5 ?_
  refine r_min G (G.2.2.2.2.1 (.methodLink RX2 208 Lib.Math.min.name) (by decide +kernel)) (G.2.2.2.2.1 (.static Lib.Math.min.name) (by decide +kernel)) (G.2.2.2.2.1 (.initialized "java/lang/Math") (by decide +kernel)) (G.2.2.2.2.1 (.code Lib.Math.min.name Lib.Math.min.code 2 (some .int)) (by decide +kernel)) (Nat.le_of_ble_eq_true rfl) (Nat.le_of_ble_eq_true rfl) dX2_polynomialAt_5 ?_
  refine r_iconst G (1 : Int32) dX2_polynomialAt_8 kc_1 ?_
  refine r_isub G dX2_polynomialAt_9 ?_
  refine r_istore (lv' := [(5, .int ((if (5 : Int32) < p2 then (5 : Int32) else p2) - (1 : Int32))), (4, .int (0 : Int32)), (0, .ref (a 5)), (1, .int p1), (2, .int p2), (3, .int p3)]) G dX2_polynomialAt_10 (by decide) rfl ?_
  obtain ⟨I_12, n_12, h, hI_12⟩ := h
  have key_12 : ∀ (n : Nat) (x4_12 : Int32) (x5_12 : Int32), I_12 n x4_12 x5_12 → k_J Γ rm_X2_polynomialAt 8 true (wC a cI cO gI) 12 [(0, .ref (a 5)), (1, .int p1), (3, .int p3), (4, .int x4_12), (5, .int x5_12)] [] σ := by
    intro n
    induction n using Nat.strongRecOn with
    | ind n ih_12 =>
      intro x4_12 x5_12 h
      replace h := hI_12 n x4_12 x5_12 h
      refine r_iload G dX2_polynomialAt_12 4 rfl ?_
      refine r_if_lt G 66 dX2_polynomialAt_14 (by decide) (fun hc => ?_) (fun hc => ?_)
      · replace h := h.1 hc
        refine r_iload G dX2_polynomialAt_66 3 rfl ?_
        exact r_iretR G E dX2_polynomialAt_68 h
      · replace h := h.2 hc
        refine r_iload_n G dX2_polynomialAt_17 1 rfl rfl ?_
        refine r_iconst G (5 : Int32) dX2_polynomialAt_18 kc_5 ?_
        refine r_imul G dX2_polynomialAt_19 ?_
        refine r_iload G dX2_polynomialAt_20 4 rfl ?_
        refine r_iadd G dX2_polynomialAt_22 ?_
        refine r_istore (lv' := [(6, .int ((p1 * (5 : Int32)) + x5_12)), (0, .ref (a 5)), (1, .int p1), (3, .int p3), (4, .int x4_12), (5, .int x5_12)]) G dX2_polynomialAt_23 (by decide) rfl ?_
        refine r_iload G dX2_polynomialAt_25 0 rfl ?_
        obtain ⟨K_45, hK_45, h⟩ := h
        have kj_45 : ∀ (y0_45 : Int32), K_45 y0_45 → k_J Γ rm_X2_polynomialAt 8 true (wC a cI cO gI) 45 [(0, .ref (a 5)), (1, .int p1), (3, .int p3), (4, .int x4_12), (5, .int x5_12)] [.int y0_45] σ := by
          intro y0_45 h
          replace h := hK_45 y0_45 h
          refine r_istore (lv' := [(7, .int y0_45), (0, .ref (a 5)), (1, .int p1), (3, .int p3), (4, .int x4_12), (5, .int x5_12)]) G dX2_polynomialAt_45 (by decide) rfl ?_
          refine r_iload G dX2_polynomialAt_47 4 rfl ?_
          refine r_iload_n G dX2_polynomialAt_49 3 rfl rfl ?_
          refine r_cSR G [.int x4_12, .int p3] [] (c_X5_times (k_l Γ) (k_D Γ) _ _ _ h) (va_cwS 2 G.2.2.2.2.1 gX2_polynomialAt_X5_times rfl rfl rfl hd_X5_times ⟨Nat.le_of_ble_eq_true rfl, Nat.le_of_ble_eq_true rfl⟩) [] rfl (fun _ _ => k_E0) rfl rfl (Nat.le_of_ble_eq_true rfl) dX2_polynomialAt_50 (fun r_50 h => ?_)
          refine r_iload G dX2_polynomialAt_53 0 rfl ?_
          refine r_cSR G [.int r_50, .int y0_45] [] (c_X5_plus (k_l Γ) (k_D Γ) _ _ _ h) (va_cwS 2 G.2.2.2.2.1 gX2_polynomialAt_X5_plus rfl rfl rfl hd_X5_plus ⟨Nat.le_of_ble_eq_true rfl, Nat.le_of_ble_eq_true rfl⟩) [] rfl (fun _ _ => k_E0) rfl rfl (Nat.le_of_ble_eq_true rfl) dX2_polynomialAt_55 (fun r_55 h => ?_)
          refine r_istore (lv' := [(4, .int r_55), (7, .int y0_45), (0, .ref (a 5)), (1, .int p1), (3, .int p3), (5, .int x5_12)]) G dX2_polynomialAt_58 (by decide) rfl ?_
          refine r_iinc (lv' := [(5, .int (x5_12 + (-1 : Int32))), (4, .int r_55), (7, .int y0_45), (0, .ref (a 5)), (1, .int p1), (3, .int p3)]) G 5 dX2_polynomialAt_60 kc_m1 rfl (by decide) rfl ?_
          refine r_goto G 12 dX2_polynomialAt_63 (by decide) ?_
          obtain ⟨m_12, hm_12, h⟩ := h
          exact r_sub [3, 4, 5, 1, 0] rfl (ih_12 m_12 hm_12 _ _ h)
        obtain ⟨K_44, hK_44, h⟩ := h
        have kj_44 :  K_44  → k_J Γ rm_X2_polynomialAt 8 true (wC a cI cO gI) 44 [(0, .ref (a 5)), (1, .int p1), (3, .int p3), (4, .int x4_12), (5, .int x5_12)] [] σ := by
          intro  h
          replace h := hK_44  h
          refine r_iconst G (0 : Int32) dX2_polynomialAt_44 kc_0 ?_
          exact r_sub [0, 1, 2, 3, 4] rfl (kj_45 _ h)
        refine r_if_lt G 44 dX2_polynomialAt_27 (by decide) (fun hc => ?_) (fun hc => ?_)
        · replace h := h.1 hc
          exact r_sub [1, 2, 3, 4, 5] rfl (kj_44  h)
        · replace h := h.2 hc
          refine r_iload G dX2_polynomialAt_30 0 rfl ?_
          refine r_aload_n G dX2_polynomialAt_32 1 rfl rfl ?_
          refine r_alen G 5 0 (40 : Int32) wC_5 rfl ka_40 dX2_polynomialAt_33 ?_
          refine r_icmp_ge G 44 dX2_polynomialAt_34 (by decide) (fun hc => ?_) (fun hc => ?_)
          · replace h := h.1 hc
            exact r_sub [1, 2, 3, 4, 5] rfl (kj_44  h)
          · replace h := h.2 hc
            refine r_aload_n G dX2_polynomialAt_37 1 rfl rfl ?_
            refine r_iload G dX2_polynomialAt_38 0 rfl ?_
            refine r_iald G 5 0 wC_5 rfl h.1 dX2_polynomialAt_40 ?_
            replace h := h.2
            refine r_goto G 45 dX2_polynomialAt_41 (by decide) ?_
            exact r_sub [1, 2, 3, 4, 5] rfl (kj_45 _ h)
  exact r_sub [2, 3, 5, 1, 0] rfl (key_12 n_12 _ _ h)
set_option maxHeartbeats 4000000 in
set_option maxRecDepth 100000 in
theorem c_X2_polynomialAt_15 (l : Launch) (D : va_G) (a : Nat → Nat) (cI cO : ClassId) (gI : Nat → Option Nat) (σ : k_M) (p1 p2 p3 : Int32) (Q : Int32 → Prop) (h : wp_X2_polynomialAt (σ 15) p1 p2 p3 Q) : Met l yX2_polynomialAt wsX2_polynomialAt rm_X2_polynomialAt (k_PR D [(cI, .int), (cO, .object "FreshShares$Circle")] (wC a cI cO gI) σ [.ref (a 15), .int p1, .int p2, .int p3]) (vp_Si Q) 0 0 (fun _ => False) := by
  refine k_metR (by decide) rfl (Nat.le_of_ble_eq_true rfl) ?_
  intro Γ G E
  unfold wp_X2_polynomialAt at h
  show k_J Γ rm_X2_polynomialAt 8 true (wC a cI cO gI) 0 [(0, .ref (a 15)), (1, .int p1), (2, .int p2), (3, .int p3)] [] σ
  refine r_iconst G (0 : Int32) dX2_polynomialAt_0 kc_0 ?_
  refine r_istore (lv' := [(4, .int (0 : Int32)), (0, .ref (a 15)), (1, .int p1), (2, .int p2), (3, .int p3)]) G dX2_polynomialAt_1 (by decide) rfl ?_
  refine r_iload_n G dX2_polynomialAt_3 3 rfl rfl ?_
  refine r_iconst G (5 : Int32) dX2_polynomialAt_4 kc_5 ?_
  refine r_min G (G.2.2.2.2.1 (.methodLink RX2 208 Lib.Math.min.name) (by decide +kernel)) (G.2.2.2.2.1 (.static Lib.Math.min.name) (by decide +kernel)) (G.2.2.2.2.1 (.initialized "java/lang/Math") (by decide +kernel)) (G.2.2.2.2.1 (.code Lib.Math.min.name Lib.Math.min.code 2 (some .int)) (by decide +kernel)) (Nat.le_of_ble_eq_true rfl) (Nat.le_of_ble_eq_true rfl) dX2_polynomialAt_5 ?_
  refine r_iconst G (1 : Int32) dX2_polynomialAt_8 kc_1 ?_
  refine r_isub G dX2_polynomialAt_9 ?_
  refine r_istore (lv' := [(5, .int ((if (5 : Int32) < p2 then (5 : Int32) else p2) - (1 : Int32))), (4, .int (0 : Int32)), (0, .ref (a 15)), (1, .int p1), (2, .int p2), (3, .int p3)]) G dX2_polynomialAt_10 (by decide) rfl ?_
  obtain ⟨I_12, n_12, h, hI_12⟩ := h
  have key_12 : ∀ (n : Nat) (x4_12 : Int32) (x5_12 : Int32), I_12 n x4_12 x5_12 → k_J Γ rm_X2_polynomialAt 8 true (wC a cI cO gI) 12 [(0, .ref (a 15)), (1, .int p1), (3, .int p3), (4, .int x4_12), (5, .int x5_12)] [] σ := by
    intro n
    induction n using Nat.strongRecOn with
    | ind n ih_12 =>
      intro x4_12 x5_12 h
      replace h := hI_12 n x4_12 x5_12 h
      refine r_iload G dX2_polynomialAt_12 4 rfl ?_
      refine r_if_lt G 66 dX2_polynomialAt_14 (by decide) (fun hc => ?_) (fun hc => ?_)
      · replace h := h.1 hc
        refine r_iload G dX2_polynomialAt_66 3 rfl ?_
        exact r_iretR G E dX2_polynomialAt_68 h
      · replace h := h.2 hc
        refine r_iload_n G dX2_polynomialAt_17 1 rfl rfl ?_
        refine r_iconst G (5 : Int32) dX2_polynomialAt_18 kc_5 ?_
        refine r_imul G dX2_polynomialAt_19 ?_
        refine r_iload G dX2_polynomialAt_20 4 rfl ?_
        refine r_iadd G dX2_polynomialAt_22 ?_
        refine r_istore (lv' := [(6, .int ((p1 * (5 : Int32)) + x5_12)), (0, .ref (a 15)), (1, .int p1), (3, .int p3), (4, .int x4_12), (5, .int x5_12)]) G dX2_polynomialAt_23 (by decide) rfl ?_
        refine r_iload G dX2_polynomialAt_25 0 rfl ?_
        obtain ⟨K_45, hK_45, h⟩ := h
        have kj_45 : ∀ (y0_45 : Int32), K_45 y0_45 → k_J Γ rm_X2_polynomialAt 8 true (wC a cI cO gI) 45 [(0, .ref (a 15)), (1, .int p1), (3, .int p3), (4, .int x4_12), (5, .int x5_12)] [.int y0_45] σ := by
          intro y0_45 h
          replace h := hK_45 y0_45 h
          refine r_istore (lv' := [(7, .int y0_45), (0, .ref (a 15)), (1, .int p1), (3, .int p3), (4, .int x4_12), (5, .int x5_12)]) G dX2_polynomialAt_45 (by decide) rfl ?_
          refine r_iload G dX2_polynomialAt_47 4 rfl ?_
          refine r_iload_n G dX2_polynomialAt_49 3 rfl rfl ?_
          refine r_cSR G [.int x4_12, .int p3] [] (c_X5_times (k_l Γ) (k_D Γ) _ _ _ h) (va_cwS 2 G.2.2.2.2.1 gX2_polynomialAt_X5_times rfl rfl rfl hd_X5_times ⟨Nat.le_of_ble_eq_true rfl, Nat.le_of_ble_eq_true rfl⟩) [] rfl (fun _ _ => k_E0) rfl rfl (Nat.le_of_ble_eq_true rfl) dX2_polynomialAt_50 (fun r_50 h => ?_)
          refine r_iload G dX2_polynomialAt_53 0 rfl ?_
          refine r_cSR G [.int r_50, .int y0_45] [] (c_X5_plus (k_l Γ) (k_D Γ) _ _ _ h) (va_cwS 2 G.2.2.2.2.1 gX2_polynomialAt_X5_plus rfl rfl rfl hd_X5_plus ⟨Nat.le_of_ble_eq_true rfl, Nat.le_of_ble_eq_true rfl⟩) [] rfl (fun _ _ => k_E0) rfl rfl (Nat.le_of_ble_eq_true rfl) dX2_polynomialAt_55 (fun r_55 h => ?_)
          refine r_istore (lv' := [(4, .int r_55), (7, .int y0_45), (0, .ref (a 15)), (1, .int p1), (3, .int p3), (5, .int x5_12)]) G dX2_polynomialAt_58 (by decide) rfl ?_
          refine r_iinc (lv' := [(5, .int (x5_12 + (-1 : Int32))), (4, .int r_55), (7, .int y0_45), (0, .ref (a 15)), (1, .int p1), (3, .int p3)]) G 5 dX2_polynomialAt_60 kc_m1 rfl (by decide) rfl ?_
          refine r_goto G 12 dX2_polynomialAt_63 (by decide) ?_
          obtain ⟨m_12, hm_12, h⟩ := h
          exact r_sub [3, 4, 5, 1, 0] rfl (ih_12 m_12 hm_12 _ _ h)
        obtain ⟨K_44, hK_44, h⟩ := h
        have kj_44 :  K_44  → k_J Γ rm_X2_polynomialAt 8 true (wC a cI cO gI) 44 [(0, .ref (a 15)), (1, .int p1), (3, .int p3), (4, .int x4_12), (5, .int x5_12)] [] σ := by
          intro  h
          replace h := hK_44  h
          refine r_iconst G (0 : Int32) dX2_polynomialAt_44 kc_0 ?_
          exact r_sub [0, 1, 2, 3, 4] rfl (kj_45 _ h)
        refine r_if_lt G 44 dX2_polynomialAt_27 (by decide) (fun hc => ?_) (fun hc => ?_)
        · replace h := h.1 hc
          exact r_sub [1, 2, 3, 4, 5] rfl (kj_44  h)
        · replace h := h.2 hc
          refine r_iload G dX2_polynomialAt_30 0 rfl ?_
          refine r_aload_n G dX2_polynomialAt_32 1 rfl rfl ?_
          refine r_alen G 15 0 (40 : Int32) wC_15 rfl ka_40 dX2_polynomialAt_33 ?_
          refine r_icmp_ge G 44 dX2_polynomialAt_34 (by decide) (fun hc => ?_) (fun hc => ?_)
          · replace h := h.1 hc
            exact r_sub [1, 2, 3, 4, 5] rfl (kj_44  h)
          · replace h := h.2 hc
            refine r_aload_n G dX2_polynomialAt_37 1 rfl rfl ?_
            refine r_iload G dX2_polynomialAt_38 0 rfl ?_
            refine r_iald G 15 0 wC_15 rfl h.1 dX2_polynomialAt_40 ?_
            replace h := h.2
            refine r_goto G 45 dX2_polynomialAt_41 (by decide) ?_
            exact r_sub [1, 2, 3, 4, 5] rfl (kj_45 _ h)
  exact r_sub [2, 3, 5, 1, 0] rfl (key_12 n_12 _ _ h)
abbrev rm_X2_deal : Room := { frames := 2, cells := 0, slots := 0, locals := 48 }
def wp_X2_deal (σ : k_M) (p1 : Int32) (Q : Int32 → k_M → Prop) : Prop :=
  (k_lp2 (fun (B_2 : Int32 → k_M → Prop) (x2_2 : Int32) (σ_2 : k_M) => (∃ K_41 : Prop, ( K_41  → (k_lp2 (fun (B_43 : Int32 → k_M → Prop) (x2_43 : Int32) (σ_43 : k_M) => (((7 : Int32) < x2_43 → wp_X0_beginEpoch (k_put σ_43 4 6 (254 : Int32)) p1 (fun (σ_92 : k_M) => Q (1 : Int32) σ_92)) ∧ (¬ (7 : Int32) < x2_43 → wp_X2_polynomialAt (σ_43 5) (0 : Int32) p1 x2_43 (fun (r_67 : Int32) => (vp_in x2_43 8 ∧ B_43 (x2_43 + (1 : Int32)) (k_put σ_43 7 x2_43.toNatClampNeg r_67)))))) (1 : Int32) σ_2)) ∧ ((p1 ≤ x2_2 → K_41) ∧ (¬ p1 ≤ x2_2 → (((5 : Int32) ≤ x2_2 → K_41) ∧ (¬ (5 : Int32) ≤ x2_2 → (vp_in ((0 : Int32) + x2_2) 40 ∧ wp_X5_sealOf ((σ_2 5) ((0 : Int32) + x2_2).toNatClampNeg) (fun (r_31 : Int32) => (vp_in x2_2 5 ∧ B_2 (x2_2 + (1 : Int32)) (k_put σ_2 8 x2_2.toNatClampNeg r_31)))))))))) (0 : Int32) σ)
theorem hd_X2_deal : yX2_deal.cls ≠ "java/lang/invoke/MethodHandle" ∧ yX2_deal.cls ≠ "java/lang/invoke/VarHandle" ∧ (parseMethodDescriptor yX2_deal.desc).map (fun d => d.parameters.length) = some 1 := by decide +kernel
theorem hdv_X2_deal : yX2_deal.cls = RX2 ∧ yX2_deal.cls ≠ "java/lang/invoke/MethodHandle" ∧ yX2_deal.cls ≠ "java/lang/invoke/VarHandle" ∧ (parseMethodDescriptor yX2_deal.desc).map (fun d => d.parameters.length) = some 1 := ⟨rfl, hd_X2_deal⟩
set_option maxHeartbeats 4000000 in
set_option maxRecDepth 100000 in
theorem c_X2_deal (l : Launch) (D : va_G) (a : Nat → Nat) (cI cO : ClassId) (gI : Nat → Option Nat) (σ : k_M) (p1 : Int32) (Q : Int32 → k_M → Prop) (h : wp_X2_deal σ p1 Q) : Met l yX2_deal wsX2_deal rm_X2_deal (k_PW D [(cI, .int), (cO, .object "FreshShares$Circle")] (wC a cI cO gI) σ [.ref (a 3), .int p1]) (k_Qi D (wC a cI cO gI) Q) 0 0 (k_wA (wC a cI cO gI)) := by
  refine k_metW (Qc := fun D => k_Qi D (wC a cI cO gI) Q) (by decide) rfl (Nat.le_of_ble_eq_true rfl) ?_
  intro Γ G hD E
  unfold wp_X2_deal at h
  have inX0 : ∀ w ∈ wsX00, w ∈ wsX2_deal := by decide +kernel
  have inX2 : ∀ w ∈ wsX20, w ∈ wsX2_deal := by decide +kernel
  have lk_12 := G.2.2.2.2.1 (.fieldLink RX2 12 "FreshShares$Orders" "circle" "LFreshShares$Circle;") (by decide +kernel)
  show k_J Γ rm_X2_deal 3 false (wC a cI cO gI) 0 [(0, .ref (a 3)), (1, .int p1)] [] σ
  refine r_iconst G (0 : Int32) dX2_deal_0 kc_0 ?_
  refine r_istore_n (lv' := [(2, .int (0 : Int32)), (0, .ref (a 3)), (1, .int p1)]) G dX2_deal_1 rfl (by decide) rfl ?_
  obtain ⟨I_2, n_2, h, hI_2⟩ := h
  have key_2 : ∀ (n : Nat) (x2_2 : Int32) (σ_2 : k_M), I_2 n x2_2 σ_2 → k_J Γ rm_X2_deal 3 false (wC a cI cO gI) 2 [(0, .ref (a 3)), (1, .int p1), (2, .int x2_2)] [] σ_2 := by
    intro n
    induction n using Nat.strongRecOn with
    | ind n ih_2 =>
      intro x2_2 σ_2 h
      replace h := hI_2 n x2_2 σ_2 h
      refine r_iload_n G dX2_deal_2 2 rfl rfl ?_
      refine r_iload_n G dX2_deal_3 1 rfl rfl ?_
      obtain ⟨K_41, hK_41, h⟩ := h
      have kj_41 :  K_41  → k_J Γ rm_X2_deal 3 false (wC a cI cO gI) 41 [(0, .ref (a 3)), (1, .int p1)] [] σ_2 := by
        intro  h
        replace h := hK_41  h
        refine r_iconst G (1 : Int32) dX2_deal_41 kc_1 ?_
        refine r_istore_n (lv' := [(2, .int (1 : Int32)), (0, .ref (a 3)), (1, .int p1)]) G dX2_deal_42 rfl (by decide) rfl ?_
        obtain ⟨I_43, n_43, h, hI_43⟩ := h
        have key_43 : ∀ (n : Nat) (x2_43 : Int32) (σ_43 : k_M), I_43 n x2_43 σ_43 → k_J Γ rm_X2_deal 3 false (wC a cI cO gI) 43 [(0, .ref (a 3)), (1, .int p1), (2, .int x2_43)] [] σ_43 := by
          intro n
          induction n using Nat.strongRecOn with
          | ind n ih_43 =>
            intro x2_43 σ_43 h
            replace h := hI_43 n x2_43 σ_43 h
            refine r_iload_n G dX2_deal_43 2 rfl rfl ?_
            refine r_bipush G (7 : Int32) dX2_deal_44 kb_7 ?_
            refine r_icmp_gt G 77 dX2_deal_46 (by decide) (fun hc => ?_) (fun hc => ?_)
            · replace h := h.1 hc
              refine r_aload_n G dX2_deal_77 0 rfl rfl ?_
              refine r_get G inX2 3 0 wC_3 rfl (by decide) lk_12 rfl rfl dX2_deal_78 ?_
              refine r_sipush G (254 : Int32) dX2_deal_81 ks_254 ?_
              refine r_putN G hD tyX0 tyX0_ok nmX0 inX0 4 6 wC_4 rfl (by decide) (G.2.2.2.2.2.2.at 17 rfl rfl) rfl rfl (ty := .int) (by decide +kernel) rfl rfl (Nat.le_of_ble_eq_true rfl) _ wC_4_6 dX2_deal_84 ?_
              refine r_aload_n G dX2_deal_87 0 rfl rfl ?_
              refine r_get G inX2 3 0 wC_3 rfl (by decide) lk_12 rfl rfl dX2_deal_88 ?_
              refine r_iload_n G dX2_deal_91 1 rfl rfl ?_
              refine r_cVWv G hD (ci := 0) (cq := (RX0, TX0, 12)) [.int p1] [] (c_X0_beginEpoch (k_l Γ) (k_D Γ) a cI cO gI _ _ _ h) 4 rfl wC_4 (cwV 1 G.2.2.2.2.1 gX2_deal_X0_beginEpoch rfl rfl rfl hdv_X0_beginEpoch ⟨Nat.le_of_ble_eq_true rfl, Nat.le_of_ble_eq_true rfl⟩) [0, 1] rfl rfl rfl (Nat.le_of_ble_eq_true rfl) dX2_deal_92 (fun σ_92 h => ?_)
              refine r_iconst G (1 : Int32) dX2_deal_95 kc_1 ?_
              exact r_iretW G E dX2_deal_96 h
            · replace h := h.2 hc
              refine r_aload_n G dX2_deal_49 0 rfl rfl ?_
              refine r_get G inX2 3 0 wC_3 rfl (by decide) lk_12 rfl rfl dX2_deal_50 ?_
              refine r_getN G inX0 4 2 wC_4 rfl (by decide) (G.2.2.2.2.2.2.at 11 rfl rfl) rfl rfl dX2_deal_53 ?_
              refine r_iload_n G dX2_deal_56 2 rfl rfl ?_
              refine r_aload_n G dX2_deal_57 0 rfl rfl ?_
              refine r_get G inX2 3 0 wC_3 rfl (by decide) lk_12 rfl rfl dX2_deal_58 ?_
              refine r_getN G inX0 4 0 wC_4 rfl (by decide) (G.2.2.2.2.2.2.at 9 rfl rfl) rfl rfl dX2_deal_61 ?_
              refine r_iconst G (0 : Int32) dX2_deal_64 kc_0 ?_
              refine r_iload_n G dX2_deal_65 1 rfl rfl ?_
              refine r_iload_n G dX2_deal_66 2 rfl rfl ?_
              refine r_cSR G [.ref (a 5), .int (0 : Int32), .int p1, .int x2_43] [.int x2_43, .ref (a 7)] (c_X2_polynomialAt_5 (k_l Γ) (k_D Γ) a cI cO gI _ _ _ _ _ h) (va_cwS 4 G.2.2.2.2.1 gX2_deal_X2_polynomialAt rfl rfl rfl hd_X2_polynomialAt ⟨Nat.le_of_ble_eq_true rfl, Nat.le_of_ble_eq_true rfl⟩) [0, 1] rfl (fun _ hP => hP) rfl rfl (Nat.le_of_ble_eq_true rfl) dX2_deal_67 (fun r_67 h => ?_)
              refine r_iast G hD 7 0 wC_7 rfl h.1 _ wC_7_s dX2_deal_70 ?_
              replace h := h.2
              refine r_iinc (lv' := [(2, .int (x2_43 + (1 : Int32))), (0, .ref (a 3)), (1, .int p1)]) G 2 dX2_deal_71 kc_1 rfl (by decide) rfl ?_
              refine r_goto G 43 dX2_deal_74 (by decide) ?_
              obtain ⟨m_43, hm_43, h⟩ := h
              exact r_sub [1, 2, 0] rfl (ih_43 m_43 hm_43 _ _ h)
        exact r_sub [1, 2, 0] rfl (key_43 n_43 _ _ h)
      refine r_icmp_ge G 41 dX2_deal_4 (by decide) (fun hc => ?_) (fun hc => ?_)
      · replace h := h.1 hc
        exact r_sub [0, 1] rfl (kj_41  h)
      · replace h := h.2 hc
        refine r_iload_n G dX2_deal_7 2 rfl rfl ?_
        refine r_iconst G (5 : Int32) dX2_deal_8 kc_5 ?_
        refine r_icmp_ge G 41 dX2_deal_9 (by decide) (fun hc => ?_) (fun hc => ?_)
        · replace h := h.1 hc
          exact r_sub [0, 1] rfl (kj_41  h)
        · replace h := h.2 hc
          refine r_aload_n G dX2_deal_12 0 rfl rfl ?_
          refine r_get G inX2 3 0 wC_3 rfl (by decide) lk_12 rfl rfl dX2_deal_13 ?_
          refine r_getN G inX0 4 3 wC_4 rfl (by decide) (G.2.2.2.2.2.2.at 13 rfl rfl) rfl rfl dX2_deal_16 ?_
          refine r_iload_n G dX2_deal_19 2 rfl rfl ?_
          refine r_aload_n G dX2_deal_20 0 rfl rfl ?_
          refine r_get G inX2 3 0 wC_3 rfl (by decide) lk_12 rfl rfl dX2_deal_21 ?_
          refine r_getN G inX0 4 0 wC_4 rfl (by decide) (G.2.2.2.2.2.2.at 9 rfl rfl) rfl rfl dX2_deal_24 ?_
          refine r_iconst G (0 : Int32) dX2_deal_27 kc_0 ?_
          refine r_iload_n G dX2_deal_28 2 rfl rfl ?_
          refine r_iadd G dX2_deal_29 ?_
          refine r_iald G 5 0 wC_5 rfl h.1 dX2_deal_30 ?_
          replace h := h.2
          refine r_cSR G [.int ((σ_2 5) ((0 : Int32) + x2_2).toNatClampNeg)] [.int x2_2, .ref (a 8)] (c_X5_sealOf (k_l Γ) (k_D Γ) _ _ h) (va_cwS 1 G.2.2.2.2.1 gX2_deal_X5_sealOf rfl rfl rfl hd_X5_sealOf ⟨Nat.le_of_ble_eq_true rfl, Nat.le_of_ble_eq_true rfl⟩) [] rfl (fun _ _ => k_E0) rfl rfl (Nat.le_of_ble_eq_true rfl) dX2_deal_31 (fun r_31 h => ?_)
          refine r_iast G hD 8 0 wC_8 rfl h.1 _ wC_8_s dX2_deal_34 ?_
          replace h := h.2
          refine r_iinc (lv' := [(2, .int (x2_2 + (1 : Int32))), (0, .ref (a 3)), (1, .int p1)]) G 2 dX2_deal_35 kc_1 rfl (by decide) rfl ?_
          refine r_goto G 2 dX2_deal_38 (by decide) ?_
          obtain ⟨m_2, hm_2, h⟩ := h
          exact r_sub [1, 2, 0] rfl (ih_2 m_2 hm_2 _ _ h)
  exact r_sub [1, 2, 0] rfl (key_2 n_2 _ _ h)
abbrev rm_X2_sent : Room := { frames := 2, cells := 0, slots := 0, locals := 48 }
def wp_X2_sent (σ : k_M) (p1 p2 p3 : Int32) (Q : Int32 → Prop) : Prop :=
  wp_X0_bend σ p1 (2 : Int32) (fun (r_6 : Int32) => (∃ K_26 : Int32 → Prop, (∀ (y0_26 : Int32), K_26 y0_26 → wp_X2_polynomialAt (σ 15) p1 p3 p2 (fun (r_35 : Int32) => wp_X5_plus r_35 y0_26 (fun (r_40 : Int32) => Q r_40))) ∧ ((r_6 = p2 → wp_X0_bend σ p1 (1 : Int32) (fun (r_19 : Int32) => K_26 r_19)) ∧ (¬ r_6 = p2 → K_26 (0 : Int32)))))
theorem hd_X2_sent : yX2_sent.cls ≠ "java/lang/invoke/MethodHandle" ∧ yX2_sent.cls ≠ "java/lang/invoke/VarHandle" ∧ (parseMethodDescriptor yX2_sent.desc).map (fun d => d.parameters.length) = some 3 := by decide +kernel
theorem hdv_X2_sent : yX2_sent.cls = RX2 ∧ yX2_sent.cls ≠ "java/lang/invoke/MethodHandle" ∧ yX2_sent.cls ≠ "java/lang/invoke/VarHandle" ∧ (parseMethodDescriptor yX2_sent.desc).map (fun d => d.parameters.length) = some 3 := ⟨rfl, hd_X2_sent⟩
set_option maxHeartbeats 4000000 in
set_option maxRecDepth 100000 in
theorem c_X2_sent (l : Launch) (D : va_G) (a : Nat → Nat) (cI cO : ClassId) (gI : Nat → Option Nat) (σ : k_M) (p1 p2 p3 : Int32) (Q : Int32 → Prop) (h : wp_X2_sent σ p1 p2 p3 Q) : Met l yX2_sent wsX2_sent rm_X2_sent (k_PR D [(cI, .int), (cO, .object "FreshShares$Circle")] (wC a cI cO gI) σ [.ref (a 3), .int p1, .int p2, .int p3]) (vp_Si Q) 0 0 (fun _ => False) := by
  refine k_metR (by decide) rfl (Nat.le_of_ble_eq_true rfl) ?_
  intro Γ G E
  unfold wp_X2_sent at h
  have inX2 : ∀ w ∈ wsX20, w ∈ wsX2_sent := by decide +kernel
  have lk_12 := G.2.2.2.2.1 (.fieldLink RX2 12 "FreshShares$Orders" "circle" "LFreshShares$Circle;") (by decide +kernel)
  have lk_22 := G.2.2.2.2.1 (.fieldLink RX2 22 "FreshShares$Orders" "polynomials" "[I") (by decide +kernel)
  show k_J Γ rm_X2_sent 5 true (wC a cI cO gI) 0 [(0, .ref (a 3)), (1, .int p1), (2, .int p2), (3, .int p3)] [] σ
  refine r_aload_n G dX2_sent_0 0 rfl rfl ?_
  refine r_get G inX2 3 0 wC_3 rfl (by decide) lk_12 rfl rfl dX2_sent_1 ?_
  refine r_iload_n G dX2_sent_4 1 rfl rfl ?_
  refine r_iconst G (2 : Int32) dX2_sent_5 kc_2 ?_
  refine r_cVR G (ci := 0) (cq := (RX0, TX0, 12)) [.int p1, .int (2 : Int32)] [] (c_X0_bend (k_l Γ) (k_D Γ) a cI cO gI _ _ _ _ h) 4 rfl wC_4 (cwV 2 G.2.2.2.2.1 gX2_sent_X0_bend rfl rfl rfl hdv_X0_bend ⟨Nat.le_of_ble_eq_true rfl, Nat.le_of_ble_eq_true rfl⟩) [0, 1] rfl (fun _ hP => hP) rfl rfl (Nat.le_of_ble_eq_true rfl) dX2_sent_6 (fun r_6 h => ?_)
  refine r_iload_n G dX2_sent_9 2 rfl rfl ?_
  obtain ⟨K_26, hK_26, h⟩ := h
  have kj_26 : ∀ (y0_26 : Int32), K_26 y0_26 → k_J Γ rm_X2_sent 5 true (wC a cI cO gI) 26 [(0, .ref (a 3)), (1, .int p1), (2, .int p2), (3, .int p3)] [.int y0_26] σ := by
    intro y0_26 h
    replace h := hK_26 y0_26 h
    refine r_istore (lv' := [(4, .int y0_26), (0, .ref (a 3)), (1, .int p1), (2, .int p2), (3, .int p3)]) G dX2_sent_26 (by decide) rfl ?_
    refine r_aload_n G dX2_sent_28 1 rfl rfl ?_
    refine r_get G inX2 3 2 wC_3 rfl (by decide) lk_22 rfl rfl dX2_sent_29 ?_
    refine r_iload_n G dX2_sent_32 2 rfl rfl ?_
    refine r_iload_n G dX2_sent_33 4 rfl rfl ?_
    refine r_iload_n G dX2_sent_34 3 rfl rfl ?_
    refine r_cSR G [.ref (a 15), .int p1, .int p3, .int p2] [] (c_X2_polynomialAt_15 (k_l Γ) (k_D Γ) a cI cO gI _ _ _ _ _ h) (va_cwS 4 G.2.2.2.2.1 gX2_sent_X2_polynomialAt rfl rfl rfl hd_X2_polynomialAt ⟨Nat.le_of_ble_eq_true rfl, Nat.le_of_ble_eq_true rfl⟩) [0, 1] rfl (fun _ hP => hP) rfl rfl (Nat.le_of_ble_eq_true rfl) dX2_sent_35 (fun r_35 h => ?_)
    refine r_iload G dX2_sent_38 0 rfl ?_
    refine r_cSR G [.int r_35, .int y0_26] [] (c_X5_plus (k_l Γ) (k_D Γ) _ _ _ h) (va_cwS 2 G.2.2.2.2.1 gX2_sent_X5_plus rfl rfl rfl hd_X5_plus ⟨Nat.le_of_ble_eq_true rfl, Nat.le_of_ble_eq_true rfl⟩) [] rfl (fun _ _ => k_E0) rfl rfl (Nat.le_of_ble_eq_true rfl) dX2_sent_40 (fun r_40 h => ?_)
    exact r_iretR G E dX2_sent_43 h
  refine r_icmp_ne G 25 dX2_sent_10 (by decide) (fun hc => ?_) (fun hc => ?_)
  · replace h := h.2 hc
    refine r_iconst G (0 : Int32) dX2_sent_25 kc_0 ?_
    exact r_sub [0, 1, 2, 3] rfl (kj_26 _ h)
  · replace h := h.1 hc
    refine r_aload_n G dX2_sent_13 0 rfl rfl ?_
    refine r_get G inX2 3 0 wC_3 rfl (by decide) lk_12 rfl rfl dX2_sent_14 ?_
    refine r_iload_n G dX2_sent_17 1 rfl rfl ?_
    refine r_iconst G (1 : Int32) dX2_sent_18 kc_1 ?_
    refine r_cVR G (ci := 0) (cq := (RX0, TX0, 12)) [.int p1, .int (1 : Int32)] [] (c_X0_bend (k_l Γ) (k_D Γ) a cI cO gI _ _ _ _ h) 4 rfl wC_4 (cwV 2 G.2.2.2.2.1 gX2_sent_X0_bend rfl rfl rfl hdv_X0_bend ⟨Nat.le_of_ble_eq_true rfl, Nat.le_of_ble_eq_true rfl⟩) [0, 1] rfl (fun _ hP => hP) rfl rfl (Nat.le_of_ble_eq_true rfl) dX2_sent_19 (fun r_19 h => ?_)
    refine r_goto G 26 dX2_sent_22 (by decide) ?_
    exact r_sub [0, 1, 2, 3] rfl (kj_26 _ h)
