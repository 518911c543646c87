abbrev rm_X2_opened : Room := { frames := 3, cells := 0, slots := 0, locals := 71 }
def wp_X2_opened (σ : k_M) (p1 p2 : Int32) (Q : Int32 → k_M → Prop) : Prop :=
  wp_X1_victims σ p1 (fun (r_8 : Int32) => wp_J6_bitCount_0f7a4 r_8 (fun (r_13 : Int32) => ((p2 ≤ r_13 → wp_X4_lowest r_8 p2 (fun (r_25 : Int32) => (k_lp2 (fun (B_33 : Int32 → k_M → Prop) (x5_33 : Int32) (σ_33 : k_M) => (((7 : Int32) < x5_33 → wp_X5_weighed (σ_33 14) r_25 (0 : Int32) (fun (r_73 : Int32) => Q r_73 σ_33)) ∧ (¬ (7 : Int32) < x5_33 → wp_X1_firstShare σ_33 x5_33 p1 (fun (r_56 : Int32) => (vp_in x5_33 8 ∧ B_33 (x5_33 + (1 : Int32)) (k_put σ_33 14 x5_33.toNatClampNeg r_56)))))) (1 : Int32) σ))) ∧ (¬ p2 ≤ r_13 → Q (-6 : Int32) σ))))
theorem hd_X2_opened : yX2_opened.cls ≠ "java/lang/invoke/MethodHandle" ∧ yX2_opened.cls ≠ "java/lang/invoke/VarHandle" ∧ (parseMethodDescriptor yX2_opened.desc).map (fun d => d.parameters.length) = some 2 := by decide +kernel
theorem hdv_X2_opened : yX2_opened.cls = RX2 ∧ yX2_opened.cls ≠ "java/lang/invoke/MethodHandle" ∧ yX2_opened.cls ≠ "java/lang/invoke/VarHandle" ∧ (parseMethodDescriptor yX2_opened.desc).map (fun d => d.parameters.length) = some 2 := ⟨rfl, hd_X2_opened⟩
set_option maxHeartbeats 4000000 in
set_option maxRecDepth 100000 in
theorem c_X2_opened (l : Launch) (D : va_G) (a : Nat → Nat) (cI cO : ClassId) (gI : Nat → Option Nat) (σ : k_M) (p1 p2 : Int32) (Q : Int32 → k_M → Prop) (h : wp_X2_opened σ p1 p2 Q) : Met l yX2_opened wsX2_opened rm_X2_opened (k_PW D [(cI, .int), (cO, .object "FreshShares$Circle")] (wC a cI cO gI) σ [.ref (a 3), .int p1, .int p2]) (k_Qi D (wC a cI cO gI) Q) 0 0 (k_wA (wC a cI cO gI)) := by
  refine k_metW (Qc := fun D => k_Qi D (wC a cI cO gI) Q) (by decide) rfl (Nat.le_of_ble_eq_true rfl) ?_
  intro Γ G hD E
  unfold wp_X2_opened at h
  have inX0 : ∀ w ∈ wsX00, w ∈ wsX2_opened := by decide +kernel
  have inX2 : ∀ w ∈ wsX20, w ∈ wsX2_opened := by decide +kernel
  have lk_12 := G.2.2.2.2.1 (.fieldLink RX2 12 "FreshShares$Orders" "circle" "LFreshShares$Circle;") (by decide +kernel)
  have lk_18 := G.2.2.2.2.1 (.fieldLink RX2 18 "FreshShares$Orders" "told" "[I") (by decide +kernel)
  show k_J Γ rm_X2_opened 6 false (wC a cI cO gI) 0 [(0, .ref (a 3)), (1, .int p1), (2, .int p2)] [] σ
  refine r_aload_n G dX2_opened_0 0 rfl rfl ?_
  refine r_get G inX2 3 0 wC_3 rfl (by decide) lk_12 rfl rfl dX2_opened_1 ?_
  refine r_getN G inX0 4 5 wC_4 rfl (by decide) (G.2.2.2.2.2.2.at 15 rfl rfl) rfl rfl dX2_opened_4 ?_
  refine r_iload_n G dX2_opened_7 1 rfl rfl ?_
  refine r_cVR G (ci := 1) (cq := (RX1, TX1, 4)) [.int p1] [] (c_X1_victims (k_l Γ) (k_D Γ) a cI cO gI _ _ _ h) 10 rfl wC_10 (cwV 1 G.2.2.2.2.1 gX2_opened_X1_victims rfl rfl rfl hdv_X1_victims ⟨Nat.le_of_ble_eq_true rfl, Nat.le_of_ble_eq_true rfl⟩) [0, 1] rfl (fun _ hP => hP) rfl rfl (Nat.le_of_ble_eq_true rfl) dX2_opened_8 (fun r_8 h => ?_)
  refine r_istore_n (lv' := [(3, .int r_8), (0, .ref (a 3)), (1, .int p1), (2, .int p2)]) G dX2_opened_11 rfl (by decide) rfl ?_
  refine r_iload_n G dX2_opened_12 0 rfl rfl ?_
  refine r_cSR G [.int r_8] [] (c_J6_bitCount_0f7a4 (k_l Γ) (k_D Γ) _ _ h) (va_cwS 1 G.2.2.2.2.1 gX2_opened_J6_bitCount_0f7a4 rfl rfl rfl hd_J6_bitCount_0f7a4 ⟨Nat.le_of_ble_eq_true rfl, Nat.le_of_ble_eq_true rfl⟩) [] rfl (fun _ _ => k_E0) rfl rfl (Nat.le_of_ble_eq_true rfl) dX2_opened_13 (fun r_13 h => ?_)
  refine r_iload_n G dX2_opened_16 3 rfl rfl ?_
  refine r_icmp_ge G 23 dX2_opened_17 (by decide) (fun hc => ?_) (fun hc => ?_)
  · replace h := h.1 hc
    refine r_iload_n G dX2_opened_23 0 rfl rfl ?_
    refine r_iload_n G dX2_opened_24 3 rfl rfl ?_
    refine r_cSR G [.int r_8, .int p2] [] (c_X4_lowest (k_l Γ) (k_D Γ) _ _ _ h) (va_cwS 2 G.2.2.2.2.1 gX2_opened_X4_lowest rfl rfl rfl hd_X4_lowest ⟨Nat.le_of_ble_eq_true rfl, Nat.le_of_ble_eq_true rfl⟩) [] rfl (fun _ _ => k_E0) rfl rfl (Nat.le_of_ble_eq_true rfl) dX2_opened_25 (fun r_25 h => ?_)
    refine r_istore (lv' := [(4, .int r_25), (3, .int r_8), (0, .ref (a 3)), (1, .int p1), (2, .int p2)]) G dX2_opened_28 (by decide) rfl ?_
    refine r_iconst G (1 : Int32) dX2_opened_30 kc_1 ?_
    refine r_istore (lv' := [(5, .int (1 : Int32)), (4, .int r_25), (3, .int r_8), (0, .ref (a 3)), (1, .int p1), (2, .int p2)]) G dX2_opened_31 (by decide) rfl ?_
    obtain ⟨I_33, n_33, h, hI_33⟩ := h
    have key_33 : ∀ (n : Nat) (x5_33 : Int32) (σ_33 : k_M), I_33 n x5_33 σ_33 → k_J Γ rm_X2_opened 6 false (wC a cI cO gI) 33 [(0, .ref (a 3)), (1, .int p1), (4, .int r_25), (5, .int x5_33)] [] σ_33 := by
      intro n
      induction n using Nat.strongRecOn with
      | ind n ih_33 =>
        intro x5_33 σ_33 h
        replace h := hI_33 n x5_33 σ_33 h
        refine r_iload G dX2_opened_33 3 rfl ?_
        refine r_bipush G (7 : Int32) dX2_opened_35 kb_7 ?_
        refine r_icmp_gt G 66 dX2_opened_37 (by decide) (fun hc => ?_) (fun hc => ?_)
        · replace h := h.1 hc
          refine r_aload_n G dX2_opened_66 0 rfl rfl ?_
          refine r_get G inX2 3 1 wC_3 rfl (by decide) lk_18 rfl rfl dX2_opened_67 ?_
          refine r_iload G dX2_opened_70 2 rfl ?_
          refine r_iconst G (0 : Int32) dX2_opened_72 kc_0 ?_
          refine r_cSR G [.ref (a 14), .int r_25, .int (0 : Int32)] [] (c_X5_weighed_14 (k_l Γ) (k_D Γ) a cI cO gI _ _ _ _ h) (va_cwS 3 G.2.2.2.2.1 gX2_opened_X5_weighed rfl rfl rfl hd_X5_weighed ⟨Nat.le_of_ble_eq_true rfl, Nat.le_of_ble_eq_true rfl⟩) [0, 1] rfl (fun _ hP => hP) rfl rfl (Nat.le_of_ble_eq_true rfl) dX2_opened_73 (fun r_73 h => ?_)
          exact r_iretW G E dX2_opened_76 h
        · replace h := h.2 hc
          refine r_aload_n G dX2_opened_40 0 rfl rfl ?_
          refine r_get G inX2 3 1 wC_3 rfl (by decide) lk_18 rfl rfl dX2_opened_41 ?_
          refine r_iload G dX2_opened_44 3 rfl ?_
          refine r_aload_n G dX2_opened_46 0 rfl rfl ?_
          refine r_get G inX2 3 0 wC_3 rfl (by decide) lk_12 rfl rfl dX2_opened_47 ?_
          refine r_getN G inX0 4 5 wC_4 rfl (by decide) (G.2.2.2.2.2.2.at 15 rfl rfl) rfl rfl dX2_opened_50 ?_
          refine r_iload G dX2_opened_53 3 rfl ?_
          refine r_iload_n G dX2_opened_55 1 rfl rfl ?_
          refine r_cVR G (ci := 1) (cq := (RX1, TX1, 4)) [.int x5_33, .int p1] [.int x5_33, .ref (a 14)] (c_X1_firstShare (k_l Γ) (k_D Γ) a cI cO gI _ _ _ _ h) 10 rfl wC_10 (cwV 2 G.2.2.2.2.1 gX2_opened_X1_firstShare rfl rfl rfl hdv_X1_firstShare ⟨Nat.le_of_ble_eq_true rfl, Nat.le_of_ble_eq_true rfl⟩) [0, 1] rfl (fun _ hP => hP) rfl rfl (Nat.le_of_ble_eq_true rfl) dX2_opened_56 (fun r_56 h => ?_)
          refine r_iast G hD 14 0 wC_14 rfl h.1 _ wC_14_s dX2_opened_59 ?_
          replace h := h.2
          refine r_iinc (lv' := [(5, .int (x5_33 + (1 : Int32))), (0, .ref (a 3)), (1, .int p1), (4, .int r_25)]) G 3 dX2_opened_60 kc_1 rfl (by decide) rfl ?_
          refine r_goto G 33 dX2_opened_63 (by decide) ?_
          obtain ⟨m_33, hm_33, h⟩ := h
          exact r_sub [1, 2, 3, 0] rfl (ih_33 m_33 hm_33 _ _ h)
    exact r_sub [3, 4, 1, 0] rfl (key_33 n_33 _ _ h)
  · replace h := h.2 hc
    refine r_bipush G (-6 : Int32) dX2_opened_20 kb_m6 ?_
    exact r_iretW G E dX2_opened_22 h
abbrev rm_X2_openedByThose : Room := { frames := 4, cells := 0, slots := 0, locals := 89 }
def wp_X2_openedByThose (σ : k_M) (p1 p2 : Int32) (Q : Int32 → k_M → Prop) : Prop :=
  (k_lp2 (fun (B_13 : Int32 → k_M → Prop) (x4_13 : Int32) (σ_13 : k_M) => (((7 : Int32) < x4_13 → wp_J6_bitCount_0f7a4 ((p1 &&& (σ 4 6)) &&& ((σ_13 4 9) ^^^ (-1 : Int32))) (fun (r_57 : Int32) => (((σ_13 4 7) ≤ r_57 → wp_X4_lowest ((p1 &&& (σ 4 6)) &&& ((σ_13 4 9) ^^^ (-1 : Int32))) (σ_13 4 7) (fun (r_86 : Int32) => wp_X5_weighed (σ_13 14) r_86 p2 (fun (r_90 : Int32) => Q r_90 σ_13))) ∧ (¬ (σ_13 4 7) ≤ r_57 → Q (-5 : Int32) σ_13)))) ∧ (¬ (7 : Int32) < x4_13 → wp_X4_has (p1 &&& (σ 4 6)) x4_13 (fun (r_23 : Int32) => ((r_23 = 0 → B_13 (x4_13 + (1 : Int32)) σ_13) ∧ (¬ r_23 = 0 → wp_X2_hear σ_13 x4_13 (fun (r_32 : Int32) (σ_32 : k_M) => B_13 (x4_13 + (1 : Int32)) σ_32))))))) (1 : Int32) σ)
theorem hd_X2_openedByThose : yX2_openedByThose.cls ≠ "java/lang/invoke/MethodHandle" ∧ yX2_openedByThose.cls ≠ "java/lang/invoke/VarHandle" ∧ (parseMethodDescriptor yX2_openedByThose.desc).map (fun d => d.parameters.length) = some 2 := by decide +kernel
theorem hdv_X2_openedByThose : yX2_openedByThose.cls = RX2 ∧ yX2_openedByThose.cls ≠ "java/lang/invoke/MethodHandle" ∧ yX2_openedByThose.cls ≠ "java/lang/invoke/VarHandle" ∧ (parseMethodDescriptor yX2_openedByThose.desc).map (fun d => d.parameters.length) = some 2 := ⟨rfl, hd_X2_openedByThose⟩
set_option maxHeartbeats 4000000 in
set_option maxRecDepth 100000 in
theorem c_X2_openedByThose (l : Launch) (D : va_G) (a : Nat → Nat) (cI cO : ClassId) (gI : Nat → Option Nat) (σ : k_M) (p1 p2 : Int32) (Q : Int32 → k_M → Prop) (h : wp_X2_openedByThose σ p1 p2 Q) : Met l yX2_openedByThose wsX2_openedByThose rm_X2_openedByThose (k_PW D [(cI, .int), (cO, .object "FreshShares$Circle")] (wC a cI cO gI) σ [.ref (a 3), .int p1, .int p2]) (k_Qi D (wC a cI cO gI) Q) 0 0 (k_wA (wC a cI cO gI)) := by
  refine k_metW (Qc := fun D => k_Qi D (wC a cI cO gI) Q) (by decide) rfl (Nat.le_of_ble_eq_true rfl) ?_
  intro Γ G hD E
  unfold wp_X2_openedByThose at h
  have inX0 : ∀ w ∈ wsX00, w ∈ wsX2_openedByThose := by decide +kernel
  have inX2 : ∀ w ∈ wsX20, w ∈ wsX2_openedByThose := by decide +kernel
  have lk_12 := G.2.2.2.2.1 (.fieldLink RX2 12 "FreshShares$Orders" "circle" "LFreshShares$Circle;") (by decide +kernel)
  have lk_18 := G.2.2.2.2.1 (.fieldLink RX2 18 "FreshShares$Orders" "told" "[I") (by decide +kernel)
  show k_J Γ rm_X2_openedByThose 5 false (wC a cI cO gI) 0 [(0, .ref (a 3)), (1, .int p1), (2, .int p2)] [] σ
  refine r_iload_n G dX2_openedByThose_0 1 rfl rfl ?_
  refine r_aload_n G dX2_openedByThose_1 0 rfl rfl ?_
  refine r_get G inX2 3 0 wC_3 rfl (by decide) lk_12 rfl rfl dX2_openedByThose_2 ?_
  refine r_getN G inX0 4 6 wC_4 rfl (by decide) (G.2.2.2.2.2.2.at 17 rfl rfl) rfl rfl dX2_openedByThose_5 ?_
  refine r_iand G dX2_openedByThose_8 ?_
  refine r_istore_n (lv' := [(3, .int (p1 &&& (σ 4 6))), (0, .ref (a 3)), (1, .int p1), (2, .int p2)]) G dX2_openedByThose_9 rfl (by decide) rfl ?_
  refine r_iconst G (1 : Int32) dX2_openedByThose_10 kc_1 ?_
  refine r_istore (lv' := [(4, .int (1 : Int32)), (3, .int (p1 &&& (σ 4 6))), (0, .ref (a 3)), (1, .int p1), (2, .int p2)]) G dX2_openedByThose_11 (by decide) rfl ?_
  obtain ⟨I_13, n_13, h, hI_13⟩ := h
  have key_13 : ∀ (n : Nat) (x4_13 : Int32) (σ_13 : k_M), I_13 n x4_13 σ_13 → k_J Γ rm_X2_openedByThose 5 false (wC a cI cO gI) 13 [(0, .ref (a 3)), (2, .int p2), (3, .int (p1 &&& (σ 4 6))), (4, .int x4_13)] [] σ_13 := by
    intro n
    induction n using Nat.strongRecOn with
    | ind n ih_13 =>
      intro x4_13 σ_13 h
      replace h := hI_13 n x4_13 σ_13 h
      refine r_iload G dX2_openedByThose_13 3 rfl ?_
      refine r_bipush G (7 : Int32) dX2_openedByThose_15 kb_7 ?_
      refine r_icmp_gt G 42 dX2_openedByThose_17 (by decide) (fun hc => ?_) (fun hc => ?_)
      · replace h := h.1 hc
        refine r_iload_n G dX2_openedByThose_42 2 rfl rfl ?_
        refine r_aload_n G dX2_openedByThose_43 0 rfl rfl ?_
        refine r_get G inX2 3 0 wC_3 rfl (by decide) lk_12 rfl rfl dX2_openedByThose_44 ?_
        refine r_getN G inX0 4 9 wC_4 rfl (by decide) (G.2.2.2.2.2.2.at 23 rfl rfl) rfl rfl dX2_openedByThose_47 ?_
        refine r_iconst G (-1 : Int32) dX2_openedByThose_50 kc_m1 ?_
        refine r_ixor G dX2_openedByThose_51 ?_
        refine r_iand G dX2_openedByThose_52 ?_
        refine r_istore (lv' := [(4, .int ((p1 &&& (σ 4 6)) &&& ((σ_13 4 9) ^^^ (-1 : Int32)))), (0, .ref (a 3)), (2, .int p2), (3, .int (p1 &&& (σ 4 6)))]) G dX2_openedByThose_53 (by decide) rfl ?_
        refine r_iload G dX2_openedByThose_55 0 rfl ?_
        refine r_cSR G [.int ((p1 &&& (σ 4 6)) &&& ((σ_13 4 9) ^^^ (-1 : Int32)))] [] (c_J6_bitCount_0f7a4 (k_l Γ) (k_D Γ) _ _ h) (va_cwS 1 G.2.2.2.2.1 gX2_openedByThose_J6_bitCount_0f7a4 rfl rfl rfl hd_J6_bitCount_0f7a4 ⟨Nat.le_of_ble_eq_true rfl, Nat.le_of_ble_eq_true rfl⟩) [] rfl (fun _ _ => k_E0) rfl rfl (Nat.le_of_ble_eq_true rfl) dX2_openedByThose_57 (fun r_57 h => ?_)
        refine r_aload_n G dX2_openedByThose_60 1 rfl rfl ?_
        refine r_get G inX2 3 0 wC_3 rfl (by decide) lk_12 rfl rfl dX2_openedByThose_61 ?_
        refine r_getN G inX0 4 7 wC_4 rfl (by decide) (G.2.2.2.2.2.2.at 19 rfl rfl) rfl rfl dX2_openedByThose_64 ?_
        refine r_icmp_ge G 73 dX2_openedByThose_67 (by decide) (fun hc => ?_) (fun hc => ?_)
        · replace h := h.1 hc
          refine r_aload_n G dX2_openedByThose_73 1 rfl rfl ?_
          refine r_get G inX2 3 1 wC_3 rfl (by decide) lk_18 rfl rfl dX2_openedByThose_74 ?_
          refine r_iload G dX2_openedByThose_77 0 rfl ?_
          refine r_aload_n G dX2_openedByThose_79 1 rfl rfl ?_
          refine r_get G inX2 3 0 wC_3 rfl (by decide) lk_12 rfl rfl dX2_openedByThose_80 ?_
          refine r_getN G inX0 4 7 wC_4 rfl (by decide) (G.2.2.2.2.2.2.at 19 rfl rfl) rfl rfl dX2_openedByThose_83 ?_
          refine r_cSR G [.int ((p1 &&& (σ 4 6)) &&& ((σ_13 4 9) ^^^ (-1 : Int32))), .int (σ_13 4 7)] [.ref (a 14)] (c_X4_lowest (k_l Γ) (k_D Γ) _ _ _ h) (va_cwS 2 G.2.2.2.2.1 gX2_openedByThose_X4_lowest rfl rfl rfl hd_X4_lowest ⟨Nat.le_of_ble_eq_true rfl, Nat.le_of_ble_eq_true rfl⟩) [] rfl (fun _ _ => k_E0) rfl rfl (Nat.le_of_ble_eq_true rfl) dX2_openedByThose_86 (fun r_86 h => ?_)
          refine r_iload_n G dX2_openedByThose_89 2 rfl rfl ?_
          refine r_cSR G [.ref (a 14), .int r_86, .int p2] [] (c_X5_weighed_14 (k_l Γ) (k_D Γ) a cI cO gI _ _ _ _ h) (va_cwS 3 G.2.2.2.2.1 gX2_openedByThose_X5_weighed rfl rfl rfl hd_X5_weighed ⟨Nat.le_of_ble_eq_true rfl, Nat.le_of_ble_eq_true rfl⟩) [0, 1] rfl (fun _ hP => hP) rfl rfl (Nat.le_of_ble_eq_true rfl) dX2_openedByThose_90 (fun r_90 h => ?_)
          exact r_iretW G E dX2_openedByThose_93 h
        · replace h := h.2 hc
          refine r_bipush G (-5 : Int32) dX2_openedByThose_70 kb_m5 ?_
          exact r_iretW G E dX2_openedByThose_72 h
      · replace h := h.2 hc
        refine r_iload_n G dX2_openedByThose_20 2 rfl rfl ?_
        refine r_iload G dX2_openedByThose_21 3 rfl ?_
        refine r_cSR G [.int (p1 &&& (σ 4 6)), .int x4_13] [] (c_X4_has (k_l Γ) (k_D Γ) _ _ _ h) (va_cwS 2 G.2.2.2.2.1 gX2_openedByThose_X4_has rfl rfl rfl hd_X4_has ⟨Nat.le_of_ble_eq_true rfl, Nat.le_of_ble_eq_true rfl⟩) [] rfl (fun _ _ => k_E0) rfl rfl (Nat.le_of_ble_eq_true rfl) dX2_openedByThose_23 (fun r_23 h => ?_)
        have hz_23 := h.1
        replace h := h.2
        refine r_if_eq G 36 dX2_openedByThose_26 (by decide) (fun hc => ?_) (fun hc => ?_)
        · replace h := h.1 hc
          refine r_iinc (lv' := [(4, .int (x4_13 + (1 : Int32))), (0, .ref (a 3)), (2, .int p2), (3, .int (p1 &&& (σ 4 6)))]) G 3 dX2_openedByThose_36 kc_1 rfl (by decide) rfl ?_
          refine r_goto G 13 dX2_openedByThose_39 (by decide) ?_
          obtain ⟨m_13, hm_13, h⟩ := h
          exact r_sub [1, 2, 3, 0] rfl (ih_13 m_13 hm_13 _ _ h)
        · replace h := h.2 hc
          refine r_aload_n G dX2_openedByThose_29 0 rfl rfl ?_
          refine r_iload G dX2_openedByThose_30 3 rfl ?_
          refine r_cVWi G hD (ci := 2) (cq := (RX2, TX2, 6)) [.int x4_13] [] (c_X2_hear (k_l Γ) (k_D Γ) a cI cO gI _ _ _ h) 3 rfl wC_3 (cwV 1 G.2.2.2.2.1 gX2_openedByThose_X2_hear rfl rfl rfl hdv_X2_hear ⟨Nat.le_of_ble_eq_true rfl, Nat.le_of_ble_eq_true rfl⟩) [0, 1] rfl rfl rfl (Nat.le_of_ble_eq_true rfl) dX2_openedByThose_32 (fun r_32 σ_32 h => ?_)
          have hz_32 := h.1
          replace h := h.2
          refine r_pop G rfl dX2_openedByThose_35 ?_
          refine r_iinc (lv' := [(4, .int (x4_13 + (1 : Int32))), (0, .ref (a 3)), (2, .int p2), (3, .int (p1 &&& (σ 4 6)))]) G 3 dX2_openedByThose_36 kc_1 rfl (by decide) rfl ?_
          refine r_goto G 13 dX2_openedByThose_39 (by decide) ?_
          obtain ⟨m_13, hm_13, h⟩ := h
          exact r_sub [1, 2, 3, 0] rfl (ih_13 m_13 hm_13 _ _ h)
  exact r_sub [2, 4, 1, 0] rfl (key_13 n_13 _ _ h)
abbrev rm_X3_signAt : Room := { frames := 0, cells := 0, slots := 0, locals := 0 }
def wp_X3_signAt (σ : k_M) (p1 : Int32) (Q : Int32 → Prop) : Prop :=
  ((p1 < 0 → Q (0 : Int32)) ∧ (¬ p1 < 0 → (((σ 1 1) ≤ p1 → Q (0 : Int32)) ∧ (¬ (σ 1 1) ≤ p1 → (((10 : Int32) ≤ p1 → Q (0 : Int32)) ∧ (¬ (10 : Int32) ≤ p1 → (vp_in p1 10 ∧ Q ((σ 2) p1.toNatClampNeg))))))))
theorem hd_X3_signAt : yX3_signAt.cls ≠ "java/lang/invoke/MethodHandle" ∧ yX3_signAt.cls ≠ "java/lang/invoke/VarHandle" ∧ (parseMethodDescriptor yX3_signAt.desc).map (fun d => d.parameters.length) = some 1 := by decide +kernel
theorem hdv_X3_signAt : yX3_signAt.cls = RX3 ∧ yX3_signAt.cls ≠ "java/lang/invoke/MethodHandle" ∧ yX3_signAt.cls ≠ "java/lang/invoke/VarHandle" ∧ (parseMethodDescriptor yX3_signAt.desc).map (fun d => d.parameters.length) = some 1 := ⟨rfl, hd_X3_signAt⟩
set_option maxHeartbeats 4000000 in
set_option maxRecDepth 100000 in
theorem c_X3_signAt (l : Launch) (D : va_G) (a : Nat → Nat) (cI cO : ClassId) (gI : Nat → Option Nat) (σ : k_M) (p1 : Int32) (Q : Int32 → Prop) (h : wp_X3_signAt σ p1 Q) : Met l yX3_signAt wsX3_signAt rm_X3_signAt (k_PR D [(cI, .int), (cO, .object "FreshShares$Circle")] (wC a cI cO gI) σ [.ref (a 1), .int p1]) (vp_Si Q) 0 0 (fun _ => False) := by
  refine k_metR (by decide) rfl (Nat.le_of_ble_eq_true rfl) ?_
  intro Γ G E
  unfold wp_X3_signAt at h
  have inX3 : ∀ w ∈ wsX30, w ∈ wsX3_signAt := by decide +kernel
  have lk_9 := G.2.2.2.2.1 (.fieldLink RX3 9 "FreshShares$Script" "signs" "[I") (by decide +kernel)
  have lk_15 := G.2.2.2.2.1 (.fieldLink RX3 15 "FreshShares$Script" "length" "I") (by decide +kernel)
  show k_J Γ rm_X3_signAt 2 true (wC a cI cO gI) 0 [(0, .ref (a 1)), (1, .int p1)] [] σ
  refine r_iload_n G dX3_signAt_0 1 rfl rfl ?_
  refine r_if_lt G 27 dX3_signAt_1 (by decide) (fun hc => ?_) (fun hc => ?_)
  · replace h := h.1 hc
    refine r_iconst G (0 : Int32) dX3_signAt_27 kc_0 ?_
    exact r_iretR G E dX3_signAt_28 h
  · replace h := h.2 hc
    refine r_iload_n G dX3_signAt_4 1 rfl rfl ?_
    refine r_aload_n G dX3_signAt_5 0 rfl rfl ?_
    refine r_get G inX3 1 1 wC_1 rfl (by decide) lk_15 rfl rfl dX3_signAt_6 ?_
    refine r_icmp_ge G 27 dX3_signAt_9 (by decide) (fun hc => ?_) (fun hc => ?_)
    · replace h := h.1 hc
      refine r_iconst G (0 : Int32) dX3_signAt_27 kc_0 ?_
      exact r_iretR G E dX3_signAt_28 h
    · replace h := h.2 hc
      refine r_iload_n G dX3_signAt_12 1 rfl rfl ?_
      refine r_bipush G (10 : Int32) dX3_signAt_13 kb_10 ?_
      refine r_icmp_ge G 27 dX3_signAt_15 (by decide) (fun hc => ?_) (fun hc => ?_)
      · replace h := h.1 hc
        refine r_iconst G (0 : Int32) dX3_signAt_27 kc_0 ?_
        exact r_iretR G E dX3_signAt_28 h
      · replace h := h.2 hc
        refine r_aload_n G dX3_signAt_18 0 rfl rfl ?_
        refine r_get G inX3 1 0 wC_1 rfl (by decide) lk_9 rfl rfl dX3_signAt_19 ?_
        refine r_iload_n G dX3_signAt_22 1 rfl rfl ?_
        refine r_iald G 2 0 wC_2 rfl h.1 dX3_signAt_23 ?_
        replace h := h.2
        refine r_goto G 28 dX3_signAt_24 (by decide) ?_
        exact r_iretR G E dX3_signAt_28 h
abbrev rm_X3_letter : Room := { frames := 1, cells := 0, slots := 0, locals := 21 }
def wp_X3_letter (σ : k_M) (Q : Int32 → Prop) : Prop :=
  wp_X3_signAt σ (0 : Int32) (fun (r_2 : Int32) => Q r_2)
theorem hd_X3_letter : yX3_letter.cls ≠ "java/lang/invoke/MethodHandle" ∧ yX3_letter.cls ≠ "java/lang/invoke/VarHandle" ∧ (parseMethodDescriptor yX3_letter.desc).map (fun d => d.parameters.length) = some 0 := by decide +kernel
theorem hdv_X3_letter : yX3_letter.cls = RX3 ∧ yX3_letter.cls ≠ "java/lang/invoke/MethodHandle" ∧ yX3_letter.cls ≠ "java/lang/invoke/VarHandle" ∧ (parseMethodDescriptor yX3_letter.desc).map (fun d => d.parameters.length) = some 0 := ⟨rfl, hd_X3_letter⟩
set_option maxHeartbeats 4000000 in
set_option maxRecDepth 100000 in
theorem c_X3_letter (l : Launch) (D : va_G) (a : Nat → Nat) (cI cO : ClassId) (gI : Nat → Option Nat) (σ : k_M) (Q : Int32 → Prop) (h : wp_X3_letter σ  Q) : Met l yX3_letter wsX3_letter rm_X3_letter (k_PR D [(cI, .int), (cO, .object "FreshShares$Circle")] (wC a cI cO gI) σ [.ref (a 1)]) (vp_Si Q) 0 0 (fun _ => False) := by
  refine k_metR (by decide) rfl (Nat.le_of_ble_eq_true rfl) ?_
  intro Γ G E
  unfold wp_X3_letter at h
  show k_J Γ rm_X3_letter 1 true (wC a cI cO gI) 0 [(0, .ref (a 1))] [] σ
  refine r_aload_n G dX3_letter_0 0 rfl rfl ?_
  refine r_iconst G (0 : Int32) dX3_letter_1 kc_0 ?_
  refine r_cVR G (ci := 3) (cq := (RX3, TX3, 2)) [.int (0 : Int32)] [] (c_X3_signAt (k_l Γ) (k_D Γ) a cI cO gI _ _ _ h) 1 rfl wC_1 (cwV 1 G.2.2.2.2.1 gX3_letter_X3_signAt rfl rfl rfl hdv_X3_signAt ⟨Nat.le_of_ble_eq_true rfl, Nat.le_of_ble_eq_true rfl⟩) [0, 1] rfl (fun _ hP => hP) rfl rfl (Nat.le_of_ble_eq_true rfl) dX3_letter_2 (fun r_2 h => ?_)
  exact r_iretR G E dX3_letter_5 h
abbrev rm_X3_figureAt : Room := { frames := 1, cells := 0, slots := 0, locals := 21 }
def wp_X3_figureAt (σ : k_M) (p1 : Int32) (Q : Int32 → Prop) : Prop :=
  wp_X3_signAt σ p1 (fun (r_2 : Int32) => Q (r_2 - (48 : Int32)))
theorem hd_X3_figureAt : yX3_figureAt.cls ≠ "java/lang/invoke/MethodHandle" ∧ yX3_figureAt.cls ≠ "java/lang/invoke/VarHandle" ∧ (parseMethodDescriptor yX3_figureAt.desc).map (fun d => d.parameters.length) = some 1 := by decide +kernel
theorem hdv_X3_figureAt : yX3_figureAt.cls = RX3 ∧ yX3_figureAt.cls ≠ "java/lang/invoke/MethodHandle" ∧ yX3_figureAt.cls ≠ "java/lang/invoke/VarHandle" ∧ (parseMethodDescriptor yX3_figureAt.desc).map (fun d => d.parameters.length) = some 1 := ⟨rfl, hd_X3_figureAt⟩
set_option maxHeartbeats 4000000 in
set_option maxRecDepth 100000 in
theorem c_X3_figureAt (l : Launch) (D : va_G) (a : Nat → Nat) (cI cO : ClassId) (gI : Nat → Option Nat) (σ : k_M) (p1 : Int32) (Q : Int32 → Prop) (h : wp_X3_figureAt σ p1 Q) : Met l yX3_figureAt wsX3_figureAt rm_X3_figureAt (k_PR D [(cI, .int), (cO, .object "FreshShares$Circle")] (wC a cI cO gI) σ [.ref (a 1), .int p1]) (vp_Si Q) 0 0 (fun _ => False) := by
  refine k_metR (by decide) rfl (Nat.le_of_ble_eq_true rfl) ?_
  intro Γ G E
  unfold wp_X3_figureAt at h
  show k_J Γ rm_X3_figureAt 2 true (wC a cI cO gI) 0 [(0, .ref (a 1)), (1, .int p1)] [] σ
  refine r_aload_n G dX3_figureAt_0 0 rfl rfl ?_
  refine r_iload_n G dX3_figureAt_1 1 rfl rfl ?_
  refine r_cVR G (ci := 3) (cq := (RX3, TX3, 2)) [.int p1] [] (c_X3_signAt (k_l Γ) (k_D Γ) a cI cO gI _ _ _ h) 1 rfl wC_1 (cwV 1 G.2.2.2.2.1 gX3_figureAt_X3_signAt rfl rfl rfl hdv_X3_signAt ⟨Nat.le_of_ble_eq_true rfl, Nat.le_of_ble_eq_true rfl⟩) [0, 1] rfl (fun _ hP => hP) rfl rfl (Nat.le_of_ble_eq_true rfl) dX3_figureAt_2 (fun r_2 h => ?_)
  refine r_bipush G (48 : Int32) dX3_figureAt_5 kb_48 ?_
  refine r_isub G dX3_figureAt_7 ?_
  exact r_iretR G E dX3_figureAt_8 h
abbrev rm_X3_firstOfSet : Room := { frames := 2, cells := 0, slots := 0, locals := 41 }
def wp_X3_firstOfSet (σ : k_M) (Q : Int32 → Prop) : Prop :=
  wp_X3_letter σ (fun (r_1 : Int32) => ((r_1 = (98 : Int32) → Q (2 : Int32)) ∧ (¬ r_1 = (98 : Int32) → ((r_1 = (111 : Int32) → Q (1 : Int32)) ∧ (¬ r_1 = (111 : Int32) → ((r_1 = (116 : Int32) → Q (2 : Int32)) ∧ (¬ r_1 = (116 : Int32) → Q (10 : Int32))))))))
theorem hd_X3_firstOfSet : yX3_firstOfSet.cls ≠ "java/lang/invoke/MethodHandle" ∧ yX3_firstOfSet.cls ≠ "java/lang/invoke/VarHandle" ∧ (parseMethodDescriptor yX3_firstOfSet.desc).map (fun d => d.parameters.length) = some 0 := by decide +kernel
theorem hdv_X3_firstOfSet : yX3_firstOfSet.cls = RX3 ∧ yX3_firstOfSet.cls ≠ "java/lang/invoke/MethodHandle" ∧ yX3_firstOfSet.cls ≠ "java/lang/invoke/VarHandle" ∧ (parseMethodDescriptor yX3_firstOfSet.desc).map (fun d => d.parameters.length) = some 0 := ⟨rfl, hd_X3_firstOfSet⟩
set_option maxHeartbeats 4000000 in
set_option maxRecDepth 100000 in
theorem c_X3_firstOfSet (l : Launch) (D : va_G) (a : Nat → Nat) (cI cO : ClassId) (gI : Nat → Option Nat) (σ : k_M) (Q : Int32 → Prop) (h : wp_X3_firstOfSet σ  Q) : Met l yX3_firstOfSet wsX3_firstOfSet rm_X3_firstOfSet (k_PR D [(cI, .int), (cO, .object "FreshShares$Circle")] (wC a cI cO gI) σ [.ref (a 1)]) (vp_Si Q) 0 0 (fun _ => False) := by
  refine k_metR (by decide) rfl (Nat.le_of_ble_eq_true rfl) ?_
  intro Γ G E
  unfold wp_X3_firstOfSet at h
  show k_J Γ rm_X3_firstOfSet 1 true (wC a cI cO gI) 0 [(0, .ref (a 1))] [] σ
  refine r_aload_n G dX3_firstOfSet_0 0 rfl rfl ?_
  refine r_cVR G (ci := 3) (cq := (RX3, TX3, 2)) [] [] (c_X3_letter (k_l Γ) (k_D Γ) a cI cO gI _ _ h) 1 rfl wC_1 (cwV 0 G.2.2.2.2.1 gX3_firstOfSet_X3_letter rfl rfl rfl hdv_X3_letter ⟨Nat.le_of_ble_eq_true rfl, Nat.le_of_ble_eq_true rfl⟩) [0, 1] rfl (fun _ hP => hP) rfl rfl (Nat.le_of_ble_eq_true rfl) dX3_firstOfSet_1 (fun r_1 h => ?_)
  rcases Classical.em (r_1 = (98 : Int32)) with hs_0 | hs_0
  · replace h := h.1 hs_0
    refine r_lookup G 42 dX3_firstOfSet_4 rfl (off := 38) (by rw [khit hs_0 kt_98]; rfl) (by decide) ?_
    refine r_iconst G (2 : Int32) dX3_firstOfSet_42 kc_2 ?_
    exact r_iretR G E dX3_firstOfSet_43 h
  replace h := h.2 hs_0
  rcases Classical.em (r_1 = (111 : Int32)) with hs_1 | hs_1
  · replace h := h.1 hs_1
    refine r_lookup G 40 dX3_firstOfSet_4 rfl (off := 36) (by rw [khit hs_1 kt_111]; rfl) (by decide) ?_
    refine r_iconst G (1 : Int32) dX3_firstOfSet_40 kc_1 ?_
    exact r_iretR G E dX3_firstOfSet_41 h
  replace h := h.2 hs_1
  rcases Classical.em (r_1 = (116 : Int32)) with hs_2 | hs_2
  · replace h := h.1 hs_2
    refine r_lookup G 42 dX3_firstOfSet_4 rfl (off := 38) (by rw [khit hs_2 kt_116]; rfl) (by decide) ?_
    refine r_iconst G (2 : Int32) dX3_firstOfSet_42 kc_2 ?_
    exact r_iretR G E dX3_firstOfSet_43 h
  replace h := h.2 hs_2
  refine r_lookup G 44 dX3_firstOfSet_4 rfl (off := 40) (by show Op.lookupswitch.offset [(98, 38), (111, 36), (116, 38)] 40 _ = _; rw [lv_osw hs_0 kt_98, lv_osw hs_1 kt_111, lv_osw hs_2 kt_116]; rfl) (by decide) ?_
  refine r_bipush G (10 : Int32) dX3_firstOfSet_44 kb_10 ?_
  exact r_iretR G E dX3_firstOfSet_46 h
abbrev rm_X3_members : Room := { frames := 3, cells := 0, slots := 0, locals := 61 }
def wp_X3_members (σ : k_M) (Q : Int32 → Prop) : Prop :=
  wp_X3_firstOfSet σ (fun (r_3 : Int32) => (k_lp2 (fun (B_7 : Int32 → Int32 → Prop) (x1_7 : Int32) (x2_7 : Int32) => (((σ 1 1) ≤ x2_7 → Q x1_7) ∧ (¬ (σ 1 1) ≤ x2_7 → wp_X3_figureAt σ x2_7 (fun (r_17 : Int32) => wp_X6_isMember r_17 (fun (r_20 : Int32) => ((r_20 = 0 → B_7 x1_7 (x2_7 + (1 : Int32))) ∧ (¬ r_20 = 0 → wp_X3_figureAt σ x2_7 (fun (r_29 : Int32) => wp_X4_only r_29 (fun (r_32 : Int32) => B_7 (x1_7 ||| r_32) (x2_7 + (1 : Int32))))))))))) (0 : Int32) r_3))
theorem hd_X3_members : yX3_members.cls ≠ "java/lang/invoke/MethodHandle" ∧ yX3_members.cls ≠ "java/lang/invoke/VarHandle" ∧ (parseMethodDescriptor yX3_members.desc).map (fun d => d.parameters.length) = some 0 := by decide +kernel
theorem hdv_X3_members : yX3_members.cls = RX3 ∧ yX3_members.cls ≠ "java/lang/invoke/MethodHandle" ∧ yX3_members.cls ≠ "java/lang/invoke/VarHandle" ∧ (parseMethodDescriptor yX3_members.desc).map (fun d => d.parameters.length) = some 0 := ⟨rfl, hd_X3_members⟩
set_option maxHeartbeats 4000000 in
set_option maxRecDepth 100000 in
theorem c_X3_members (l : Launch) (D : va_G) (a : Nat → Nat) (cI cO : ClassId) (gI : Nat → Option Nat) (σ : k_M) (Q : Int32 → Prop) (h : wp_X3_members σ  Q) : Met l yX3_members wsX3_members rm_X3_members (k_PR D [(cI, .int), (cO, .object "FreshShares$Circle")] (wC a cI cO gI) σ [.ref (a 1)]) (vp_Si Q) 0 0 (fun _ => False) := by
  refine k_metR (by decide) rfl (Nat.le_of_ble_eq_true rfl) ?_
  intro Γ G E
  unfold wp_X3_members at h
  have inX3 : ∀ w ∈ wsX30, w ∈ wsX3_members := by decide +kernel
  have lk_15 := G.2.2.2.2.1 (.fieldLink RX3 15 "FreshShares$Script" "length" "I") (by decide +kernel)
  show k_J Γ rm_X3_members 3 true (wC a cI cO gI) 0 [(0, .ref (a 1))] [] σ
  refine r_iconst G (0 : Int32) dX3_members_0 kc_0 ?_
  refine r_istore_n (lv' := [(1, .int (0 : Int32)), (0, .ref (a 1))]) G dX3_members_1 rfl (by decide) rfl ?_
  refine r_aload_n G dX3_members_2 1 rfl rfl ?_
  refine r_cVR G (ci := 3) (cq := (RX3, TX3, 2)) [] [] (c_X3_firstOfSet (k_l Γ) (k_D Γ) a cI cO gI _ _ h) 1 rfl wC_1 (cwV 0 G.2.2.2.2.1 gX3_members_X3_firstOfSet rfl rfl rfl hdv_X3_firstOfSet ⟨Nat.le_of_ble_eq_true rfl, Nat.le_of_ble_eq_true rfl⟩) [0, 1] rfl (fun _ hP => hP) rfl rfl (Nat.le_of_ble_eq_true rfl) dX3_members_3 (fun r_3 h => ?_)
  refine r_istore_n (lv' := [(2, .int r_3), (1, .int (0 : Int32)), (0, .ref (a 1))]) G dX3_members_6 rfl (by decide) rfl ?_
  obtain ⟨I_7, n_7, h, hI_7⟩ := h
  have key_7 : ∀ (n : Nat) (x1_7 : Int32) (x2_7 : Int32), I_7 n x1_7 x2_7 → k_J Γ rm_X3_members 3 true (wC a cI cO gI) 7 [(0, .ref (a 1)), (1, .int x1_7), (2, .int x2_7)] [] σ := by
    intro n
    induction n using Nat.strongRecOn with
    | ind n ih_7 =>
      intro x1_7 x2_7 h
      replace h := hI_7 n x1_7 x2_7 h
      refine r_iload_n G dX3_members_7 2 rfl rfl ?_
      refine r_aload_n G dX3_members_8 0 rfl rfl ?_
      refine r_get G inX3 1 1 wC_1 rfl (by decide) lk_15 rfl rfl dX3_members_9 ?_
      refine r_icmp_ge G 43 dX3_members_12 (by decide) (fun hc => ?_) (fun hc => ?_)
      · replace h := h.1 hc
        refine r_iload_n G dX3_members_43 1 rfl rfl ?_
        exact r_iretR G E dX3_members_44 h
      · replace h := h.2 hc
        refine r_aload_n G dX3_members_15 0 rfl rfl ?_
        refine r_iload_n G dX3_members_16 2 rfl rfl ?_
        refine r_cVR G (ci := 3) (cq := (RX3, TX3, 2)) [.int x2_7] [] (c_X3_figureAt (k_l Γ) (k_D Γ) a cI cO gI _ _ _ h) 1 rfl wC_1 (cwV 1 G.2.2.2.2.1 gX3_members_X3_figureAt rfl rfl rfl hdv_X3_figureAt ⟨Nat.le_of_ble_eq_true rfl, Nat.le_of_ble_eq_true rfl⟩) [0, 1] rfl (fun _ hP => hP) rfl rfl (Nat.le_of_ble_eq_true rfl) dX3_members_17 (fun r_17 h => ?_)
        refine r_cSNR G [.int r_17] [] (c_X6_isMember (k_l Γ) (k_D Γ) _ _ h) ⟨va_cnB 1 G.2.2.2.2.1 gX3_members_X6_isMember_n37 rfl rfl rfl (G.2.2.2.2.2.2.1 _ (List.mem_of_getElem? (i := 29) rfl)) (G.2.2.2.2.1 (.initialized RX6) (by decide +kernel)) hd_X6_isMember ⟨Nat.le_of_ble_eq_true rfl, Nat.le_of_ble_eq_true rfl⟩, G.2.2.2.2.1 (.static yX6_isMember) (by decide +kernel), trivial⟩ [] rfl (fun _ _ => k_E0) rfl rfl (Nat.le_of_ble_eq_true rfl) dX3_members_20 (fun r_20 h => ?_)
        have hz_20 := h.1
        replace h := h.2
        refine r_if_eq G 37 dX3_members_23 (by decide) (fun hc => ?_) (fun hc => ?_)
        · replace h := h.1 hc
          refine r_iinc (lv' := [(2, .int (x2_7 + (1 : Int32))), (0, .ref (a 1)), (1, .int x1_7)]) G 2 dX3_members_37 kc_1 rfl (by decide) rfl ?_
          refine r_goto G 7 dX3_members_40 (by decide) ?_
          obtain ⟨m_7, hm_7, h⟩ := h
          exact r_sub [1, 2, 0] rfl (ih_7 m_7 hm_7 _ _ h)
        · replace h := h.2 hc
          refine r_iload_n G dX3_members_26 1 rfl rfl ?_
          refine r_aload_n G dX3_members_27 0 rfl rfl ?_
          refine r_iload_n G dX3_members_28 2 rfl rfl ?_
          refine r_cVR G (ci := 3) (cq := (RX3, TX3, 2)) [.int x2_7] [.int x1_7] (c_X3_figureAt (k_l Γ) (k_D Γ) a cI cO gI _ _ _ h) 1 rfl wC_1 (cwV 1 G.2.2.2.2.1 gX3_members_X3_figureAt rfl rfl rfl hdv_X3_figureAt ⟨Nat.le_of_ble_eq_true rfl, Nat.le_of_ble_eq_true rfl⟩) [0, 1] rfl (fun _ hP => hP) rfl rfl (Nat.le_of_ble_eq_true rfl) dX3_members_29 (fun r_29 h => ?_)
          refine r_cSR G [.int r_29] [.int x1_7] (c_X4_only (k_l Γ) (k_D Γ) _ _ h) (va_cwS 1 G.2.2.2.2.1 gX3_members_X4_only rfl rfl rfl hd_X4_only ⟨Nat.le_of_ble_eq_true rfl, Nat.le_of_ble_eq_true rfl⟩) [] rfl (fun _ _ => k_E0) rfl rfl (Nat.le_of_ble_eq_true rfl) dX3_members_32 (fun r_32 h => ?_)
          refine r_ior G dX3_members_35 ?_
          refine r_istore_n (lv' := [(1, .int (x1_7 ||| r_32)), (0, .ref (a 1)), (2, .int x2_7)]) G dX3_members_36 rfl (by decide) rfl ?_
          refine r_iinc (lv' := [(2, .int (x2_7 + (1 : Int32))), (1, .int (x1_7 ||| r_32)), (0, .ref (a 1))]) G 2 dX3_members_37 kc_1 rfl (by decide) rfl ?_
          refine r_goto G 7 dX3_members_40 (by decide) ?_
          obtain ⟨m_7, hm_7, h⟩ := h
          exact r_sub [2, 1, 0] rfl (ih_7 m_7 hm_7 _ _ h)
  exact r_sub [2, 1, 0] rfl (key_7 n_7 _ _ h)
abbrev rm_X2_rebuild : Room := { frames := 5, cells := 0, slots := 0, locals := 113 }
def wp_X2_rebuild (σ : k_M) (p1 p2 : Int32) (Q : Int32 → k_M → Prop) : Prop :=
  wp_X6_isMember p1 (fun (r_1 : Int32) => ((r_1 = 0 → Q (-5 : Int32) σ) ∧ (¬ r_1 = 0 → wp_X4_has (σ 4 6) p1 (fun (r_15 : Int32) => ((r_15 = 0 → wp_X2_openedByThose σ p2 p1 (fun (r_27 : Int32) (σ_27 : k_M) => ((0 ≤ r_27 → (vp_in p1 8 ∧ wp_X4_only p1 (fun (r_56 : Int32) => Q (1 : Int32) (k_put (k_put σ_27 7 p1.toNatClampNeg r_27) 4 6 (((k_put σ_27 7 p1.toNatClampNeg r_27) 4 6) ||| r_56))))) ∧ (¬ 0 ≤ r_27 → Q r_27 σ_27)))) ∧ (¬ r_15 = 0 → Q (-5 : Int32) σ))))))
theorem hd_X2_rebuild : yX2_rebuild.cls ≠ "java/lang/invoke/MethodHandle" ∧ yX2_rebuild.cls ≠ "java/lang/invoke/VarHandle" ∧ (parseMethodDescriptor yX2_rebuild.desc).map (fun d => d.parameters.length) = some 2 := by decide +kernel
theorem hdv_X2_rebuild : yX2_rebuild.cls = RX2 ∧ yX2_rebuild.cls ≠ "java/lang/invoke/MethodHandle" ∧ yX2_rebuild.cls ≠ "java/lang/invoke/VarHandle" ∧ (parseMethodDescriptor yX2_rebuild.desc).map (fun d => d.parameters.length) = some 2 := ⟨rfl, hd_X2_rebuild⟩
set_option maxHeartbeats 4000000 in
set_option maxRecDepth 100000 in
theorem c_X2_rebuild (l : Launch) (D : va_G) (a : Nat → Nat) (cI cO : ClassId) (gI : Nat → Option Nat) (σ : k_M) (p1 p2 : Int32) (Q : Int32 → k_M → Prop) (h : wp_X2_rebuild σ p1 p2 Q) : Met l yX2_rebuild wsX2_rebuild rm_X2_rebuild (k_PW D [(cI, .int), (cO, .object "FreshShares$Circle")] (wC a cI cO gI) σ [.ref (a 3), .int p1, .int p2]) (k_Qi D (wC a cI cO gI) Q) 0 0 (k_wA (wC a cI cO gI)) := by
  refine k_metW (Qc := fun D => k_Qi D (wC a cI cO gI) Q) (by decide) rfl (Nat.le_of_ble_eq_true rfl) ?_
  intro Γ G hD E
  unfold wp_X2_rebuild at h
  have inX0 : ∀ w ∈ wsX00, w ∈ wsX2_rebuild := by decide +kernel
  have inX2 : ∀ w ∈ wsX20, w ∈ wsX2_rebuild := by decide +kernel
  have lk_12 := G.2.2.2.2.1 (.fieldLink RX2 12 "FreshShares$Orders" "circle" "LFreshShares$Circle;") (by decide +kernel)
  show k_J Γ rm_X2_rebuild 4 false (wC a cI cO gI) 0 [(0, .ref (a 3)), (1, .int p1), (2, .int p2)] [] σ
  refine r_iload_n G dX2_rebuild_0 1 rfl rfl ?_
  refine r_cSNR G [.int p1] [] (c_X6_isMember (k_l Γ) (k_D Γ) _ _ h) ⟨va_cnB 1 G.2.2.2.2.1 gX2_rebuild_X6_isMember_n154 rfl rfl rfl (G.2.2.2.2.2.2.1 _ (List.mem_of_getElem? (i := 30) rfl)) (G.2.2.2.2.1 (.initialized RX6) (by decide +kernel)) hd_X6_isMember ⟨Nat.le_of_ble_eq_true rfl, Nat.le_of_ble_eq_true rfl⟩, G.2.2.2.2.1 (.static yX6_isMember) (by decide +kernel), trivial⟩ [] rfl (fun _ _ => k_E0) rfl rfl (Nat.le_of_ble_eq_true rfl) dX2_rebuild_1 (fun r_1 h => ?_)
  have hz_1 := h.1
  replace h := h.2
  refine r_if_eq G 21 dX2_rebuild_4 (by decide) (fun hc => ?_) (fun hc => ?_)
  · replace h := h.1 hc
    refine r_bipush G (-5 : Int32) dX2_rebuild_21 kb_m5 ?_
    exact r_iretW G E dX2_rebuild_23 h
  · replace h := h.2 hc
    refine r_aload_n G dX2_rebuild_7 0 rfl rfl ?_
    refine r_get G inX2 3 0 wC_3 rfl (by decide) lk_12 rfl rfl dX2_rebuild_8 ?_
    refine r_getN G inX0 4 6 wC_4 rfl (by decide) (G.2.2.2.2.2.2.at 17 rfl rfl) rfl rfl dX2_rebuild_11 ?_
    refine r_iload_n G dX2_rebuild_14 1 rfl rfl ?_
    refine r_cSR G [.int (σ 4 6), .int p1] [] (c_X4_has (k_l Γ) (k_D Γ) _ _ _ h) (va_cwS 2 G.2.2.2.2.1 gX2_rebuild_X4_has rfl rfl rfl hd_X4_has ⟨Nat.le_of_ble_eq_true rfl, Nat.le_of_ble_eq_true rfl⟩) [] rfl (fun _ _ => k_E0) rfl rfl (Nat.le_of_ble_eq_true rfl) dX2_rebuild_15 (fun r_15 h => ?_)
    have hz_15 := h.1
    replace h := h.2
    refine r_if_eq G 24 dX2_rebuild_18 (by decide) (fun hc => ?_) (fun hc => ?_)
    · replace h := h.1 hc
      refine r_aload_n G dX2_rebuild_24 0 rfl rfl ?_
      refine r_iload_n G dX2_rebuild_25 2 rfl rfl ?_
      refine r_iload_n G dX2_rebuild_26 1 rfl rfl ?_
      refine r_cVWi G hD (ci := 2) (cq := (RX2, TX2, 6)) [.int p2, .int p1] [] (c_X2_openedByThose (k_l Γ) (k_D Γ) a cI cO gI _ _ _ _ h) 3 rfl wC_3 (cwV 2 G.2.2.2.2.1 gX2_rebuild_X2_openedByThose rfl rfl rfl hdv_X2_openedByThose ⟨Nat.le_of_ble_eq_true rfl, Nat.le_of_ble_eq_true rfl⟩) [0, 1] rfl rfl rfl (Nat.le_of_ble_eq_true rfl) dX2_rebuild_27 (fun r_27 σ_27 h => ?_)
      refine r_istore_n (lv' := [(3, .int r_27), (0, .ref (a 3)), (1, .int p1), (2, .int p2)]) G dX2_rebuild_30 rfl (by decide) rfl ?_
      refine r_iload_n G dX2_rebuild_31 0 rfl rfl ?_
      refine r_if_ge G 37 dX2_rebuild_32 (by decide) (fun hc => ?_) (fun hc => ?_)
      · replace h := h.1 hc
        refine r_aload_n G dX2_rebuild_37 1 rfl rfl ?_
        refine r_get G inX2 3 0 wC_3 rfl (by decide) lk_12 rfl rfl dX2_rebuild_38 ?_
        refine r_getN G inX0 4 2 wC_4 rfl (by decide) (G.2.2.2.2.2.2.at 11 rfl rfl) rfl rfl dX2_rebuild_41 ?_
        refine r_iload_n G dX2_rebuild_44 2 rfl rfl ?_
        refine r_iload_n G dX2_rebuild_45 0 rfl rfl ?_
        refine r_iast G hD 7 0 wC_7 rfl h.1 _ wC_7_s dX2_rebuild_46 ?_
        replace h := h.2
        refine r_aload_n G dX2_rebuild_47 1 rfl rfl ?_
        refine r_get G inX2 3 0 wC_3 rfl (by decide) lk_12 rfl rfl dX2_rebuild_48 ?_
        refine r_dup G rfl dX2_rebuild_51 ?_
        refine r_getN G inX0 4 6 wC_4 rfl (by decide) (G.2.2.2.2.2.2.at 17 rfl rfl) rfl rfl dX2_rebuild_52 ?_
        refine r_iload_n G dX2_rebuild_55 2 rfl rfl ?_
        refine r_cSR G [.int p1] [.int ((k_put σ_27 7 p1.toNatClampNeg r_27) 4 6), .ref (a 4)] (c_X4_only (k_l Γ) (k_D Γ) _ _ h) (va_cwS 1 G.2.2.2.2.1 gX2_rebuild_X4_only rfl rfl rfl hd_X4_only ⟨Nat.le_of_ble_eq_true rfl, Nat.le_of_ble_eq_true rfl⟩) [] rfl (fun _ _ => k_E0) rfl rfl (Nat.le_of_ble_eq_true rfl) dX2_rebuild_56 (fun r_56 h => ?_)
        refine r_ior G dX2_rebuild_59 ?_
        refine r_putN G hD tyX0 tyX0_ok nmX0 inX0 4 6 wC_4 rfl (by decide) (G.2.2.2.2.2.2.at 17 rfl rfl) rfl rfl (ty := .int) (by decide +kernel) rfl rfl (Nat.le_of_ble_eq_true rfl) _ wC_4_6 dX2_rebuild_60 ?_
        refine r_iconst G (1 : Int32) dX2_rebuild_63 kc_1 ?_
        exact r_iretW G E dX2_rebuild_64 h
      · replace h := h.2 hc
        refine r_iload_n G dX2_rebuild_35 0 rfl rfl ?_
        exact r_iretW G E dX2_rebuild_36 h
    · replace h := h.2 hc
      refine r_bipush G (-5 : Int32) dX2_rebuild_21 kb_m5 ?_
      exact r_iretW G E dX2_rebuild_23 h
abbrev rm_X2_steal : Room := { frames := 2, cells := 0, slots := 0, locals := 43 }
def wp_X2_steal (σ : k_M) (p1 : Int32) (Q : Int32 → k_M → Prop) : Prop :=
  wp_X6_isMember p1 (fun (r_1 : Int32) => ((r_1 = 0 → Q (-5 : Int32) σ) ∧ (¬ r_1 = 0 → wp_X4_has (σ 4 6) p1 (fun (r_15 : Int32) => ((r_15 = 0 → Q (-5 : Int32) σ) ∧ (¬ r_15 = 0 → (vp_in p1 8 ∧ wp_X1_add σ p1 (σ 4 8) ((σ 7) p1.toNatClampNeg) (fun (σ_48 : k_M) => Q (σ_48 10 3) σ_48))))))))
theorem hd_X2_steal : yX2_steal.cls ≠ "java/lang/invoke/MethodHandle" ∧ yX2_steal.cls ≠ "java/lang/invoke/VarHandle" ∧ (parseMethodDescriptor yX2_steal.desc).map (fun d => d.parameters.length) = some 1 := by decide +kernel
theorem hdv_X2_steal : yX2_steal.cls = RX2 ∧ yX2_steal.cls ≠ "java/lang/invoke/MethodHandle" ∧ yX2_steal.cls ≠ "java/lang/invoke/VarHandle" ∧ (parseMethodDescriptor yX2_steal.desc).map (fun d => d.parameters.length) = some 1 := ⟨rfl, hd_X2_steal⟩
set_option maxHeartbeats 4000000 in
set_option maxRecDepth 100000 in
theorem c_X2_steal (l : Launch) (D : va_G) (a : Nat → Nat) (cI cO : ClassId) (gI : Nat → Option Nat) (σ : k_M) (p1 : Int32) (Q : Int32 → k_M → Prop) (h : wp_X2_steal σ p1 Q) : Met l yX2_steal wsX2_steal rm_X2_steal (k_PW D [(cI, .int), (cO, .object "FreshShares$Circle")] (wC a cI cO gI) σ [.ref (a 3), .int p1]) (k_Qi D (wC a cI cO gI) Q) 0 0 (k_wA (wC a cI cO gI)) := by
  refine k_metW (Qc := fun D => k_Qi D (wC a cI cO gI) Q) (by decide) rfl (Nat.le_of_ble_eq_true rfl) ?_
  intro Γ G hD E
  unfold wp_X2_steal at h
  have inX0 : ∀ w ∈ wsX00, w ∈ wsX2_steal := by decide +kernel
  have inX1 : ∀ w ∈ wsX10, w ∈ wsX2_steal := by decide +kernel
  have inX2 : ∀ w ∈ wsX20, w ∈ wsX2_steal := by decide +kernel
  have lk_12 := G.2.2.2.2.1 (.fieldLink RX2 12 "FreshShares$Orders" "circle" "LFreshShares$Circle;") (by decide +kernel)
  show k_J Γ rm_X2_steal 2 false (wC a cI cO gI) 0 [(0, .ref (a 3)), (1, .int p1)] [] σ
  refine r_iload_n G dX2_steal_0 1 rfl rfl ?_
  refine r_cSNR G [.int p1] [] (c_X6_isMember (k_l Γ) (k_D Γ) _ _ h) ⟨va_cnB 1 G.2.2.2.2.1 gX2_steal_X6_isMember_n154 rfl rfl rfl (G.2.2.2.2.2.2.1 _ (List.mem_of_getElem? (i := 30) rfl)) (G.2.2.2.2.1 (.initialized RX6) (by decide +kernel)) hd_X6_isMember ⟨Nat.le_of_ble_eq_true rfl, Nat.le_of_ble_eq_true rfl⟩, G.2.2.2.2.1 (.static yX6_isMember) (by decide +kernel), trivial⟩ [] rfl (fun _ _ => k_E0) rfl rfl (Nat.le_of_ble_eq_true rfl) dX2_steal_1 (fun r_1 h => ?_)
  have hz_1 := h.1
  replace h := h.2
  refine r_if_eq G 21 dX2_steal_4 (by decide) (fun hc => ?_) (fun hc => ?_)
  · replace h := h.1 hc
    refine r_bipush G (-5 : Int32) dX2_steal_21 kb_m5 ?_
    exact r_iretW G E dX2_steal_23 h
  · replace h := h.2 hc
    refine r_aload_n G dX2_steal_7 0 rfl rfl ?_
    refine r_get G inX2 3 0 wC_3 rfl (by decide) lk_12 rfl rfl dX2_steal_8 ?_
    refine r_getN G inX0 4 6 wC_4 rfl (by decide) (G.2.2.2.2.2.2.at 17 rfl rfl) rfl rfl dX2_steal_11 ?_
    refine r_iload_n G dX2_steal_14 1 rfl rfl ?_
    refine r_cSR G [.int (σ 4 6), .int p1] [] (c_X4_has (k_l Γ) (k_D Γ) _ _ _ h) (va_cwS 2 G.2.2.2.2.1 gX2_steal_X4_has rfl rfl rfl hd_X4_has ⟨Nat.le_of_ble_eq_true rfl, Nat.le_of_ble_eq_true rfl⟩) [] rfl (fun _ _ => k_E0) rfl rfl (Nat.le_of_ble_eq_true rfl) dX2_steal_15 (fun r_15 h => ?_)
    have hz_15 := h.1
    replace h := h.2
    refine r_if_ne G 24 dX2_steal_18 (by decide) (fun hc => ?_) (fun hc => ?_)
    · replace h := h.2 hc
      refine r_aload_n G dX2_steal_24 0 rfl rfl ?_
      refine r_get G inX2 3 0 wC_3 rfl (by decide) lk_12 rfl rfl dX2_steal_25 ?_
      refine r_getN G inX0 4 5 wC_4 rfl (by decide) (G.2.2.2.2.2.2.at 15 rfl rfl) rfl rfl dX2_steal_28 ?_
      refine r_iload_n G dX2_steal_31 1 rfl rfl ?_
      refine r_aload_n G dX2_steal_32 0 rfl rfl ?_
      refine r_get G inX2 3 0 wC_3 rfl (by decide) lk_12 rfl rfl dX2_steal_33 ?_
      refine r_getN G inX0 4 8 wC_4 rfl (by decide) (G.2.2.2.2.2.2.at 21 rfl rfl) rfl rfl dX2_steal_36 ?_
      refine r_aload_n G dX2_steal_39 0 rfl rfl ?_
      refine r_get G inX2 3 0 wC_3 rfl (by decide) lk_12 rfl rfl dX2_steal_40 ?_
      refine r_getN G inX0 4 2 wC_4 rfl (by decide) (G.2.2.2.2.2.2.at 11 rfl rfl) rfl rfl dX2_steal_43 ?_
      refine r_iload_n G dX2_steal_46 1 rfl rfl ?_
      refine r_iald G 7 0 wC_7 rfl h.1 dX2_steal_47 ?_
      replace h := h.2
      refine r_cVWv G hD (ci := 1) (cq := (RX1, TX1, 4)) [.int p1, .int (σ 4 8), .int ((σ 7) p1.toNatClampNeg)] [] (c_X1_add (k_l Γ) (k_D Γ) a cI cO gI _ _ _ _ _ h) 10 rfl wC_10 (cwV 3 G.2.2.2.2.1 gX2_steal_X1_add rfl rfl rfl hdv_X1_add ⟨Nat.le_of_ble_eq_true rfl, Nat.le_of_ble_eq_true rfl⟩) [0, 1] rfl rfl rfl (Nat.le_of_ble_eq_true rfl) dX2_steal_48 (fun σ_48 h => ?_)
      refine r_aload_n G dX2_steal_51 0 rfl rfl ?_
      refine r_get G inX2 3 0 wC_3 rfl (by decide) lk_12 rfl rfl dX2_steal_52 ?_
      refine r_getN G inX0 4 5 wC_4 rfl (by decide) (G.2.2.2.2.2.2.at 15 rfl rfl) rfl rfl dX2_steal_55 ?_
      refine r_getN G inX1 10 3 wC_10 rfl (by decide) (G.2.2.2.2.2.2.at 5 rfl rfl) rfl rfl dX2_steal_58 ?_
      exact r_iretW G E dX2_steal_61 h
    · replace h := h.1 hc
      refine r_bipush G (-5 : Int32) dX2_steal_21 kb_m5 ?_
      exact r_iretW G E dX2_steal_23 h
abbrev rm_X2_perform : Room := { frames := 6, cells := 0, slots := 0, locals := 136 }
def wp_X2_perform (σ : k_M) (Q : Int32 → k_M → Prop) : Prop :=
  wp_X3_letter (k_put (k_put σ 4 9 (0 : Int32)) 4 10 (0 : Int32)) (fun (r_17 : Int32) => (∃ K_40 : Prop, ( K_40  → wp_X2_isFull (k_put (k_put σ 4 9 (0 : Int32)) 4 10 (0 : Int32)) r_17 (fun (r_42 : Int32) => ((r_42 = 0 → wp_X3_figureAt (k_put (k_put σ 4 9 (0 : Int32)) 4 10 (0 : Int32)) (1 : Int32) (fun (r_53 : Int32) => wp_X3_members (k_put (k_put σ 4 9 (0 : Int32)) 4 10 (0 : Int32)) (fun (r_58 : Int32) => ((r_17 = (98 : Int32) → wp_X2_rebuild (k_put (k_put σ 4 9 (0 : Int32)) 4 10 (0 : Int32)) r_53 r_58 (fun (r_197 : Int32) (σ_197 : k_M) => Q r_197 σ_197)) ∧ (¬ r_17 = (98 : Int32) → ((r_17 = (99 : Int32) → Q (-7 : Int32) (k_put (k_put σ 4 9 (0 : Int32)) 4 10 (0 : Int32))) ∧ (¬ r_17 = (99 : Int32) → ((r_17 = (100 : Int32) → wp_X2_deal (k_put (k_put σ 4 9 (0 : Int32)) 4 10 (0 : Int32)) r_53 (fun (r_170 : Int32) (σ_170 : k_M) => Q r_170 σ_170)) ∧ (¬ r_17 = (100 : Int32) → ((r_17 = (101 : Int32) → Q (-7 : Int32) (k_put (k_put σ 4 9 (0 : Int32)) 4 10 (0 : Int32))) ∧ (¬ r_17 = (101 : Int32) → ((r_17 = (102 : Int32) → wp_X2_fresh (k_put (k_put σ 4 9 (0 : Int32)) 4 10 (0 : Int32)) (fun (r_175 : Int32) (σ_175 : k_M) => Q r_175 σ_175)) ∧ (¬ r_17 = (102 : Int32) → ((r_17 = (103 : Int32) → Q (-7 : Int32) (k_put (k_put σ 4 9 (0 : Int32)) 4 10 (0 : Int32))) ∧ (¬ r_17 = (103 : Int32) → ((r_17 = (104 : Int32) → Q (-7 : Int32) (k_put (k_put σ 4 9 (0 : Int32)) 4 10 (0 : Int32))) ∧ (¬ r_17 = (104 : Int32) → ((r_17 = (105 : Int32) → Q (-7 : Int32) (k_put (k_put σ 4 9 (0 : Int32)) 4 10 (0 : Int32))) ∧ (¬ r_17 = (105 : Int32) → ((r_17 = (106 : Int32) → Q (-7 : Int32) (k_put (k_put σ 4 9 (0 : Int32)) 4 10 (0 : Int32))) ∧ (¬ r_17 = (106 : Int32) → ((r_17 = (107 : Int32) → Q (-7 : Int32) (k_put (k_put σ 4 9 (0 : Int32)) 4 10 (0 : Int32))) ∧ (¬ r_17 = (107 : Int32) → ((r_17 = (108 : Int32) → Q (-7 : Int32) (k_put (k_put σ 4 9 (0 : Int32)) 4 10 (0 : Int32))) ∧ (¬ r_17 = (108 : Int32) → ((r_17 = (109 : Int32) → Q (-7 : Int32) (k_put (k_put σ 4 9 (0 : Int32)) 4 10 (0 : Int32))) ∧ (¬ r_17 = (109 : Int32) → ((r_17 = (110 : Int32) → Q (-7 : Int32) (k_put (k_put σ 4 9 (0 : Int32)) 4 10 (0 : Int32))) ∧ (¬ r_17 = (110 : Int32) → ((r_17 = (111 : Int32) → wp_X2_openedByThose (k_put (k_put σ 4 9 (0 : Int32)) 4 10 (0 : Int32)) r_58 (0 : Int32) (fun (r_183 : Int32) (σ_183 : k_M) => Q r_183 σ_183)) ∧ (¬ r_17 = (111 : Int32) → ((r_17 = (112 : Int32) → Q (-7 : Int32) (k_put (k_put σ 4 9 (0 : Int32)) 4 10 (0 : Int32))) ∧ (¬ r_17 = (112 : Int32) → ((r_17 = (113 : Int32) → Q (-7 : Int32) (k_put (k_put σ 4 9 (0 : Int32)) 4 10 (0 : Int32))) ∧ (¬ r_17 = (113 : Int32) → ((r_17 = (114 : Int32) → Q (-7 : Int32) (k_put (k_put σ 4 9 (0 : Int32)) 4 10 (0 : Int32))) ∧ (¬ r_17 = (114 : Int32) → ((r_17 = (115 : Int32) → wp_X2_steal (k_put (k_put σ 4 9 (0 : Int32)) 4 10 (0 : Int32)) r_53 (fun (r_211 : Int32) (σ_211 : k_M) => Q r_211 σ_211)) ∧ (¬ r_17 = (115 : Int32) → ((r_17 = (116 : Int32) → wp_X2_move (k_put (k_put σ 4 9 (0 : Int32)) 4 10 (0 : Int32)) r_53 r_58 (fun (r_205 : Int32) (σ_205 : k_M) => Q r_205 σ_205)) ∧ (¬ r_17 = (116 : Int32) → ((r_17 = (117 : Int32) → Q (-7 : Int32) (k_put (k_put σ 4 9 (0 : Int32)) 4 10 (0 : Int32))) ∧ (¬ r_17 = (117 : Int32) → ((r_17 = (118 : Int32) → Q (-7 : Int32) (k_put (k_put σ 4 9 (0 : Int32)) 4 10 (0 : Int32))) ∧ (¬ r_17 = (118 : Int32) → ((r_17 = (119 : Int32) → wp_X2_lose (k_put (k_put σ 4 9 (0 : Int32)) 4 10 (0 : Int32)) r_53 (fun (r_189 : Int32) (σ_189 : k_M) => Q r_189 σ_189)) ∧ (¬ r_17 = (119 : Int32) → Q (-7 : Int32) (k_put (k_put σ 4 9 (0 : Int32)) 4 10 (0 : Int32))))))))))))))))))))))))))))))))))))))))))))))))) ∧ (¬ r_42 = 0 → Q (-4 : Int32) (k_put (k_put σ 4 9 (0 : Int32)) 4 10 (0 : Int32)))))) ∧ ((r_17 = (100 : Int32) → K_40) ∧ (¬ r_17 = (100 : Int32) → wp_X0_isDealt (k_put (k_put σ 4 9 (0 : Int32)) 4 10 (0 : Int32)) (fun (r_31 : Int32) => ((r_31 = 0 → Q (-3 : Int32) (k_put (k_put σ 4 9 (0 : Int32)) 4 10 (0 : Int32))) ∧ (¬ r_31 = 0 → K_40)))))))
theorem hd_X2_perform : yX2_perform.cls ≠ "java/lang/invoke/MethodHandle" ∧ yX2_perform.cls ≠ "java/lang/invoke/VarHandle" ∧ (parseMethodDescriptor yX2_perform.desc).map (fun d => d.parameters.length) = some 1 := by decide +kernel
theorem hdv_X2_perform : yX2_perform.cls = RX2 ∧ yX2_perform.cls ≠ "java/lang/invoke/MethodHandle" ∧ yX2_perform.cls ≠ "java/lang/invoke/VarHandle" ∧ (parseMethodDescriptor yX2_perform.desc).map (fun d => d.parameters.length) = some 1 := ⟨rfl, hd_X2_perform⟩
set_option maxHeartbeats 4000000 in
set_option maxRecDepth 100000 in
theorem c_X2_perform (l : Launch) (D : va_G) (a : Nat → Nat) (cI cO : ClassId) (gI : Nat → Option Nat) (σ : k_M) (Q : Int32 → k_M → Prop) (h : wp_X2_perform σ  Q) : Met l yX2_perform wsX2_perform rm_X2_perform (k_PW D [(cI, .int), (cO, .object "FreshShares$Circle")] (wC a cI cO gI) σ [.ref (a 3), .ref (a 1)]) (k_Qi D (wC a cI cO gI) Q) 0 0 (k_wA (wC a cI cO gI)) := by
  refine k_metW (Qc := fun D => k_Qi D (wC a cI cO gI) Q) (by decide) rfl (Nat.le_of_ble_eq_true rfl) ?_
  intro Γ G hD E
  unfold wp_X2_perform at h
  have inX0 : ∀ w ∈ wsX00, w ∈ wsX2_perform := by decide +kernel
  have inX2 : ∀ w ∈ wsX20, w ∈ wsX2_perform := by decide +kernel
  have lk_12 := G.2.2.2.2.1 (.fieldLink RX2 12 "FreshShares$Orders" "circle" "LFreshShares$Circle;") (by decide +kernel)
  show k_J Γ rm_X2_perform 5 false (wC a cI cO gI) 0 [(0, .ref (a 3)), (1, .ref (a 1))] [] σ
  refine r_aload_n G dX2_perform_0 0 rfl rfl ?_
  refine r_get G inX2 3 0 wC_3 rfl (by decide) lk_12 rfl rfl dX2_perform_1 ?_
  refine r_iconst G (0 : Int32) dX2_perform_4 kc_0 ?_
  refine r_putN G hD tyX0 tyX0_ok nmX0 inX0 4 9 wC_4 rfl (by decide) (G.2.2.2.2.2.2.at 23 rfl rfl) rfl rfl (ty := .int) (by decide +kernel) rfl rfl (Nat.le_of_ble_eq_true rfl) _ wC_4_9 dX2_perform_5 ?_
  refine r_aload_n G dX2_perform_8 0 rfl rfl ?_
  refine r_get G inX2 3 0 wC_3 rfl (by decide) lk_12 rfl rfl dX2_perform_9 ?_
  refine r_iconst G (0 : Int32) dX2_perform_12 kc_0 ?_
  refine r_putN G hD tyX0 tyX0_ok nmX0 inX0 4 10 wC_4 rfl (by decide) (G.2.2.2.2.2.2.at 25 rfl rfl) rfl rfl (ty := .int) (by decide +kernel) rfl rfl (Nat.le_of_ble_eq_true rfl) _ wC_4_10 dX2_perform_13 ?_
  refine r_aload_n G dX2_perform_16 1 rfl rfl ?_
  refine r_cVR G (ci := 3) (cq := (RX3, TX3, 2)) [] [] (c_X3_letter (k_l Γ) (k_D Γ) a cI cO gI _ _ h) 1 rfl wC_1 (cwV 0 G.2.2.2.2.1 gX2_perform_X3_letter rfl rfl rfl hdv_X3_letter ⟨Nat.le_of_ble_eq_true rfl, Nat.le_of_ble_eq_true rfl⟩) [0, 1] rfl (fun _ hP => hP) rfl rfl (Nat.le_of_ble_eq_true rfl) dX2_perform_17 (fun r_17 h => ?_)
  refine r_istore_n (lv' := [(2, .int r_17), (0, .ref (a 3)), (1, .ref (a 1))]) G dX2_perform_20 rfl (by decide) rfl ?_
  refine r_iload_n G dX2_perform_21 0 rfl rfl ?_
  refine r_bipush G (100 : Int32) dX2_perform_22 kb_100 ?_
  obtain ⟨K_40, hK_40, h⟩ := h
  have kj_40 :  K_40  → k_J Γ rm_X2_perform 5 false (wC a cI cO gI) 40 [(0, .ref (a 3)), (1, .ref (a 1)), (2, .int r_17)] [] (k_put (k_put σ 4 9 (0 : Int32)) 4 10 (0 : Int32)) := by
    intro  h
    replace h := hK_40  h
    refine r_aload_n G dX2_perform_40 0 rfl rfl ?_
    refine r_iload_n G dX2_perform_41 2 rfl rfl ?_
    refine r_cVR G (ci := 2) (cq := (RX2, TX2, 6)) [.int r_17] [] (c_X2_isFull (k_l Γ) (k_D Γ) a cI cO gI _ _ _ h) 3 rfl wC_3 (cwV 1 G.2.2.2.2.1 gX2_perform_X2_isFull rfl rfl rfl hdv_X2_isFull ⟨Nat.le_of_ble_eq_true rfl, Nat.le_of_ble_eq_true rfl⟩) [0, 1] rfl (fun _ hP => hP) rfl rfl (Nat.le_of_ble_eq_true rfl) dX2_perform_42 (fun r_42 h => ?_)
    have hz_42 := h.1
    replace h := h.2
    refine r_if_eq G 51 dX2_perform_45 (by decide) (fun hc => ?_) (fun hc => ?_)
    · replace h := h.1 hc
      refine r_aload_n G dX2_perform_51 1 rfl rfl ?_
      refine r_iconst G (1 : Int32) dX2_perform_52 kc_1 ?_
      refine r_cVR G (ci := 3) (cq := (RX3, TX3, 2)) [.int (1 : Int32)] [] (c_X3_figureAt (k_l Γ) (k_D Γ) a cI cO gI _ _ _ h) 1 rfl wC_1 (cwV 1 G.2.2.2.2.1 gX2_perform_X3_figureAt rfl rfl rfl hdv_X3_figureAt ⟨Nat.le_of_ble_eq_true rfl, Nat.le_of_ble_eq_true rfl⟩) [0, 1] rfl (fun _ hP => hP) rfl rfl (Nat.le_of_ble_eq_true rfl) dX2_perform_53 (fun r_53 h => ?_)
      refine r_istore_n (lv' := [(3, .int r_53), (0, .ref (a 3)), (1, .ref (a 1)), (2, .int r_17)]) G dX2_perform_56 rfl (by decide) rfl ?_
      refine r_aload_n G dX2_perform_57 2 rfl rfl ?_
      refine r_cVR G (ci := 3) (cq := (RX3, TX3, 2)) [] [] (c_X3_members (k_l Γ) (k_D Γ) a cI cO gI _ _ h) 1 rfl wC_1 (cwV 0 G.2.2.2.2.1 gX2_perform_X3_members rfl rfl rfl hdv_X3_members ⟨Nat.le_of_ble_eq_true rfl, Nat.le_of_ble_eq_true rfl⟩) [0, 1] rfl (fun _ hP => hP) rfl rfl (Nat.le_of_ble_eq_true rfl) dX2_perform_58 (fun r_58 h => ?_)
      refine r_istore (lv' := [(4, .int r_58), (3, .int r_53), (0, .ref (a 3)), (1, .ref (a 1)), (2, .int r_17)]) G dX2_perform_61 (by decide) rfl ?_
      refine r_iload_n G dX2_perform_63 4 rfl rfl ?_
      rcases Classical.em (r_17 = (98 : Int32)) with hs_0 | hs_0
      · replace h := h.1 hs_0
        refine r_tableIn G 193 dX2_perform_64 98 (khit hs_0 kt_98) (by decide) (by decide) (off := 129) rfl (by decide) ?_
        refine r_aload_n G dX2_perform_193 2 rfl rfl ?_
        refine r_iload_n G dX2_perform_194 1 rfl rfl ?_
        refine r_iload G dX2_perform_195 0 rfl ?_
        refine r_cVWi G hD (ci := 2) (cq := (RX2, TX2, 6)) [.int r_53, .int r_58] [] (c_X2_rebuild (k_l Γ) (k_D Γ) a cI cO gI _ _ _ _ h) 3 rfl wC_3 (cwV 2 G.2.2.2.2.1 gX2_perform_X2_rebuild rfl rfl rfl hdv_X2_rebuild ⟨Nat.le_of_ble_eq_true rfl, Nat.le_of_ble_eq_true rfl⟩) [0, 1] rfl rfl rfl (Nat.le_of_ble_eq_true rfl) dX2_perform_197 (fun r_197 σ_197 h => ?_)
        exact r_iretW G E dX2_perform_200 h
      replace h := h.2 hs_0
      rcases Classical.em (r_17 = (99 : Int32)) with hs_1 | hs_1
      · replace h := h.1 hs_1
        refine r_tableIn G 215 dX2_perform_64 99 (khit hs_1 kt_99) (by decide) (by decide) (off := 151) rfl (by decide) ?_
        refine r_bipush G (-7 : Int32) dX2_perform_215 kb_m7 ?_
        exact r_iretW G E dX2_perform_217 h
      replace h := h.2 hs_1
      rcases Classical.em (r_17 = (100 : Int32)) with hs_2 | hs_2
      · replace h := h.1 hs_2
        refine r_tableIn G 168 dX2_perform_64 100 (khit hs_2 kt_100) (by decide) (by decide) (off := 104) rfl (by decide) ?_
        refine r_aload_n G dX2_perform_168 2 rfl rfl ?_
        refine r_iload_n G dX2_perform_169 1 rfl rfl ?_
        refine r_cVWi G hD (ci := 2) (cq := (RX2, TX2, 6)) [.int r_53] [] (c_X2_deal (k_l Γ) (k_D Γ) a cI cO gI _ _ _ h) 3 rfl wC_3 (cwV 1 G.2.2.2.2.1 gX2_perform_X2_deal rfl rfl rfl hdv_X2_deal ⟨Nat.le_of_ble_eq_true rfl, Nat.le_of_ble_eq_true rfl⟩) [0, 1] rfl rfl rfl (Nat.le_of_ble_eq_true rfl) dX2_perform_170 (fun r_170 σ_170 h => ?_)
        exact r_iretW G E dX2_perform_173 h
      replace h := h.2 hs_2
      rcases Classical.em (r_17 = (101 : Int32)) with hs_3 | hs_3
      · replace h := h.1 hs_3
        refine r_tableIn G 215 dX2_perform_64 101 (khit hs_3 kt_101) (by decide) (by decide) (off := 151) rfl (by decide) ?_
        refine r_bipush G (-7 : Int32) dX2_perform_215 kb_m7 ?_
        exact r_iretW G E dX2_perform_217 h
      replace h := h.2 hs_3
      rcases Classical.em (r_17 = (102 : Int32)) with hs_4 | hs_4
      · replace h := h.1 hs_4
        refine r_tableIn G 174 dX2_perform_64 102 (khit hs_4 kt_102) (by decide) (by decide) (off := 110) rfl (by decide) ?_
        refine r_aload_n G dX2_perform_174 2 rfl rfl ?_
        refine r_cVWi G hD (ci := 2) (cq := (RX2, TX2, 6)) [] [] (c_X2_fresh (k_l Γ) (k_D Γ) a cI cO gI _ _ h) 3 rfl wC_3 (cwV 0 G.2.2.2.2.1 gX2_perform_X2_fresh rfl rfl rfl hdv_X2_fresh ⟨Nat.le_of_ble_eq_true rfl, Nat.le_of_ble_eq_true rfl⟩) [0, 1] rfl rfl rfl (Nat.le_of_ble_eq_true rfl) dX2_perform_175 (fun r_175 σ_175 h => ?_)
        exact r_iretW G E dX2_perform_178 h
      replace h := h.2 hs_4
      rcases Classical.em (r_17 = (103 : Int32)) with hs_5 | hs_5
      · replace h := h.1 hs_5
        refine r_tableIn G 215 dX2_perform_64 103 (khit hs_5 kt_103) (by decide) (by decide) (off := 151) rfl (by decide) ?_
        refine r_bipush G (-7 : Int32) dX2_perform_215 kb_m7 ?_
        exact r_iretW G E dX2_perform_217 h
      replace h := h.2 hs_5
      rcases Classical.em (r_17 = (104 : Int32)) with hs_6 | hs_6
      · replace h := h.1 hs_6
        refine r_tableIn G 215 dX2_perform_64 104 (khit hs_6 kt_104) (by decide) (by decide) (off := 151) rfl (by decide) ?_
        refine r_bipush G (-7 : Int32) dX2_perform_215 kb_m7 ?_
        exact r_iretW G E dX2_perform_217 h
      replace h := h.2 hs_6
      rcases Classical.em (r_17 = (105 : Int32)) with hs_7 | hs_7
      · replace h := h.1 hs_7
        refine r_tableIn G 215 dX2_perform_64 105 (khit hs_7 kt_105) (by decide) (by decide) (off := 151) rfl (by decide) ?_
        refine r_bipush G (-7 : Int32) dX2_perform_215 kb_m7 ?_
        exact r_iretW G E dX2_perform_217 h
      replace h := h.2 hs_7
      rcases Classical.em (r_17 = (106 : Int32)) with hs_8 | hs_8
      · replace h := h.1 hs_8
        refine r_tableIn G 215 dX2_perform_64 106 (khit hs_8 kt_106) (by decide) (by decide) (off := 151) rfl (by decide) ?_
        refine r_bipush G (-7 : Int32) dX2_perform_215 kb_m7 ?_
        exact r_iretW G E dX2_perform_217 h
      replace h := h.2 hs_8
      rcases Classical.em (r_17 = (107 : Int32)) with hs_9 | hs_9
      · replace h := h.1 hs_9
        refine r_tableIn G 215 dX2_perform_64 107 (khit hs_9 kt_107) (by decide) (by decide) (off := 151) rfl (by decide) ?_
        refine r_bipush G (-7 : Int32) dX2_perform_215 kb_m7 ?_
        exact r_iretW G E dX2_perform_217 h
      replace h := h.2 hs_9
      rcases Classical.em (r_17 = (108 : Int32)) with hs_10 | hs_10
      · replace h := h.1 hs_10
        refine r_tableIn G 215 dX2_perform_64 108 (khit hs_10 kt_108) (by decide) (by decide) (off := 151) rfl (by decide) ?_
        refine r_bipush G (-7 : Int32) dX2_perform_215 kb_m7 ?_
        exact r_iretW G E dX2_perform_217 h
      replace h := h.2 hs_10
      rcases Classical.em (r_17 = (109 : Int32)) with hs_11 | hs_11
      · replace h := h.1 hs_11
        refine r_tableIn G 215 dX2_perform_64 109 (khit hs_11 kt_109) (by decide) (by decide) (off := 151) rfl (by decide) ?_
        refine r_bipush G (-7 : Int32) dX2_perform_215 kb_m7 ?_
        exact r_iretW G E dX2_perform_217 h
      replace h := h.2 hs_11
      rcases Classical.em (r_17 = (110 : Int32)) with hs_12 | hs_12
      · replace h := h.1 hs_12
        refine r_tableIn G 215 dX2_perform_64 110 (khit hs_12 kt_110) (by decide) (by decide) (off := 151) rfl (by decide) ?_
        refine r_bipush G (-7 : Int32) dX2_perform_215 kb_m7 ?_
        exact r_iretW G E dX2_perform_217 h
      replace h := h.2 hs_12
      rcases Classical.em (r_17 = (111 : Int32)) with hs_13 | hs_13
      · replace h := h.1 hs_13
        refine r_tableIn G 179 dX2_perform_64 111 (khit hs_13 kt_111) (by decide) (by decide) (off := 115) rfl (by decide) ?_
        refine r_aload_n G dX2_perform_179 2 rfl rfl ?_
        refine r_iload G dX2_perform_180 0 rfl ?_
        refine r_iconst G (0 : Int32) dX2_perform_182 kc_0 ?_
        refine r_cVWi G hD (ci := 2) (cq := (RX2, TX2, 6)) [.int r_58, .int (0 : Int32)] [] (c_X2_openedByThose (k_l Γ) (k_D Γ) a cI cO gI _ _ _ _ h) 3 rfl wC_3 (cwV 2 G.2.2.2.2.1 gX2_perform_X2_openedByThose rfl rfl rfl hdv_X2_openedByThose ⟨Nat.le_of_ble_eq_true rfl, Nat.le_of_ble_eq_true rfl⟩) [0, 1] rfl rfl rfl (Nat.le_of_ble_eq_true rfl) dX2_perform_183 (fun r_183 σ_183 h => ?_)
        exact r_iretW G E dX2_perform_186 h
      replace h := h.2 hs_13
      rcases Classical.em (r_17 = (112 : Int32)) with hs_14 | hs_14
      · replace h := h.1 hs_14
        refine r_tableIn G 215 dX2_perform_64 112 (khit hs_14 kt_112) (by decide) (by decide) (off := 151) rfl (by decide) ?_
        refine r_bipush G (-7 : Int32) dX2_perform_215 kb_m7 ?_
        exact r_iretW G E dX2_perform_217 h
      replace h := h.2 hs_14
      rcases Classical.em (r_17 = (113 : Int32)) with hs_15 | hs_15
      · replace h := h.1 hs_15
        refine r_tableIn G 215 dX2_perform_64 113 (khit hs_15 kt_113) (by decide) (by decide) (off := 151) rfl (by decide) ?_
        refine r_bipush G (-7 : Int32) dX2_perform_215 kb_m7 ?_
        exact r_iretW G E dX2_perform_217 h
      replace h := h.2 hs_15
      rcases Classical.em (r_17 = (114 : Int32)) with hs_16 | hs_16
      · replace h := h.1 hs_16
        refine r_tableIn G 215 dX2_perform_64 114 (khit hs_16 kt_114) (by decide) (by decide) (off := 151) rfl (by decide) ?_
        refine r_bipush G (-7 : Int32) dX2_perform_215 kb_m7 ?_
        exact r_iretW G E dX2_perform_217 h
      replace h := h.2 hs_16
      rcases Classical.em (r_17 = (115 : Int32)) with hs_17 | hs_17
      · replace h := h.1 hs_17
        refine r_tableIn G 209 dX2_perform_64 115 (khit hs_17 kt_115) (by decide) (by decide) (off := 145) rfl (by decide) ?_
        refine r_aload_n G dX2_perform_209 2 rfl rfl ?_
        refine r_iload_n G dX2_perform_210 1 rfl rfl ?_
        refine r_cVWi G hD (ci := 2) (cq := (RX2, TX2, 6)) [.int r_53] [] (c_X2_steal (k_l Γ) (k_D Γ) a cI cO gI _ _ _ h) 3 rfl wC_3 (cwV 1 G.2.2.2.2.1 gX2_perform_X2_steal rfl rfl rfl hdv_X2_steal ⟨Nat.le_of_ble_eq_true rfl, Nat.le_of_ble_eq_true rfl⟩) [0, 1] rfl rfl rfl (Nat.le_of_ble_eq_true rfl) dX2_perform_211 (fun r_211 σ_211 h => ?_)
        exact r_iretW G E dX2_perform_214 h
      replace h := h.2 hs_17
      rcases Classical.em (r_17 = (116 : Int32)) with hs_18 | hs_18
      · replace h := h.1 hs_18
        refine r_tableIn G 201 dX2_perform_64 116 (khit hs_18 kt_116) (by decide) (by decide) (off := 137) rfl (by decide) ?_
        refine r_aload_n G dX2_perform_201 2 rfl rfl ?_
        refine r_iload_n G dX2_perform_202 1 rfl rfl ?_
        refine r_iload G dX2_perform_203 0 rfl ?_
        refine r_cVWi G hD (ci := 2) (cq := (RX2, TX2, 6)) [.int r_53, .int r_58] [] (c_X2_move (k_l Γ) (k_D Γ) a cI cO gI _ _ _ _ h) 3 rfl wC_3 (cwV 2 G.2.2.2.2.1 gX2_perform_X2_move rfl rfl rfl hdv_X2_move ⟨Nat.le_of_ble_eq_true rfl, Nat.le_of_ble_eq_true rfl⟩) [0, 1] rfl rfl rfl (Nat.le_of_ble_eq_true rfl) dX2_perform_205 (fun r_205 σ_205 h => ?_)
        exact r_iretW G E dX2_perform_208 h
      replace h := h.2 hs_18
      rcases Classical.em (r_17 = (117 : Int32)) with hs_19 | hs_19
      · replace h := h.1 hs_19
        refine r_tableIn G 215 dX2_perform_64 117 (khit hs_19 kt_117) (by decide) (by decide) (off := 151) rfl (by decide) ?_
        refine r_bipush G (-7 : Int32) dX2_perform_215 kb_m7 ?_
        exact r_iretW G E dX2_perform_217 h
      replace h := h.2 hs_19
      rcases Classical.em (r_17 = (118 : Int32)) with hs_20 | hs_20
      · replace h := h.1 hs_20
        refine r_tableIn G 215 dX2_perform_64 118 (khit hs_20 kt_118) (by decide) (by decide) (off := 151) rfl (by decide) ?_
        refine r_bipush G (-7 : Int32) dX2_perform_215 kb_m7 ?_
        exact r_iretW G E dX2_perform_217 h
      replace h := h.2 hs_20
      rcases Classical.em (r_17 = (119 : Int32)) with hs_21 | hs_21
      · replace h := h.1 hs_21
        refine r_tableIn G 187 dX2_perform_64 119 (khit hs_21 kt_119) (by decide) (by decide) (off := 123) rfl (by decide) ?_
        refine r_aload_n G dX2_perform_187 2 rfl rfl ?_
        refine r_iload_n G dX2_perform_188 1 rfl rfl ?_
        refine r_cVWi G hD (ci := 2) (cq := (RX2, TX2, 6)) [.int r_53] [] (c_X2_lose (k_l Γ) (k_D Γ) a cI cO gI _ _ _ h) 3 rfl wC_3 (cwV 1 G.2.2.2.2.1 gX2_perform_X2_lose rfl rfl rfl hdv_X2_lose ⟨Nat.le_of_ble_eq_true rfl, Nat.le_of_ble_eq_true rfl⟩) [0, 1] rfl rfl rfl (Nat.le_of_ble_eq_true rfl) dX2_perform_189 (fun r_189 σ_189 h => ?_)
        exact r_iretW G E dX2_perform_192 h
      replace h := h.2 hs_21
      refine r_tableOut G 215 dX2_perform_64 (by have z0 := lv_neT hs_0 kt_98; have z1 := lv_neT hs_1 kt_99; have z2 := lv_neT hs_2 kt_100; have z3 := lv_neT hs_3 kt_101; have z4 := lv_neT hs_4 kt_102; have z5 := lv_neT hs_5 kt_103; have z6 := lv_neT hs_6 kt_104; have z7 := lv_neT hs_7 kt_105; have z8 := lv_neT hs_8 kt_106; have z9 := lv_neT hs_9 kt_107; have z10 := lv_neT hs_10 kt_108; have z11 := lv_neT hs_11 kt_109; have z12 := lv_neT hs_12 kt_110; have z13 := lv_neT hs_13 kt_111; have z14 := lv_neT hs_14 kt_112; have z15 := lv_neT hs_15 kt_113; have z16 := lv_neT hs_16 kt_114; have z17 := lv_neT hs_17 kt_115; have z18 := lv_neT hs_18 kt_116; have z19 := lv_neT hs_19 kt_117; have z20 := lv_neT hs_20 kt_118; have z21 := lv_neT hs_21 kt_119; omega) (by decide) ?_
      refine r_bipush G (-7 : Int32) dX2_perform_215 kb_m7 ?_
      exact r_iretW G E dX2_perform_217 h
    · replace h := h.2 hc
      refine r_bipush G (-4 : Int32) dX2_perform_48 kb_m4 ?_
      exact r_iretW G E dX2_perform_50 h
  refine r_icmp_eq G 40 dX2_perform_24 (by decide) (fun hc => ?_) (fun hc => ?_)
  · replace h := h.1 hc
    exact r_sub [1, 2, 0] rfl (kj_40  h)
  · replace h := h.2 hc
    refine r_aload_n G dX2_perform_27 1 rfl rfl ?_
    refine r_get G inX2 3 0 wC_3 rfl (by decide) lk_12 rfl rfl dX2_perform_28 ?_
    refine r_cVR G (ci := 0) (cq := (RX0, TX0, 12)) [] [] (c_X0_isDealt (k_l Γ) (k_D Γ) a cI cO gI _ _ h) 4 rfl wC_4 (cwV 0 G.2.2.2.2.1 gX2_perform_X0_isDealt rfl rfl rfl hdv_X0_isDealt ⟨Nat.le_of_ble_eq_true rfl, Nat.le_of_ble_eq_true rfl⟩) [0, 1] rfl (fun _ hP => hP) rfl rfl (Nat.le_of_ble_eq_true rfl) dX2_perform_31 (fun r_31 h => ?_)
    have hz_31 := h.1
    replace h := h.2
    refine r_if_ne G 40 dX2_perform_34 (by decide) (fun hc => ?_) (fun hc => ?_)
    · replace h := h.2 hc
      exact r_sub [1, 2, 0] rfl (kj_40  h)
    · replace h := h.1 hc
      refine r_bipush G (-3 : Int32) dX2_perform_37 kb_m3 ?_
      exact r_iretW G E dX2_perform_39 h
abbrev rm_X2_worldsLeft : Room := { frames := 4, cells := 0, slots := 0, locals := 96 }
def wp_X2_worldsLeft (σ : k_M) (p1 p2 : Int32) (Q : Int32 → k_M → Prop) : Prop :=
  wp_X0_thresholdOf σ p1 (fun (r_5 : Int32) => wp_X1_victims σ p1 (fun (r_17 : Int32) => wp_J6_bitCount_0f7a4 r_17 (fun (r_20 : Int32) => ((r_20 < r_5 → (k_lp2 (fun (B_56 : Int32 → Int32 → Prop) (x5_56 : Int32) (x6_56 : Int32) => ((r_5 ≤ x6_56 → Q x5_56 σ) ∧ (¬ r_5 ≤ x6_56 → B_56 (x5_56 * (23 : Int32)) (x6_56 + (1 : Int32))))) (1 : Int32) (r_20 + (1 : Int32)))) ∧ (¬ r_20 < r_5 → wp_X2_opened σ p1 r_5 (fun (r_34 : Int32) (σ_34 : k_M) => ((r_34 = p2 → Q (1 : Int32) σ_34) ∧ (¬ r_34 = p2 → Q (0 : Int32) σ_34))))))))
theorem hd_X2_worldsLeft : yX2_worldsLeft.cls ≠ "java/lang/invoke/MethodHandle" ∧ yX2_worldsLeft.cls ≠ "java/lang/invoke/VarHandle" ∧ (parseMethodDescriptor yX2_worldsLeft.desc).map (fun d => d.parameters.length) = some 2 := by decide +kernel
theorem hdv_X2_worldsLeft : yX2_worldsLeft.cls = RX2 ∧ yX2_worldsLeft.cls ≠ "java/lang/invoke/MethodHandle" ∧ yX2_worldsLeft.cls ≠ "java/lang/invoke/VarHandle" ∧ (parseMethodDescriptor yX2_worldsLeft.desc).map (fun d => d.parameters.length) = some 2 := ⟨rfl, hd_X2_worldsLeft⟩
set_option maxHeartbeats 4000000 in
set_option maxRecDepth 100000 in
theorem c_X2_worldsLeft (l : Launch) (D : va_G) (a : Nat → Nat) (cI cO : ClassId) (gI : Nat → Option Nat) (σ : k_M) (p1 p2 : Int32) (Q : Int32 → k_M → Prop) (h : wp_X2_worldsLeft σ p1 p2 Q) : Met l yX2_worldsLeft wsX2_worldsLeft rm_X2_worldsLeft (k_PW D [(cI, .int), (cO, .object "FreshShares$Circle")] (wC a cI cO gI) σ [.ref (a 3), .int p1, .int p2]) (k_Qi D (wC a cI cO gI) Q) 0 0 (k_wA (wC a cI cO gI)) := by
  refine k_metW (Qc := fun D => k_Qi D (wC a cI cO gI) Q) (by decide) rfl (Nat.le_of_ble_eq_true rfl) ?_
  intro Γ G hD E
  unfold wp_X2_worldsLeft at h
  have inX0 : ∀ w ∈ wsX00, w ∈ wsX2_worldsLeft := by decide +kernel
  have inX2 : ∀ w ∈ wsX20, w ∈ wsX2_worldsLeft := by decide +kernel
  have lk_12 := G.2.2.2.2.1 (.fieldLink RX2 12 "FreshShares$Orders" "circle" "LFreshShares$Circle;") (by decide +kernel)
  show k_J Γ rm_X2_worldsLeft 7 false (wC a cI cO gI) 0 [(0, .ref (a 3)), (1, .int p1), (2, .int p2)] [] σ
  refine r_aload_n G dX2_worldsLeft_0 0 rfl rfl ?_
  refine r_get G inX2 3 0 wC_3 rfl (by decide) lk_12 rfl rfl dX2_worldsLeft_1 ?_
  refine r_iload_n G dX2_worldsLeft_4 1 rfl rfl ?_
  refine r_cVR G (ci := 0) (cq := (RX0, TX0, 12)) [.int p1] [] (c_X0_thresholdOf (k_l Γ) (k_D Γ) a cI cO gI _ _ _ h) 4 rfl wC_4 (cwV 1 G.2.2.2.2.1 gX2_worldsLeft_X0_thresholdOf rfl rfl rfl hdv_X0_thresholdOf ⟨Nat.le_of_ble_eq_true rfl, Nat.le_of_ble_eq_true rfl⟩) [0, 1] rfl (fun _ hP => hP) rfl rfl (Nat.le_of_ble_eq_true rfl) dX2_worldsLeft_5 (fun r_5 h => ?_)
  refine r_istore_n (lv' := [(3, .int r_5), (0, .ref (a 3)), (1, .int p1), (2, .int p2)]) G dX2_worldsLeft_8 rfl (by decide) rfl ?_
  refine r_aload_n G dX2_worldsLeft_9 1 rfl rfl ?_
  refine r_get G inX2 3 0 wC_3 rfl (by decide) lk_12 rfl rfl dX2_worldsLeft_10 ?_
  refine r_getN G inX0 4 5 wC_4 rfl (by decide) (G.2.2.2.2.2.2.at 15 rfl rfl) rfl rfl dX2_worldsLeft_13 ?_
  refine r_iload_n G dX2_worldsLeft_16 2 rfl rfl ?_
  refine r_cVR G (ci := 1) (cq := (RX1, TX1, 4)) [.int p1] [] (c_X1_victims (k_l Γ) (k_D Γ) a cI cO gI _ _ _ h) 10 rfl wC_10 (cwV 1 G.2.2.2.2.1 gX2_worldsLeft_X1_victims rfl rfl rfl hdv_X1_victims ⟨Nat.le_of_ble_eq_true rfl, Nat.le_of_ble_eq_true rfl⟩) [0, 1] rfl (fun _ hP => hP) rfl rfl (Nat.le_of_ble_eq_true rfl) dX2_worldsLeft_17 (fun r_17 h => ?_)
  refine r_cSR G [.int r_17] [] (c_J6_bitCount_0f7a4 (k_l Γ) (k_D Γ) _ _ h) (va_cwS 1 G.2.2.2.2.1 gX2_worldsLeft_J6_bitCount_0f7a4 rfl rfl rfl hd_J6_bitCount_0f7a4 ⟨Nat.le_of_ble_eq_true rfl, Nat.le_of_ble_eq_true rfl⟩) [] rfl (fun _ _ => k_E0) rfl rfl (Nat.le_of_ble_eq_true rfl) dX2_worldsLeft_20 (fun r_20 h => ?_)
  refine r_istore (lv' := [(4, .int r_20), (3, .int r_5), (0, .ref (a 3)), (1, .int p1), (2, .int p2)]) G dX2_worldsLeft_23 (by decide) rfl ?_
  refine r_iload G dX2_worldsLeft_25 0 rfl ?_
  refine r_iload_n G dX2_worldsLeft_27 1 rfl rfl ?_
  refine r_icmp_lt G 47 dX2_worldsLeft_28 (by decide) (fun hc => ?_) (fun hc => ?_)
  · replace h := h.1 hc
    refine r_iconst G (1 : Int32) dX2_worldsLeft_47 kc_1 ?_
    refine r_istore (lv' := [(5, .int (1 : Int32)), (4, .int r_20), (3, .int r_5), (0, .ref (a 3)), (1, .int p1), (2, .int p2)]) G dX2_worldsLeft_48 (by decide) rfl ?_
    refine r_iload G dX2_worldsLeft_50 1 rfl ?_
    refine r_iconst G (1 : Int32) dX2_worldsLeft_52 kc_1 ?_
    refine r_iadd G dX2_worldsLeft_53 ?_
    refine r_istore (lv' := [(6, .int (r_20 + (1 : Int32))), (5, .int (1 : Int32)), (4, .int r_20), (3, .int r_5), (0, .ref (a 3)), (1, .int p1), (2, .int p2)]) G dX2_worldsLeft_54 (by decide) rfl ?_
    obtain ⟨I_56, n_56, h, hI_56⟩ := h
    have key_56 : ∀ (n : Nat) (x5_56 : Int32) (x6_56 : Int32), I_56 n x5_56 x6_56 → k_J Γ rm_X2_worldsLeft 7 false (wC a cI cO gI) 56 [(3, .int r_5), (5, .int x5_56), (6, .int x6_56)] [] σ := by
      intro n
      induction n using Nat.strongRecOn with
      | ind n ih_56 =>
        intro x5_56 x6_56 h
        replace h := hI_56 n x5_56 x6_56 h
        refine r_iload G dX2_worldsLeft_56 2 rfl ?_
        refine r_iload_n G dX2_worldsLeft_58 0 rfl rfl ?_
        refine r_icmp_ge G 75 dX2_worldsLeft_59 (by decide) (fun hc => ?_) (fun hc => ?_)
        · replace h := h.1 hc
          refine r_iload G dX2_worldsLeft_75 1 rfl ?_
          exact r_iretW G E dX2_worldsLeft_77 h
        · replace h := h.2 hc
          refine r_iload G dX2_worldsLeft_62 1 rfl ?_
          refine r_bipush G (23 : Int32) dX2_worldsLeft_64 kb_23 ?_
          refine r_imul G dX2_worldsLeft_66 ?_
          refine r_istore (lv' := [(5, .int (x5_56 * (23 : Int32))), (3, .int r_5), (6, .int x6_56)]) G dX2_worldsLeft_67 (by decide) rfl ?_
          refine r_iinc (lv' := [(6, .int (x6_56 + (1 : Int32))), (5, .int (x5_56 * (23 : Int32))), (3, .int r_5)]) G 2 dX2_worldsLeft_69 kc_1 rfl (by decide) rfl ?_
          refine r_goto G 56 dX2_worldsLeft_72 (by decide) ?_
          obtain ⟨m_56, hm_56, h⟩ := h
          exact r_sub [2, 1, 0] rfl (ih_56 m_56 hm_56 _ _ h)
    exact r_sub [3, 1, 0] rfl (key_56 n_56 _ _ h)
  · replace h := h.2 hc
    refine r_aload_n G dX2_worldsLeft_31 2 rfl rfl ?_
    refine r_iload_n G dX2_worldsLeft_32 3 rfl rfl ?_
    refine r_iload_n G dX2_worldsLeft_33 1 rfl rfl ?_
    refine r_cVWi G hD (ci := 2) (cq := (RX2, TX2, 6)) [.int p1, .int r_5] [] (c_X2_opened (k_l Γ) (k_D Γ) a cI cO gI _ _ _ _ h) 3 rfl wC_3 (cwV 2 G.2.2.2.2.1 gX2_worldsLeft_X2_opened rfl rfl rfl hdv_X2_opened ⟨Nat.le_of_ble_eq_true rfl, Nat.le_of_ble_eq_true rfl⟩) [0, 1] rfl rfl rfl (Nat.le_of_ble_eq_true rfl) dX2_worldsLeft_34 (fun r_34 σ_34 h => ?_)
    refine r_iload_n G dX2_worldsLeft_37 4 rfl rfl ?_
    refine r_icmp_ne G 45 dX2_worldsLeft_38 (by decide) (fun hc => ?_) (fun hc => ?_)
    · replace h := h.2 hc
      refine r_iconst G (0 : Int32) dX2_worldsLeft_45 kc_0 ?_
      exact r_iretW G E dX2_worldsLeft_46 h
    · replace h := h.1 hc
      refine r_iconst G (1 : Int32) dX2_worldsLeft_41 kc_1 ?_
      refine r_goto G 46 dX2_worldsLeft_42 (by decide) ?_
      exact r_iretW G E dX2_worldsLeft_46 h
abbrev rm_X3_append : Room := { frames := 0, cells := 0, slots := 0, locals := 0 }
def wp_X3_append (σ : k_M) (p1 : Int32) (Q : Int32 → k_M → Prop) : Prop :=
  (((σ 1 1) < 0 → Q (0 : Int32) σ) ∧ (¬ (σ 1 1) < 0 → (((σ 1 1) < (10 : Int32) → (vp_in (σ 1 1) 10 ∧ Q (1 : Int32) (k_put (k_put σ 2 (σ 1 1).toNatClampNeg p1) 1 1 (((k_put σ 2 (σ 1 1).toNatClampNeg p1) 1 1) + (1 : Int32))))) ∧ (¬ (σ 1 1) < (10 : Int32) → Q (0 : Int32) σ))))
theorem hd_X3_append : yX3_append.cls ≠ "java/lang/invoke/MethodHandle" ∧ yX3_append.cls ≠ "java/lang/invoke/VarHandle" ∧ (parseMethodDescriptor yX3_append.desc).map (fun d => d.parameters.length) = some 1 := by decide +kernel
theorem hdv_X3_append : yX3_append.cls = RX3 ∧ yX3_append.cls ≠ "java/lang/invoke/MethodHandle" ∧ yX3_append.cls ≠ "java/lang/invoke/VarHandle" ∧ (parseMethodDescriptor yX3_append.desc).map (fun d => d.parameters.length) = some 1 := ⟨rfl, hd_X3_append⟩
set_option maxHeartbeats 4000000 in
set_option maxRecDepth 100000 in
theorem c_X3_append (l : Launch) (D : va_G) (a : Nat → Nat) (cI cO : ClassId) (gI : Nat → Option Nat) (σ : k_M) (p1 : Int32) (Q : Int32 → k_M → Prop) (h : wp_X3_append σ p1 Q) : Met l yX3_append wsX3_append rm_X3_append (k_PW D [(cI, .int), (cO, .object "FreshShares$Circle")] (wC a cI cO gI) σ [.ref (a 1), .int p1]) (k_Qi D (wC a cI cO gI) (fun r σ => (r = 0 ∨ r = 1) ∧ Q r σ)) 0 0 (k_wA (wC a cI cO gI)) := by
  refine k_metW (Qc := fun D => k_Qi D (wC a cI cO gI) (fun r σ => (r = 0 ∨ r = 1) ∧ Q r σ)) (by decide) rfl (Nat.le_of_ble_eq_true rfl) ?_
  intro Γ G hD E
  unfold wp_X3_append at h
  have inX3 : ∀ w ∈ wsX30, w ∈ wsX3_append := by decide +kernel
  have lk_9 := G.2.2.2.2.1 (.fieldLink RX3 9 "FreshShares$Script" "signs" "[I") (by decide +kernel)
  have lk_15 := G.2.2.2.2.1 (.fieldLink RX3 15 "FreshShares$Script" "length" "I") (by decide +kernel)
  show k_J Γ rm_X3_append 2 false (wC a cI cO gI) 0 [(0, .ref (a 1)), (1, .int p1)] [] σ
  refine r_aload_n G dX3_append_0 0 rfl rfl ?_
  refine r_get G inX3 1 1 wC_1 rfl (by decide) lk_15 rfl rfl dX3_append_1 ?_
  refine r_if_lt G 16 dX3_append_4 (by decide) (fun hc => ?_) (fun hc => ?_)
  · replace h := h.1 hc
    refine r_iconst G (0 : Int32) dX3_append_16 kc_0 ?_
    exact r_zretW G E kz_0 dX3_append_17 ⟨kzo_0, h⟩
  · replace h := h.2 hc
    refine r_aload_n G dX3_append_7 0 rfl rfl ?_
    refine r_get G inX3 1 1 wC_1 rfl (by decide) lk_15 rfl rfl dX3_append_8 ?_
    refine r_bipush G (10 : Int32) dX3_append_11 kb_10 ?_
    refine r_icmp_lt G 18 dX3_append_13 (by decide) (fun hc => ?_) (fun hc => ?_)
    · replace h := h.1 hc
      refine r_aload_n G dX3_append_18 0 rfl rfl ?_
      refine r_get G inX3 1 0 wC_1 rfl (by decide) lk_9 rfl rfl dX3_append_19 ?_
      refine r_aload_n G dX3_append_22 0 rfl rfl ?_
      refine r_get G inX3 1 1 wC_1 rfl (by decide) lk_15 rfl rfl dX3_append_23 ?_
      refine r_iload_n G dX3_append_26 1 rfl rfl ?_
      refine r_iast G hD 2 0 wC_2 rfl h.1 _ wC_2_s dX3_append_27 ?_
      replace h := h.2
      refine r_aload_n G dX3_append_28 0 rfl rfl ?_
      refine r_dup G rfl dX3_append_29 ?_
      refine r_get G inX3 1 1 wC_1 rfl (by decide) lk_15 rfl rfl dX3_append_30 ?_
      refine r_iconst G (1 : Int32) dX3_append_33 kc_1 ?_
      refine r_iadd G dX3_append_34 ?_
      refine r_put G hD tyX3 tyX3_ok nmX3 inX3 1 1 wC_1 rfl (by decide) lk_15 rfl rfl (ty := .int) (by decide +kernel) rfl rfl (Nat.le_of_ble_eq_true rfl) _ wC_1_1 dX3_append_35 ?_
      refine r_iconst G (1 : Int32) dX3_append_38 kc_1 ?_
      exact r_zretW G E kz_1 dX3_append_39 ⟨kzo_1, h⟩
    · replace h := h.2 hc
      refine r_iconst G (0 : Int32) dX3_append_16 kc_0 ?_
      exact r_zretW G E kz_0 dX3_append_17 ⟨kzo_0, h⟩
abbrev rm_X3_canStand : Room := { frames := 3, cells := 0, slots := 0, locals := 61 }
def wp_X3_canStand (σ : k_M) (p1 : Int32) (Q : Int32 → Prop) : Prop :=
  ((p1 = 0 → wp_X3_letter σ (fun (r_5 : Int32) => wp_X3_isLetter r_5 (fun (r_8 : Int32) => Q r_8))) ∧ (¬ p1 = 0 → wp_X3_figureAt σ p1 (fun (r_14 : Int32) => wp_X3_firstOfSet σ (fun (r_20 : Int32) => ((p1 < r_20 → (((1 : Int32) < p1 → Q (0 : Int32)) ∧ (¬ (1 : Int32) < p1 → wp_X3_letter σ (fun (r_64 : Int32) => ((r_64 = (102 : Int32) → Q (0 : Int32)) ∧ (¬ r_64 = (102 : Int32) → wp_X3_letter σ (fun (r_75 : Int32) => (∃ K_97 : Int32 → Prop, (∀ (y0_97 : Int32), K_97 y0_97 → ((y0_97 = 0 → wp_X6_isMember r_14 (fun (r_121 : Int32) => Q r_121)) ∧ (¬ y0_97 = 0 → ((r_14 < (1 : Int32) → Q (0 : Int32)) ∧ (¬ r_14 < (1 : Int32) → (((5 : Int32) < r_14 → Q (0 : Int32)) ∧ (¬ (5 : Int32) < r_14 → Q (1 : Int32)))))))) ∧ (∃ K_92 : Prop, ( K_92  → K_97 (1 : Int32)) ∧ ((r_75 = (100 : Int32) → K_92) ∧ (¬ r_75 = (100 : Int32) → wp_X3_letter σ (fun (r_84 : Int32) => ((r_84 = (116 : Int32) → K_92) ∧ (¬ r_84 = (116 : Int32) → K_97 (0 : Int32))))))))))))))) ∧ (¬ p1 < r_20 → wp_X6_isMember r_14 (fun (r_27 : Int32) => ((r_27 = 0 → Q (0 : Int32)) ∧ (¬ r_27 = 0 → wp_X3_firstOfSet σ (fun (r_35 : Int32) => ((p1 = r_35 → Q (1 : Int32)) ∧ (¬ p1 = r_35 → wp_X3_figureAt σ (p1 - (1 : Int32)) (fun (r_46 : Int32) => ((r_14 ≤ r_46 → Q (0 : Int32)) ∧ (¬ r_14 ≤ r_46 → Q (1 : Int32))))))))))))))))
theorem hd_X3_canStand : yX3_canStand.cls ≠ "java/lang/invoke/MethodHandle" ∧ yX3_canStand.cls ≠ "java/lang/invoke/VarHandle" ∧ (parseMethodDescriptor yX3_canStand.desc).map (fun d => d.parameters.length) = some 1 := by decide +kernel
theorem hdv_X3_canStand : yX3_canStand.cls = RX3 ∧ yX3_canStand.cls ≠ "java/lang/invoke/MethodHandle" ∧ yX3_canStand.cls ≠ "java/lang/invoke/VarHandle" ∧ (parseMethodDescriptor yX3_canStand.desc).map (fun d => d.parameters.length) = some 1 := ⟨rfl, hd_X3_canStand⟩
set_option maxHeartbeats 4000000 in
set_option maxRecDepth 100000 in
theorem c_X3_canStand (l : Launch) (D : va_G) (a : Nat → Nat) (cI cO : ClassId) (gI : Nat → Option Nat) (σ : k_M) (p1 : Int32) (Q : Int32 → Prop) (h : wp_X3_canStand σ p1 Q) : Met l yX3_canStand wsX3_canStand rm_X3_canStand (k_PR D [(cI, .int), (cO, .object "FreshShares$Circle")] (wC a cI cO gI) σ [.ref (a 1), .int p1]) (vp_Si (fun r => (r = 0 ∨ r = 1) ∧ Q r)) 0 0 (fun _ => False) := by
  refine k_metR (by decide) rfl (Nat.le_of_ble_eq_true rfl) ?_
  intro Γ G E
  unfold wp_X3_canStand at h
  show k_J Γ rm_X3_canStand 4 true (wC a cI cO gI) 0 [(0, .ref (a 1)), (1, .int p1)] [] σ
  refine r_iload_n G dX3_canStand_0 1 rfl rfl ?_
  refine r_if_ne G 12 dX3_canStand_1 (by decide) (fun hc => ?_) (fun hc => ?_)
  · replace h := h.2 hc
    refine r_aload_n G dX3_canStand_12 0 rfl rfl ?_
    refine r_iload_n G dX3_canStand_13 1 rfl rfl ?_
    refine r_cVR G (ci := 3) (cq := (RX3, TX3, 2)) [.int p1] [] (c_X3_figureAt (k_l Γ) (k_D Γ) a cI cO gI _ _ _ h) 1 rfl wC_1 (cwV 1 G.2.2.2.2.1 gX3_canStand_X3_figureAt rfl rfl rfl hdv_X3_figureAt ⟨Nat.le_of_ble_eq_true rfl, Nat.le_of_ble_eq_true rfl⟩) [0, 1] rfl (fun _ hP => hP) rfl rfl (Nat.le_of_ble_eq_true rfl) dX3_canStand_14 (fun r_14 h => ?_)
    refine r_istore_n (lv' := [(2, .int r_14), (0, .ref (a 1)), (1, .int p1)]) G dX3_canStand_17 rfl (by decide) rfl ?_
    refine r_iload_n G dX3_canStand_18 2 rfl rfl ?_
    refine r_aload_n G dX3_canStand_19 1 rfl rfl ?_
    refine r_cVR G (ci := 3) (cq := (RX3, TX3, 2)) [] [.int p1] (c_X3_firstOfSet (k_l Γ) (k_D Γ) a cI cO gI _ _ h) 1 rfl wC_1 (cwV 0 G.2.2.2.2.1 gX3_canStand_X3_firstOfSet rfl rfl rfl hdv_X3_firstOfSet ⟨Nat.le_of_ble_eq_true rfl, Nat.le_of_ble_eq_true rfl⟩) [0, 1] rfl (fun _ hP => hP) rfl rfl (Nat.le_of_ble_eq_true rfl) dX3_canStand_20 (fun r_20 h => ?_)
    refine r_icmp_lt G 58 dX3_canStand_23 (by decide) (fun hc => ?_) (fun hc => ?_)
    · replace h := h.1 hc
      refine r_iload_n G dX3_canStand_58 2 rfl rfl ?_
      refine r_iconst G (1 : Int32) dX3_canStand_59 kc_1 ?_
      refine r_icmp_gt G 72 dX3_canStand_60 (by decide) (fun hc => ?_) (fun hc => ?_)
      · replace h := h.1 hc
        refine r_iconst G (0 : Int32) dX3_canStand_72 kc_0 ?_
        exact r_zretR G E kz_0 dX3_canStand_73 ⟨kzo_0, h⟩
      · replace h := h.2 hc
        refine r_aload_n G dX3_canStand_63 1 rfl rfl ?_
        refine r_cVR G (ci := 3) (cq := (RX3, TX3, 2)) [] [] (c_X3_letter (k_l Γ) (k_D Γ) a cI cO gI _ _ h) 1 rfl wC_1 (cwV 0 G.2.2.2.2.1 gX3_canStand_X3_letter rfl rfl rfl hdv_X3_letter ⟨Nat.le_of_ble_eq_true rfl, Nat.le_of_ble_eq_true rfl⟩) [0, 1] rfl (fun _ hP => hP) rfl rfl (Nat.le_of_ble_eq_true rfl) dX3_canStand_64 (fun r_64 h => ?_)
        refine r_bipush G (102 : Int32) dX3_canStand_67 kb_102 ?_
        refine r_icmp_ne G 74 dX3_canStand_69 (by decide) (fun hc => ?_) (fun hc => ?_)
        · replace h := h.2 hc
          refine r_aload_n G dX3_canStand_74 1 rfl rfl ?_
          refine r_cVR G (ci := 3) (cq := (RX3, TX3, 2)) [] [] (c_X3_letter (k_l Γ) (k_D Γ) a cI cO gI _ _ h) 1 rfl wC_1 (cwV 0 G.2.2.2.2.1 gX3_canStand_X3_letter rfl rfl rfl hdv_X3_letter ⟨Nat.le_of_ble_eq_true rfl, Nat.le_of_ble_eq_true rfl⟩) [0, 1] rfl (fun _ hP => hP) rfl rfl (Nat.le_of_ble_eq_true rfl) dX3_canStand_75 (fun r_75 h => ?_)
          refine r_bipush G (100 : Int32) dX3_canStand_78 kb_100 ?_
          obtain ⟨K_97, hK_97, h⟩ := h
          have kj_97 : ∀ (y0_97 : Int32), K_97 y0_97 → k_J Γ rm_X3_canStand 4 true (wC a cI cO gI) 97 [(2, .int r_14)] [.int y0_97] σ := by
            intro y0_97 h
            replace h := hK_97 y0_97 h
            refine r_istore_n (lv' := [(3, .int y0_97), (2, .int r_14)]) G dX3_canStand_97 rfl (by decide) rfl ?_
            refine r_iload_n G dX3_canStand_98 0 rfl rfl ?_
            refine r_if_eq G 120 dX3_canStand_99 (by decide) (fun hc => ?_) (fun hc => ?_)
            · replace h := h.1 hc
              refine r_iload_n G dX3_canStand_120 1 rfl rfl ?_
              refine r_cSNR G [.int r_14] [] (c_X6_isMember (k_l Γ) (k_D Γ) _ _ h) ⟨va_cnB 1 G.2.2.2.2.1 gX3_canStand_X6_isMember_n37 rfl rfl rfl (G.2.2.2.2.2.2.1 _ (List.mem_of_getElem? (i := 29) rfl)) (G.2.2.2.2.1 (.initialized RX6) (by decide +kernel)) hd_X6_isMember ⟨Nat.le_of_ble_eq_true rfl, Nat.le_of_ble_eq_true rfl⟩, G.2.2.2.2.1 (.static yX6_isMember) (by decide +kernel), trivial⟩ [] rfl (fun _ _ => k_E0) rfl rfl (Nat.le_of_ble_eq_true rfl) dX3_canStand_121 (fun r_121 h => ?_)
              have hz_121 := h.1
              replace h := h.2
              exact r_zretR G E (kz_of hz_121) dX3_canStand_124 ⟨hz_121, h⟩
            · replace h := h.2 hc
              refine r_iload_n G dX3_canStand_102 1 rfl rfl ?_
              refine r_iconst G (1 : Int32) dX3_canStand_103 kc_1 ?_
              refine r_icmp_lt G 116 dX3_canStand_104 (by decide) (fun hc => ?_) (fun hc => ?_)
              · replace h := h.1 hc
                refine r_iconst G (0 : Int32) dX3_canStand_116 kc_0 ?_
                refine r_goto G 124 dX3_canStand_117 (by decide) ?_
                exact r_zretR G E kz_0 dX3_canStand_124 ⟨kzo_0, h⟩
              · replace h := h.2 hc
                refine r_iload_n G dX3_canStand_107 1 rfl rfl ?_
                refine r_iconst G (5 : Int32) dX3_canStand_108 kc_5 ?_
                refine r_icmp_gt G 116 dX3_canStand_109 (by decide) (fun hc => ?_) (fun hc => ?_)
                · replace h := h.1 hc
                  refine r_iconst G (0 : Int32) dX3_canStand_116 kc_0 ?_
                  refine r_goto G 124 dX3_canStand_117 (by decide) ?_
                  exact r_zretR G E kz_0 dX3_canStand_124 ⟨kzo_0, h⟩
                · replace h := h.2 hc
                  refine r_iconst G (1 : Int32) dX3_canStand_112 kc_1 ?_
                  refine r_goto G 124 dX3_canStand_113 (by decide) ?_
                  exact r_zretR G E kz_1 dX3_canStand_124 ⟨kzo_1, h⟩
          obtain ⟨K_92, hK_92, h⟩ := h
          have kj_92 :  K_92  → k_J Γ rm_X3_canStand 4 true (wC a cI cO gI) 92 [(2, .int r_14)] [] σ := by
            intro  h
            replace h := hK_92  h
            refine r_iconst G (1 : Int32) dX3_canStand_92 kc_1 ?_
            refine r_goto G 97 dX3_canStand_93 (by decide) ?_
            exact r_sub [0] rfl (kj_97 _ h)
          refine r_icmp_eq G 92 dX3_canStand_80 (by decide) (fun hc => ?_) (fun hc => ?_)
          · replace h := h.1 hc
            exact r_sub [0] rfl (kj_92  h)
          · replace h := h.2 hc
            refine r_aload_n G dX3_canStand_83 1 rfl rfl ?_
            refine r_cVR G (ci := 3) (cq := (RX3, TX3, 2)) [] [] (c_X3_letter (k_l Γ) (k_D Γ) a cI cO gI _ _ h) 1 rfl wC_1 (cwV 0 G.2.2.2.2.1 gX3_canStand_X3_letter rfl rfl rfl hdv_X3_letter ⟨Nat.le_of_ble_eq_true rfl, Nat.le_of_ble_eq_true rfl⟩) [0, 1] rfl (fun _ hP => hP) rfl rfl (Nat.le_of_ble_eq_true rfl) dX3_canStand_84 (fun r_84 h => ?_)
            refine r_bipush G (116 : Int32) dX3_canStand_87 kb_116 ?_
            refine r_icmp_ne G 96 dX3_canStand_89 (by decide) (fun hc => ?_) (fun hc => ?_)
            · replace h := h.2 hc
              refine r_iconst G (0 : Int32) dX3_canStand_96 kc_0 ?_
              exact r_sub [0] rfl (kj_97 _ h)
            · replace h := h.1 hc
              exact r_sub [0] rfl (kj_92  h)
        · replace h := h.1 hc
          refine r_iconst G (0 : Int32) dX3_canStand_72 kc_0 ?_
          exact r_zretR G E kz_0 dX3_canStand_73 ⟨kzo_0, h⟩
    · replace h := h.2 hc
      refine r_iload_n G dX3_canStand_26 0 rfl rfl ?_
      refine r_cSNR G [.int r_14] [] (c_X6_isMember (k_l Γ) (k_D Γ) _ _ h) ⟨va_cnB 1 G.2.2.2.2.1 gX3_canStand_X6_isMember_n37 rfl rfl rfl (G.2.2.2.2.2.2.1 _ (List.mem_of_getElem? (i := 29) rfl)) (G.2.2.2.2.1 (.initialized RX6) (by decide +kernel)) hd_X6_isMember ⟨Nat.le_of_ble_eq_true rfl, Nat.le_of_ble_eq_true rfl⟩, G.2.2.2.2.1 (.static yX6_isMember) (by decide +kernel), trivial⟩ [] rfl (fun _ _ => k_E0) rfl rfl (Nat.le_of_ble_eq_true rfl) dX3_canStand_27 (fun r_27 h => ?_)
      have hz_27 := h.1
      replace h := h.2
      refine r_if_eq G 56 dX3_canStand_30 (by decide) (fun hc => ?_) (fun hc => ?_)
      · replace h := h.1 hc
        refine r_iconst G (0 : Int32) dX3_canStand_56 kc_0 ?_
        exact r_zretR G E kz_0 dX3_canStand_57 ⟨kzo_0, h⟩
      · replace h := h.2 hc
        refine r_iload_n G dX3_canStand_33 2 rfl rfl ?_
        refine r_aload_n G dX3_canStand_34 1 rfl rfl ?_
        refine r_cVR G (ci := 3) (cq := (RX3, TX3, 2)) [] [.int p1] (c_X3_firstOfSet (k_l Γ) (k_D Γ) a cI cO gI _ _ h) 1 rfl wC_1 (cwV 0 G.2.2.2.2.1 gX3_canStand_X3_firstOfSet rfl rfl rfl hdv_X3_firstOfSet ⟨Nat.le_of_ble_eq_true rfl, Nat.le_of_ble_eq_true rfl⟩) [0, 1] rfl (fun _ hP => hP) rfl rfl (Nat.le_of_ble_eq_true rfl) dX3_canStand_35 (fun r_35 h => ?_)
        refine r_icmp_eq G 52 dX3_canStand_38 (by decide) (fun hc => ?_) (fun hc => ?_)
        · replace h := h.1 hc
          refine r_iconst G (1 : Int32) dX3_canStand_52 kc_1 ?_
          refine r_goto G 57 dX3_canStand_53 (by decide) ?_
          exact r_zretR G E kz_1 dX3_canStand_57 ⟨kzo_1, h⟩
        · replace h := h.2 hc
          refine r_iload_n G dX3_canStand_41 0 rfl rfl ?_
          refine r_aload_n G dX3_canStand_42 1 rfl rfl ?_
          refine r_iload_n G dX3_canStand_43 2 rfl rfl ?_
          refine r_iconst G (1 : Int32) dX3_canStand_44 kc_1 ?_
          refine r_isub G dX3_canStand_45 ?_
          refine r_cVR G (ci := 3) (cq := (RX3, TX3, 2)) [.int (p1 - (1 : Int32))] [.int r_14] (c_X3_figureAt (k_l Γ) (k_D Γ) a cI cO gI _ _ _ h) 1 rfl wC_1 (cwV 1 G.2.2.2.2.1 gX3_canStand_X3_figureAt rfl rfl rfl hdv_X3_figureAt ⟨Nat.le_of_ble_eq_true rfl, Nat.le_of_ble_eq_true rfl⟩) [0, 1] rfl (fun _ hP => hP) rfl rfl (Nat.le_of_ble_eq_true rfl) dX3_canStand_46 (fun r_46 h => ?_)
          refine r_icmp_le G 56 dX3_canStand_49 (by decide) (fun hc => ?_) (fun hc => ?_)
          · replace h := h.1 hc
            refine r_iconst G (0 : Int32) dX3_canStand_56 kc_0 ?_
            exact r_zretR G E kz_0 dX3_canStand_57 ⟨kzo_0, h⟩
          · replace h := h.2 hc
            refine r_iconst G (1 : Int32) dX3_canStand_52 kc_1 ?_
            refine r_goto G 57 dX3_canStand_53 (by decide) ?_
            exact r_zretR G E kz_1 dX3_canStand_57 ⟨kzo_1, h⟩
  · replace h := h.1 hc
    refine r_aload_n G dX3_canStand_4 0 rfl rfl ?_
    refine r_cVR G (ci := 3) (cq := (RX3, TX3, 2)) [] [] (c_X3_letter (k_l Γ) (k_D Γ) a cI cO gI _ _ h) 1 rfl wC_1 (cwV 0 G.2.2.2.2.1 gX3_canStand_X3_letter rfl rfl rfl hdv_X3_letter ⟨Nat.le_of_ble_eq_true rfl, Nat.le_of_ble_eq_true rfl⟩) [0, 1] rfl (fun _ hP => hP) rfl rfl (Nat.le_of_ble_eq_true rfl) dX3_canStand_5 (fun r_5 h => ?_)
    refine r_cSR G [.int r_5] [] (c_X3_isLetter (k_l Γ) (k_D Γ) _ _ h) (va_cwS 1 G.2.2.2.2.1 gX3_canStand_X3_isLetter rfl rfl rfl hd_X3_isLetter ⟨Nat.le_of_ble_eq_true rfl, Nat.le_of_ble_eq_true rfl⟩) [] rfl (fun _ _ => k_E0) rfl rfl (Nat.le_of_ble_eq_true rfl) dX3_canStand_8 (fun r_8 h => ?_)
    have hz_8 := h.1
    replace h := h.2
    exact r_zretR G E (kz_of hz_8) dX3_canStand_11 ⟨hz_8, h⟩
