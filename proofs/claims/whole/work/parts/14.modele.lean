abbrev rm_X7_worlds : Room := { frames := 3, cells := 0, slots := 0, locals := 69 }
def wp_X7_worlds (σ : k_M) (p1 p2 : Int32) (Q : Int32 → k_M → Prop) : Prop :=
  wp_X7_isValue p2 (fun (r_1 : Int32) => ((r_1 = 0 → Q (-2 : Int32) σ) ∧ (¬ r_1 = 0 → wp_X7_isEpoch σ p1 (fun (r_9 : Int32) => ((r_9 = 0 → Q (-2 : Int32) σ) ∧ (¬ r_9 = 0 → (vp_in ((95 : Int32) + p1) 371 ∧ (k_lp2 (fun (B_36 : Int32 → Int32 → Prop) (x3_36 : Int32) (x4_36 : Int32) => ((((k_put σ 0 4 ((σ 1) ((95 : Int32) + p1).toNatClampNeg)) 0 4) ≤ x4_36 → (k_lp3 (fun (B_62 : Int32 → Int32 → k_M → Prop) (x4_62 : Int32) (x5_62 : Int32) (σ_62 : k_M) => ((x3_36 ≤ x5_62 → Q x4_62 σ_62) ∧ (¬ x3_36 ≤ x5_62 → (k_lp3 (fun (B_82 : Int32 → Int32 → k_M → Prop) (x6_82 : Int32) (x7_82 : Int32) (σ_82 : k_M) => (((σ_82 0 4) ≤ x7_82 → wp_X7_isWorld σ_82 p1 (fun (r_120 : Int32) => ((r_120 = 0 → B_62 (x4_62 + (0 : Int32)) (x5_62 + (1 : Int32)) σ_82) ∧ (¬ r_120 = 0 → B_62 (x4_62 + (1 : Int32)) (x5_62 + (1 : Int32)) σ_82)))) ∧ (¬ (σ_82 0 4) ≤ x7_82 → (vp_in x7_82 5 ∧ B_82 (x6_82 / (23 : Int32)) (x7_82 + (1 : Int32)) (k_put σ_82 3 x7_82.toNatClampNeg (k_rem x6_82 (23 : Int32))))))) x5_62 (1 : Int32) (k_put σ_62 3 (0 : Int32).toNatClampNeg p2))))) (0 : Int32) (0 : Int32) (k_put σ 0 4 ((σ 1) ((95 : Int32) + p1).toNatClampNeg)))) ∧ (¬ ((k_put σ 0 4 ((σ 1) ((95 : Int32) + p1).toNatClampNeg)) 0 4) ≤ x4_36 → B_36 (x3_36 * (23 : Int32)) (x4_36 + (1 : Int32))))) (1 : Int32) (1 : Int32)))))))))
theorem hd_X7_worlds : yX7_worlds.cls ≠ "java/lang/invoke/MethodHandle" ∧ yX7_worlds.cls ≠ "java/lang/invoke/VarHandle" ∧ (parseMethodDescriptor yX7_worlds.desc).map (fun d => d.parameters.length) = some 2 := by decide +kernel
theorem hdv_X7_worlds : yX7_worlds.cls = RX7 ∧ yX7_worlds.cls ≠ "java/lang/invoke/MethodHandle" ∧ yX7_worlds.cls ≠ "java/lang/invoke/VarHandle" ∧ (parseMethodDescriptor yX7_worlds.desc).map (fun d => d.parameters.length) = some 2 := ⟨rfl, hd_X7_worlds⟩
set_option maxHeartbeats 4000000 in
set_option maxRecDepth 100000 in
theorem c_X7_worlds (l : Launch) (D : va_G) (a : Nat → Nat) (cI cZ : ClassId) (σ : k_M) (p1 p2 : Int32) (Q : Int32 → k_M → Prop) (h : wp_X7_worlds σ p1 p2 Q) : Met l yX7_worlds wsX7_worlds rm_X7_worlds (k_PW D [(cI, .int), (cZ, .boolean)] (wM a cI cZ) σ [.ref (a 0), .int p1, .int p2]) (k_Qi D (wM a cI cZ) Q) 0 0 (k_wA (wM a cI cZ)) := by
  refine k_metW (Qc := fun D => k_Qi D (wM a cI cZ) Q) (by decide) rfl (Nat.le_of_ble_eq_true rfl) ?_
  intro Γ G hD E
  unfold wp_X7_worlds at h
  have inX7 : ∀ w ∈ wsX70, w ∈ wsX7_worlds := by decide +kernel
  have lk_7 := G.2.2.2.2.1 (.fieldLink RX7 7 "FreshSharesModel" "state" "[I") (by decide +kernel)
  have lk_16 := G.2.2.2.2.1 (.fieldLink RX7 16 "FreshSharesModel" "poly" "[I") (by decide +kernel)
  have lk_97 := G.2.2.2.2.1 (.fieldLink RX7 97 "FreshSharesModel" "size" "I") (by decide +kernel)
  show k_J Γ rm_X7_worlds 8 false (wM a cI cZ) 0 [(0, .ref (a 0)), (1, .int p1), (2, .int p2)] [] σ
  refine r_iload_n G dX7_worlds_0 2 rfl rfl ?_
  refine r_cSR G [.int p2] [] (c_X7_isValue (k_l Γ) (k_D Γ) _ _ h) (va_cwS 1 G.2.2.2.2.1 gX7_worlds_X7_isValue rfl rfl rfl hd_X7_isValue ⟨Nat.le_of_ble_eq_true rfl, Nat.le_of_ble_eq_true rfl⟩) [] rfl (fun _ _ => k_E0) rfl rfl (Nat.le_of_ble_eq_true rfl) dX7_worlds_1 (fun r_1 h => ?_)
  have hz_1 := h.1
  replace h := h.2
  refine r_if_eq G 15 dX7_worlds_4 (by decide) (fun hc => ?_) (fun hc => ?_)
  · replace h := h.1 hc
    refine r_bipush G (-2 : Int32) dX7_worlds_15 kb_m2 ?_
    exact r_iretW G E dX7_worlds_17 h
  · replace h := h.2 hc
    refine r_aload_n G dX7_worlds_7 0 rfl rfl ?_
    refine r_iload_n G dX7_worlds_8 1 rfl rfl ?_
    refine r_cVR G (ci := 5) (cq := (RX7, TX7, 9)) [.int p1] [] (c_X7_isEpoch (k_l Γ) (k_D Γ) a cI cZ _ _ _ h) 0 rfl wM_0 (cwV 1 G.2.2.2.2.1 gX7_worlds_X7_isEpoch rfl rfl rfl hdv_X7_isEpoch ⟨Nat.le_of_ble_eq_true rfl, Nat.le_of_ble_eq_true rfl⟩) [0, 1] rfl (fun _ hP => hP) rfl rfl (Nat.le_of_ble_eq_true rfl) dX7_worlds_9 (fun r_9 h => ?_)
    have hz_9 := h.1
    replace h := h.2
    refine r_if_ne G 18 dX7_worlds_12 (by decide) (fun hc => ?_) (fun hc => ?_)
    · replace h := h.2 hc
      refine r_aload_n G dX7_worlds_18 0 rfl rfl ?_
      refine r_aload_n G dX7_worlds_19 0 rfl rfl ?_
      refine r_get G inX7 0 0 wM_0 rfl (by decide) lk_7 rfl rfl dX7_worlds_20 ?_
      refine r_bipush G (95 : Int32) dX7_worlds_23 kb_95 ?_
      refine r_iload_n G dX7_worlds_25 1 rfl rfl ?_
      refine r_iadd G dX7_worlds_26 ?_
      refine r_iald G 1 0 wM_1 rfl h.1 dX7_worlds_27 ?_
      replace h := h.2
      refine r_put G hD tyX7 tyX7_ok nmX7 inX7 0 4 wM_0 rfl (by decide) lk_97 rfl rfl (ty := .int) (by decide +kernel) rfl rfl (Nat.le_of_ble_eq_true rfl) _ wM_0_4 dX7_worlds_28 ?_
      refine r_iconst G (1 : Int32) dX7_worlds_31 kc_1 ?_
      refine r_istore_n (lv' := [(3, .int (1 : Int32)), (0, .ref (a 0)), (1, .int p1), (2, .int p2)]) G dX7_worlds_32 rfl (by decide) rfl ?_
      refine r_iconst G (1 : Int32) dX7_worlds_33 kc_1 ?_
      refine r_istore (lv' := [(4, .int (1 : Int32)), (3, .int (1 : Int32)), (0, .ref (a 0)), (1, .int p1), (2, .int p2)]) G dX7_worlds_34 (by decide) rfl ?_
      obtain ⟨I_36, n_36, h, hI_36⟩ := h
      have key_36 : ∀ (n : Nat) (x3_36 : Int32) (x4_36 : Int32), I_36 n x3_36 x4_36 → k_J Γ rm_X7_worlds 8 false (wM a cI cZ) 36 [(0, .ref (a 0)), (1, .int p1), (2, .int p2), (3, .int x3_36), (4, .int x4_36)] [] (k_put σ 0 4 ((σ 1) ((95 : Int32) + p1).toNatClampNeg)) := by
        intro n
        induction n using Nat.strongRecOn with
        | ind n ih_36 =>
          intro x3_36 x4_36 h
          replace h := hI_36 n x3_36 x4_36 h
          refine r_iload G dX7_worlds_36 4 rfl ?_
          refine r_aload_n G dX7_worlds_38 0 rfl rfl ?_
          refine r_get G inX7 0 4 wM_0 rfl (by decide) lk_97 rfl rfl dX7_worlds_39 ?_
          refine r_icmp_ge G 56 dX7_worlds_42 (by decide) (fun hc => ?_) (fun hc => ?_)
          · replace h := h.1 hc
            refine r_iconst G (0 : Int32) dX7_worlds_56 kc_0 ?_
            refine r_istore (lv' := [(4, .int (0 : Int32)), (0, .ref (a 0)), (1, .int p1), (2, .int p2), (3, .int x3_36)]) G dX7_worlds_57 (by decide) rfl ?_
            refine r_iconst G (0 : Int32) dX7_worlds_59 kc_0 ?_
            refine r_istore (lv' := [(5, .int (0 : Int32)), (4, .int (0 : Int32)), (0, .ref (a 0)), (1, .int p1), (2, .int p2), (3, .int x3_36)]) G dX7_worlds_60 (by decide) rfl ?_
            obtain ⟨I_62, n_62, h, hI_62⟩ := h
            have key_62 : ∀ (n : Nat) (x4_62 : Int32) (x5_62 : Int32) (σ_62 : k_M), I_62 n x4_62 x5_62 σ_62 → k_J Γ rm_X7_worlds 8 false (wM a cI cZ) 62 [(0, .ref (a 0)), (1, .int p1), (2, .int p2), (3, .int x3_36), (4, .int x4_62), (5, .int x5_62)] [] σ_62 := by
              intro n
              induction n using Nat.strongRecOn with
              | ind n ih_62 =>
                intro x4_62 x5_62 σ_62 h
                replace h := hI_62 n x4_62 x5_62 σ_62 h
                refine r_iload G dX7_worlds_62 5 rfl ?_
                refine r_iload_n G dX7_worlds_64 3 rfl rfl ?_
                refine r_icmp_ge G 140 dX7_worlds_65 (by decide) (fun hc => ?_) (fun hc => ?_)
                · replace h := h.1 hc
                  refine r_iload G dX7_worlds_140 4 rfl ?_
                  exact r_iretW G E dX7_worlds_142 h
                · replace h := h.2 hc
                  refine r_iload G dX7_worlds_68 5 rfl ?_
                  refine r_istore (lv' := [(6, .int x5_62), (0, .ref (a 0)), (1, .int p1), (2, .int p2), (3, .int x3_36), (4, .int x4_62), (5, .int x5_62)]) G dX7_worlds_70 (by decide) rfl ?_
                  refine r_aload_n G dX7_worlds_72 1 rfl rfl ?_
                  refine r_get G inX7 0 3 wM_0 rfl (by decide) lk_16 rfl rfl dX7_worlds_73 ?_
                  refine r_iconst G (0 : Int32) dX7_worlds_76 kc_0 ?_
                  refine r_iload_n G dX7_worlds_77 3 rfl rfl ?_
                  refine r_iast G hD 3 0 wM_3 rfl (by unfold vp_in; decide) _ wM_3_s dX7_worlds_78 ?_
                  refine r_iconst G (1 : Int32) dX7_worlds_79 kc_1 ?_
                  refine r_istore (lv' := [(7, .int (1 : Int32)), (6, .int x5_62), (0, .ref (a 0)), (1, .int p1), (2, .int p2), (3, .int x3_36), (4, .int x4_62), (5, .int x5_62)]) G dX7_worlds_80 (by decide) rfl ?_
                  obtain ⟨I_82, n_82, h, hI_82⟩ := h
                  have key_82 : ∀ (n : Nat) (x6_82 : Int32) (x7_82 : Int32) (σ_82 : k_M), I_82 n x6_82 x7_82 σ_82 → k_J Γ rm_X7_worlds 8 false (wM a cI cZ) 82 [(0, .ref (a 0)), (1, .int p1), (2, .int p2), (3, .int x3_36), (4, .int x4_62), (5, .int x5_62), (6, .int x6_82), (7, .int x7_82)] [] σ_82 := by
                    intro n
                    induction n using Nat.strongRecOn with
                    | ind n ih_82 =>
                      intro x6_82 x7_82 σ_82 h
                      replace h := hI_82 n x6_82 x7_82 σ_82 h
                      refine r_iload G dX7_worlds_82 7 rfl ?_
                      refine r_aload_n G dX7_worlds_84 0 rfl rfl ?_
                      refine r_get G inX7 0 4 wM_0 rfl (by decide) lk_97 rfl rfl dX7_worlds_85 ?_
                      refine r_icmp_ge G 116 dX7_worlds_88 (by decide) (fun hc => ?_) (fun hc => ?_)
                      · replace h := h.1 hc
                        refine r_iload G dX7_worlds_116 4 rfl ?_
                        refine r_aload_n G dX7_worlds_118 0 rfl rfl ?_
                        refine r_iload_n G dX7_worlds_119 1 rfl rfl ?_
                        refine r_cVR G (ci := 5) (cq := (RX7, TX7, 9)) [.int p1] [.int x4_62] (c_X7_isWorld (k_l Γ) (k_D Γ) a cI cZ _ _ _ h) 0 rfl wM_0 (cwV 1 G.2.2.2.2.1 gX7_worlds_X7_isWorld rfl rfl rfl hdv_X7_isWorld ⟨Nat.le_of_ble_eq_true rfl, Nat.le_of_ble_eq_true rfl⟩) [0, 1] rfl (fun _ hP => hP) rfl rfl (Nat.le_of_ble_eq_true rfl) dX7_worlds_120 (fun r_120 h => ?_)
                        have hz_120 := h.1
                        replace h := h.2
                        refine r_if_eq G 130 dX7_worlds_123 (by decide) (fun hc => ?_) (fun hc => ?_)
                        · replace h := h.1 hc
                          refine r_iconst G (0 : Int32) dX7_worlds_130 kc_0 ?_
                          refine r_iadd G dX7_worlds_131 ?_
                          refine r_istore (lv' := [(4, .int (x4_62 + (0 : Int32))), (0, .ref (a 0)), (1, .int p1), (2, .int p2), (3, .int x3_36), (5, .int x5_62), (6, .int x6_82), (7, .int x7_82)]) G dX7_worlds_132 (by decide) rfl ?_
                          refine r_iinc (lv' := [(5, .int (x5_62 + (1 : Int32))), (4, .int (x4_62 + (0 : Int32))), (0, .ref (a 0)), (1, .int p1), (2, .int p2), (3, .int x3_36), (6, .int x6_82), (7, .int x7_82)]) G 5 dX7_worlds_134 kc_1 rfl (by decide) rfl ?_
                          refine r_goto G 62 dX7_worlds_137 (by decide) ?_
                          obtain ⟨m_62, hm_62, h⟩ := h
                          exact r_sub [2, 3, 4, 5, 1, 0] rfl (ih_62 m_62 hm_62 _ _ _ h)
                        · replace h := h.2 hc
                          refine r_iconst G (1 : Int32) dX7_worlds_126 kc_1 ?_
                          refine r_goto G 131 dX7_worlds_127 (by decide) ?_
                          refine r_iadd G dX7_worlds_131 ?_
                          refine r_istore (lv' := [(4, .int (x4_62 + (1 : Int32))), (0, .ref (a 0)), (1, .int p1), (2, .int p2), (3, .int x3_36), (5, .int x5_62), (6, .int x6_82), (7, .int x7_82)]) G dX7_worlds_132 (by decide) rfl ?_
                          refine r_iinc (lv' := [(5, .int (x5_62 + (1 : Int32))), (4, .int (x4_62 + (1 : Int32))), (0, .ref (a 0)), (1, .int p1), (2, .int p2), (3, .int x3_36), (6, .int x6_82), (7, .int x7_82)]) G 5 dX7_worlds_134 kc_1 rfl (by decide) rfl ?_
                          refine r_goto G 62 dX7_worlds_137 (by decide) ?_
                          obtain ⟨m_62, hm_62, h⟩ := h
                          exact r_sub [2, 3, 4, 5, 1, 0] rfl (ih_62 m_62 hm_62 _ _ _ h)
                      · replace h := h.2 hc
                        refine r_aload_n G dX7_worlds_91 0 rfl rfl ?_
                        refine r_get G inX7 0 3 wM_0 rfl (by decide) lk_16 rfl rfl dX7_worlds_92 ?_
                        refine r_iload G dX7_worlds_95 7 rfl ?_
                        refine r_iload G dX7_worlds_97 6 rfl ?_
                        refine r_bipush G (23 : Int32) dX7_worlds_99 kb_23 ?_
                        refine r_irem G kne_23 dX7_worlds_101 ?_
                        refine r_iast G hD 3 0 wM_3 rfl h.1 _ wM_3_s dX7_worlds_102 ?_
                        replace h := h.2
                        refine r_iload G dX7_worlds_103 6 rfl ?_
                        refine r_bipush G (23 : Int32) dX7_worlds_105 kb_23 ?_
                        refine r_idiv G kne_23 dX7_worlds_107 ?_
                        refine r_istore (lv' := [(6, .int (x6_82 / (23 : Int32))), (0, .ref (a 0)), (1, .int p1), (2, .int p2), (3, .int x3_36), (4, .int x4_62), (5, .int x5_62), (7, .int x7_82)]) G dX7_worlds_108 (by decide) rfl ?_
                        refine r_iinc (lv' := [(7, .int (x7_82 + (1 : Int32))), (6, .int (x6_82 / (23 : Int32))), (0, .ref (a 0)), (1, .int p1), (2, .int p2), (3, .int x3_36), (4, .int x4_62), (5, .int x5_62)]) G 7 dX7_worlds_110 kc_1 rfl (by decide) rfl ?_
                        refine r_goto G 82 dX7_worlds_113 (by decide) ?_
                        obtain ⟨m_82, hm_82, h⟩ := h
                        exact r_sub [2, 3, 4, 5, 6, 7, 1, 0] rfl (ih_82 m_82 hm_82 _ _ _ h)
                  exact r_sub [2, 3, 4, 5, 6, 7, 1, 0] rfl (key_82 n_82 _ _ _ h)
            exact r_sub [2, 3, 4, 5, 1, 0] rfl (key_62 n_62 _ _ _ h)
          · replace h := h.2 hc
            refine r_iload_n G dX7_worlds_45 3 rfl rfl ?_
            refine r_bipush G (23 : Int32) dX7_worlds_46 kb_23 ?_
            refine r_imul G dX7_worlds_48 ?_
            refine r_istore_n (lv' := [(3, .int (x3_36 * (23 : Int32))), (0, .ref (a 0)), (1, .int p1), (2, .int p2), (4, .int x4_36)]) G dX7_worlds_49 rfl (by decide) rfl ?_
            refine r_iinc (lv' := [(4, .int (x4_36 + (1 : Int32))), (3, .int (x3_36 * (23 : Int32))), (0, .ref (a 0)), (1, .int p1), (2, .int p2)]) G 4 dX7_worlds_50 kc_1 rfl (by decide) rfl ?_
            refine r_goto G 36 dX7_worlds_53 (by decide) ?_
            obtain ⟨m_36, hm_36, h⟩ := h
            exact r_sub [2, 3, 4, 1, 0] rfl (ih_36 m_36 hm_36 _ _ h)
      exact r_sub [2, 3, 4, 1, 0] rfl (key_36 n_36 _ _ h)
    · replace h := h.1 hc
      refine r_bipush G (-2 : Int32) dX7_worlds_15 kb_m2 ?_
      exact r_iretW G E dX7_worlds_17 h
