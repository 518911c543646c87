abbrev rm_X7_figure : Room := { frames := 0, cells := 0, slots := 0, locals := 0 }
def wp_X7_figure (σ : k_M) (p1 : Int32) (Q : Int32 → Prop) : Prop :=
  (vp_in p1 10 ∧ Q (((σ 2) p1.toNatClampNeg) - (48 : Int32)))
theorem hd_X7_figure : yX7_figure.cls ≠ "java/lang/invoke/MethodHandle" ∧ yX7_figure.cls ≠ "java/lang/invoke/VarHandle" ∧ (parseMethodDescriptor yX7_figure.desc).map (fun d => d.parameters.length) = some 1 := by decide +kernel
theorem hdv_X7_figure : yX7_figure.cls = RX7 ∧ yX7_figure.cls ≠ "java/lang/invoke/MethodHandle" ∧ yX7_figure.cls ≠ "java/lang/invoke/VarHandle" ∧ (parseMethodDescriptor yX7_figure.desc).map (fun d => d.parameters.length) = some 1 := ⟨rfl, hd_X7_figure⟩
set_option maxHeartbeats 4000000 in
set_option maxRecDepth 100000 in
theorem c_X7_figure (l : Launch) (D : va_G) (a : Nat → Nat) (cI cZ : ClassId) (σ : k_M) (p1 : Int32) (Q : Int32 → Prop) (h : wp_X7_figure σ p1 Q) : Met l yX7_figure wsX7_figure rm_X7_figure (k_PR D [(cI, .int), (cZ, .boolean)] (wM a cI cZ) σ [.ref (a 0), .int p1]) (vp_Si Q) 0 0 (fun _ => False) := by
  refine k_metR (by decide) rfl (Nat.le_of_ble_eq_true rfl) ?_
  intro Γ G E
  unfold wp_X7_figure at h
  have inX7 : ∀ w ∈ wsX70, w ∈ wsX7_figure := by decide +kernel
  have lk_13 := G.2.2.2.2.1 (.fieldLink RX7 13 "FreshSharesModel" "text" "[I") (by decide +kernel)
  show k_J Γ rm_X7_figure 2 true (wM a cI cZ) 0 [(0, .ref (a 0)), (1, .int p1)] [] σ
  refine r_aload_n G dX7_figure_0 0 rfl rfl ?_
  refine r_get G inX7 0 1 wM_0 rfl (by decide) lk_13 rfl rfl dX7_figure_1 ?_
  refine r_iload_n G dX7_figure_4 1 rfl rfl ?_
  refine r_iald G 2 0 wM_2 rfl h.1 dX7_figure_5 ?_
  replace h := h.2
  refine r_bipush G (48 : Int32) dX7_figure_6 kb_48 ?_
  refine r_isub G dX7_figure_8 ?_
  exact r_iretR G E dX7_figure_9 h
abbrev rm_X7_canStand : Room := { frames := 2, cells := 0, slots := 0, locals := 42 }
def wp_X7_canStand (σ : k_M) (p1 : Int32) (Q : Int32 → Prop) : Prop :=
  wp_X7_figure σ p1 (fun (r_2 : Int32) => (∃ K_92 : Prop, ( K_92  → ((p1 = (1 : Int32) → wp_X7_isMember r_2 (fun (r_98 : Int32) => ((r_98 = 0 → Q (0 : Int32)) ∧ (¬ r_98 = 0 → Q (1 : Int32))))) ∧ (¬ p1 = (1 : Int32) → Q (0 : Int32)))) ∧ ((((σ 2) (0 : Int32).toNatClampNeg) = (98 : Int32) → wp_X7_isMember r_2 (fun (r_140 : Int32) => ((r_140 = 0 → Q (0 : Int32)) ∧ (¬ r_140 = 0 → ((p1 < (3 : Int32) → Q (1 : Int32)) ∧ (¬ p1 < (3 : Int32) → wp_X7_figure σ (p1 - (1 : Int32)) (fun (r_156 : Int32) => ((r_2 ≤ r_156 → Q (0 : Int32)) ∧ (¬ r_2 ≤ r_156 → Q (1 : Int32)))))))))) ∧ (¬ ((σ 2) (0 : Int32).toNatClampNeg) = (98 : Int32) → ((((σ 2) (0 : Int32).toNatClampNeg) = (100 : Int32) → ((p1 = (1 : Int32) → wp_X7_in r_2 (1 : Int32) (5 : Int32) (fun (r_80 : Int32) => ((r_80 = 0 → Q (0 : Int32)) ∧ (¬ r_80 = 0 → Q (1 : Int32))))) ∧ (¬ p1 = (1 : Int32) → Q (0 : Int32)))) ∧ (¬ ((σ 2) (0 : Int32).toNatClampNeg) = (100 : Int32) → ((((σ 2) (0 : Int32).toNatClampNeg) = (111 : Int32) → wp_X7_isMember r_2 (fun (r_111 : Int32) => ((r_111 = 0 → Q (0 : Int32)) ∧ (¬ r_111 = 0 → ((p1 = (1 : Int32) → Q (1 : Int32)) ∧ (¬ p1 = (1 : Int32) → wp_X7_figure σ (p1 - (1 : Int32)) (fun (r_127 : Int32) => ((r_2 ≤ r_127 → Q (0 : Int32)) ∧ (¬ r_2 ≤ r_127 → Q (1 : Int32)))))))))) ∧ (¬ ((σ 2) (0 : Int32).toNatClampNeg) = (111 : Int32) → ((((σ 2) (0 : Int32).toNatClampNeg) = (115 : Int32) → K_92) ∧ (¬ ((σ 2) (0 : Int32).toNatClampNeg) = (115 : Int32) → ((((σ 2) (0 : Int32).toNatClampNeg) = (116 : Int32) → ((p1 = (1 : Int32) → wp_X7_in r_2 (1 : Int32) (5 : Int32) (fun (r_176 : Int32) => Q r_176)) ∧ (¬ p1 = (1 : Int32) → wp_X7_isMember r_2 (fun (r_183 : Int32) => ((r_183 = 0 → Q (0 : Int32)) ∧ (¬ r_183 = 0 → ((p1 = (2 : Int32) → Q (1 : Int32)) ∧ (¬ p1 = (2 : Int32) → wp_X7_figure σ (p1 - (1 : Int32)) (fun (r_199 : Int32) => ((r_2 ≤ r_199 → Q (0 : Int32)) ∧ (¬ r_2 ≤ r_199 → Q (1 : Int32)))))))))))) ∧ (¬ ((σ 2) (0 : Int32).toNatClampNeg) = (116 : Int32) → ((((σ 2) (0 : Int32).toNatClampNeg) = (119 : Int32) → K_92) ∧ (¬ ((σ 2) (0 : Int32).toNatClampNeg) = (119 : Int32) → Q (0 : Int32)))))))))))))))
theorem hd_X7_canStand : yX7_canStand.cls ≠ "java/lang/invoke/MethodHandle" ∧ yX7_canStand.cls ≠ "java/lang/invoke/VarHandle" ∧ (parseMethodDescriptor yX7_canStand.desc).map (fun d => d.parameters.length) = some 1 := by decide +kernel
theorem hdv_X7_canStand : yX7_canStand.cls = RX7 ∧ yX7_canStand.cls ≠ "java/lang/invoke/MethodHandle" ∧ yX7_canStand.cls ≠ "java/lang/invoke/VarHandle" ∧ (parseMethodDescriptor yX7_canStand.desc).map (fun d => d.parameters.length) = some 1 := ⟨rfl, hd_X7_canStand⟩
set_option maxHeartbeats 4000000 in
set_option maxRecDepth 100000 in
theorem c_X7_canStand (l : Launch) (D : va_G) (a : Nat → Nat) (cI cZ : ClassId) (σ : k_M) (p1 : Int32) (Q : Int32 → Prop) (h : wp_X7_canStand σ p1 Q) : Met l yX7_canStand wsX7_canStand rm_X7_canStand (k_PR D [(cI, .int), (cZ, .boolean)] (wM a cI cZ) σ [.ref (a 0), .int p1]) (vp_Si (fun r => (r = 0 ∨ r = 1) ∧ Q r)) 0 0 (fun _ => False) := by
  refine k_metR (by decide) rfl (Nat.le_of_ble_eq_true rfl) ?_
  intro Γ G E
  unfold wp_X7_canStand at h
  have inX7 : ∀ w ∈ wsX70, w ∈ wsX7_canStand := by decide +kernel
  have lk_13 := G.2.2.2.2.1 (.fieldLink RX7 13 "FreshSharesModel" "text" "[I") (by decide +kernel)
  show k_J Γ rm_X7_canStand 3 true (wM a cI cZ) 0 [(0, .ref (a 0)), (1, .int p1)] [] σ
  refine r_aload_n G dX7_canStand_0 0 rfl rfl ?_
  refine r_iload_n G dX7_canStand_1 1 rfl rfl ?_
  refine r_cVR G (ci := 5) (cq := (RX7, TX7, 9)) [.int p1] [] (c_X7_figure (k_l Γ) (k_D Γ) a cI cZ _ _ _ h) 0 rfl wM_0 (cwV 1 G.2.2.2.2.1 gX7_canStand_X7_figure rfl rfl rfl hdv_X7_figure ⟨Nat.le_of_ble_eq_true rfl, Nat.le_of_ble_eq_true rfl⟩) [0, 1] rfl (fun _ hP => hP) rfl rfl (Nat.le_of_ble_eq_true rfl) dX7_canStand_2 (fun r_2 h => ?_)
  refine r_istore_n (lv' := [(2, .int r_2), (0, .ref (a 0)), (1, .int p1)]) G dX7_canStand_5 rfl (by decide) rfl ?_
  refine r_aload_n G dX7_canStand_6 1 rfl rfl ?_
  refine r_get G inX7 0 1 wM_0 rfl (by decide) lk_13 rfl rfl dX7_canStand_7 ?_
  refine r_iconst G (0 : Int32) dX7_canStand_10 kc_0 ?_
  refine r_iald G 2 0 wM_2 rfl (by unfold vp_in; decide) dX7_canStand_11 ?_
  obtain ⟨K_92, hK_92, h⟩ := h
  have kj_92 :  K_92  → k_J Γ rm_X7_canStand 3 true (wM a cI cZ) 92 [(1, .int p1), (2, .int r_2)] [] σ := by
    intro  h
    replace h := hK_92  h
    refine r_iload_n G dX7_canStand_92 0 rfl rfl ?_
    refine r_iconst G (1 : Int32) dX7_canStand_93 kc_1 ?_
    refine r_icmp_ne G 108 dX7_canStand_94 (by decide) (fun hc => ?_) (fun hc => ?_)
    · replace h := h.2 hc
      refine r_iconst G (0 : Int32) dX7_canStand_108 kc_0 ?_
      exact r_zretR G E kz_0 dX7_canStand_109 ⟨kzo_0, h⟩
    · replace h := h.1 hc
      refine r_iload_n G dX7_canStand_97 1 rfl rfl ?_
      refine r_cSR G [.int r_2] [] (c_X7_isMember (k_l Γ) (k_D Γ) _ _ h) (va_cwS 1 G.2.2.2.2.1 gX7_canStand_X7_isMember rfl rfl rfl hd_X7_isMember ⟨Nat.le_of_ble_eq_true rfl, Nat.le_of_ble_eq_true rfl⟩) [] rfl (fun _ _ => k_E0) rfl rfl (Nat.le_of_ble_eq_true rfl) dX7_canStand_98 (fun r_98 h => ?_)
      have hz_98 := h.1
      replace h := h.2
      refine r_if_eq G 108 dX7_canStand_101 (by decide) (fun hc => ?_) (fun hc => ?_)
      · replace h := h.1 hc
        refine r_iconst G (0 : Int32) dX7_canStand_108 kc_0 ?_
        exact r_zretR G E kz_0 dX7_canStand_109 ⟨kzo_0, h⟩
      · replace h := h.2 hc
        refine r_iconst G (1 : Int32) dX7_canStand_104 kc_1 ?_
        refine r_goto G 109 dX7_canStand_105 (by decide) ?_
        exact r_zretR G E kz_1 dX7_canStand_109 ⟨kzo_1, h⟩
  rcases Classical.em (((σ 2) (0 : Int32).toNatClampNeg) = (98 : Int32)) with hs_0 | hs_0
  · replace h := h.1 hs_0
    refine r_lookup G 139 dX7_canStand_12 rfl (off := 127) (by rw [khit hs_0 kt_98]; rfl) (by decide) ?_
    refine r_iload_n G dX7_canStand_139 0 rfl rfl ?_
    refine r_cSR G [.int r_2] [] (c_X7_isMember (k_l Γ) (k_D Γ) _ _ h) (va_cwS 1 G.2.2.2.2.1 gX7_canStand_X7_isMember rfl rfl rfl hd_X7_isMember ⟨Nat.le_of_ble_eq_true rfl, Nat.le_of_ble_eq_true rfl⟩) [] rfl (fun _ _ => k_E0) rfl rfl (Nat.le_of_ble_eq_true rfl) dX7_canStand_140 (fun r_140 h => ?_)
    have hz_140 := h.1
    replace h := h.2
    refine r_if_eq G 166 dX7_canStand_143 (by decide) (fun hc => ?_) (fun hc => ?_)
    · replace h := h.1 hc
      refine r_iconst G (0 : Int32) dX7_canStand_166 kc_0 ?_
      exact r_zretR G E kz_0 dX7_canStand_167 ⟨kzo_0, h⟩
    · replace h := h.2 hc
      refine r_iload_n G dX7_canStand_146 2 rfl rfl ?_
      refine r_iconst G (3 : Int32) dX7_canStand_147 kc_3 ?_
      refine r_icmp_lt G 162 dX7_canStand_148 (by decide) (fun hc => ?_) (fun hc => ?_)
      · replace h := h.1 hc
        refine r_iconst G (1 : Int32) dX7_canStand_162 kc_1 ?_
        refine r_goto G 167 dX7_canStand_163 (by decide) ?_
        exact r_zretR G E kz_1 dX7_canStand_167 ⟨kzo_1, h⟩
      · replace h := h.2 hc
        refine r_iload_n G dX7_canStand_151 0 rfl rfl ?_
        refine r_aload_n G dX7_canStand_152 1 rfl rfl ?_
        refine r_iload_n G dX7_canStand_153 2 rfl rfl ?_
        refine r_iconst G (1 : Int32) dX7_canStand_154 kc_1 ?_
        refine r_isub G dX7_canStand_155 ?_
        refine r_cVR G (ci := 5) (cq := (RX7, TX7, 9)) [.int (p1 - (1 : Int32))] [.int r_2] (c_X7_figure (k_l Γ) (k_D Γ) a cI cZ _ _ _ h) 0 rfl wM_0 (cwV 1 G.2.2.2.2.1 gX7_canStand_X7_figure rfl rfl rfl hdv_X7_figure ⟨Nat.le_of_ble_eq_true rfl, Nat.le_of_ble_eq_true rfl⟩) [0, 1] rfl (fun _ hP => hP) rfl rfl (Nat.le_of_ble_eq_true rfl) dX7_canStand_156 (fun r_156 h => ?_)
        refine r_icmp_le G 166 dX7_canStand_159 (by decide) (fun hc => ?_) (fun hc => ?_)
        · replace h := h.1 hc
          refine r_iconst G (0 : Int32) dX7_canStand_166 kc_0 ?_
          exact r_zretR G E kz_0 dX7_canStand_167 ⟨kzo_0, h⟩
        · replace h := h.2 hc
          refine r_iconst G (1 : Int32) dX7_canStand_162 kc_1 ?_
          refine r_goto G 167 dX7_canStand_163 (by decide) ?_
          exact r_zretR G E kz_1 dX7_canStand_167 ⟨kzo_1, h⟩
  replace h := h.2 hs_0
  rcases Classical.em (((σ 2) (0 : Int32).toNatClampNeg) = (100 : Int32)) with hs_1 | hs_1
  · replace h := h.1 hs_1
    refine r_lookup G 72 dX7_canStand_12 rfl (off := 60) (by rw [khit hs_1 kt_100]; rfl) (by decide) ?_
    refine r_iload_n G dX7_canStand_72 2 rfl rfl ?_
    refine r_iconst G (1 : Int32) dX7_canStand_73 kc_1 ?_
    refine r_icmp_ne G 90 dX7_canStand_74 (by decide) (fun hc => ?_) (fun hc => ?_)
    · replace h := h.2 hc
      refine r_iconst G (0 : Int32) dX7_canStand_90 kc_0 ?_
      exact r_zretR G E kz_0 dX7_canStand_91 ⟨kzo_0, h⟩
    · replace h := h.1 hc
      refine r_iload_n G dX7_canStand_77 0 rfl rfl ?_
      refine r_iconst G (1 : Int32) dX7_canStand_78 kc_1 ?_
      refine r_iconst G (5 : Int32) dX7_canStand_79 kc_5 ?_
      refine r_cSR G [.int r_2, .int (1 : Int32), .int (5 : Int32)] [] (c_X7_in (k_l Γ) (k_D Γ) _ _ _ _ h) (va_cwS 3 G.2.2.2.2.1 gX7_canStand_X7_in rfl rfl rfl hd_X7_in ⟨Nat.le_of_ble_eq_true rfl, Nat.le_of_ble_eq_true rfl⟩) [] rfl (fun _ _ => k_E0) rfl rfl (Nat.le_of_ble_eq_true rfl) dX7_canStand_80 (fun r_80 h => ?_)
      have hz_80 := h.1
      replace h := h.2
      refine r_if_eq G 90 dX7_canStand_83 (by decide) (fun hc => ?_) (fun hc => ?_)
      · replace h := h.1 hc
        refine r_iconst G (0 : Int32) dX7_canStand_90 kc_0 ?_
        exact r_zretR G E kz_0 dX7_canStand_91 ⟨kzo_0, h⟩
      · replace h := h.2 hc
        refine r_iconst G (1 : Int32) dX7_canStand_86 kc_1 ?_
        refine r_goto G 91 dX7_canStand_87 (by decide) ?_
        exact r_zretR G E kz_1 dX7_canStand_91 ⟨kzo_1, h⟩
  replace h := h.2 hs_1
  rcases Classical.em (((σ 2) (0 : Int32).toNatClampNeg) = (111 : Int32)) with hs_2 | hs_2
  · replace h := h.1 hs_2
    refine r_lookup G 110 dX7_canStand_12 rfl (off := 98) (by rw [khit hs_2 kt_111]; rfl) (by decide) ?_
    refine r_iload_n G dX7_canStand_110 0 rfl rfl ?_
    refine r_cSR G [.int r_2] [] (c_X7_isMember (k_l Γ) (k_D Γ) _ _ h) (va_cwS 1 G.2.2.2.2.1 gX7_canStand_X7_isMember rfl rfl rfl hd_X7_isMember ⟨Nat.le_of_ble_eq_true rfl, Nat.le_of_ble_eq_true rfl⟩) [] rfl (fun _ _ => k_E0) rfl rfl (Nat.le_of_ble_eq_true rfl) dX7_canStand_111 (fun r_111 h => ?_)
    have hz_111 := h.1
    replace h := h.2
    refine r_if_eq G 137 dX7_canStand_114 (by decide) (fun hc => ?_) (fun hc => ?_)
    · replace h := h.1 hc
      refine r_iconst G (0 : Int32) dX7_canStand_137 kc_0 ?_
      exact r_zretR G E kz_0 dX7_canStand_138 ⟨kzo_0, h⟩
    · replace h := h.2 hc
      refine r_iload_n G dX7_canStand_117 2 rfl rfl ?_
      refine r_iconst G (1 : Int32) dX7_canStand_118 kc_1 ?_
      refine r_icmp_eq G 133 dX7_canStand_119 (by decide) (fun hc => ?_) (fun hc => ?_)
      · replace h := h.1 hc
        refine r_iconst G (1 : Int32) dX7_canStand_133 kc_1 ?_
        refine r_goto G 138 dX7_canStand_134 (by decide) ?_
        exact r_zretR G E kz_1 dX7_canStand_138 ⟨kzo_1, h⟩
      · replace h := h.2 hc
        refine r_iload_n G dX7_canStand_122 0 rfl rfl ?_
        refine r_aload_n G dX7_canStand_123 1 rfl rfl ?_
        refine r_iload_n G dX7_canStand_124 2 rfl rfl ?_
        refine r_iconst G (1 : Int32) dX7_canStand_125 kc_1 ?_
        refine r_isub G dX7_canStand_126 ?_
        refine r_cVR G (ci := 5) (cq := (RX7, TX7, 9)) [.int (p1 - (1 : Int32))] [.int r_2] (c_X7_figure (k_l Γ) (k_D Γ) a cI cZ _ _ _ h) 0 rfl wM_0 (cwV 1 G.2.2.2.2.1 gX7_canStand_X7_figure rfl rfl rfl hdv_X7_figure ⟨Nat.le_of_ble_eq_true rfl, Nat.le_of_ble_eq_true rfl⟩) [0, 1] rfl (fun _ hP => hP) rfl rfl (Nat.le_of_ble_eq_true rfl) dX7_canStand_127 (fun r_127 h => ?_)
        refine r_icmp_le G 137 dX7_canStand_130 (by decide) (fun hc => ?_) (fun hc => ?_)
        · replace h := h.1 hc
          refine r_iconst G (0 : Int32) dX7_canStand_137 kc_0 ?_
          exact r_zretR G E kz_0 dX7_canStand_138 ⟨kzo_0, h⟩
        · replace h := h.2 hc
          refine r_iconst G (1 : Int32) dX7_canStand_133 kc_1 ?_
          refine r_goto G 138 dX7_canStand_134 (by decide) ?_
          exact r_zretR G E kz_1 dX7_canStand_138 ⟨kzo_1, h⟩
  replace h := h.2 hs_2
  rcases Classical.em (((σ 2) (0 : Int32).toNatClampNeg) = (115 : Int32)) with hs_3 | hs_3
  · replace h := h.1 hs_3
    refine r_lookup G 92 dX7_canStand_12 rfl (off := 80) (by rw [khit hs_3 kt_115]; rfl) (by decide) ?_
    exact r_sub [2, 0] rfl (kj_92  h)
  replace h := h.2 hs_3
  rcases Classical.em (((σ 2) (0 : Int32).toNatClampNeg) = (116 : Int32)) with hs_4 | hs_4
  · replace h := h.1 hs_4
    refine r_lookup G 168 dX7_canStand_12 rfl (off := 156) (by rw [khit hs_4 kt_116]; rfl) (by decide) ?_
    refine r_iload_n G dX7_canStand_168 2 rfl rfl ?_
    refine r_iconst G (1 : Int32) dX7_canStand_169 kc_1 ?_
    refine r_icmp_ne G 182 dX7_canStand_170 (by decide) (fun hc => ?_) (fun hc => ?_)
    · replace h := h.2 hc
      refine r_iload_n G dX7_canStand_182 0 rfl rfl ?_
      refine r_cSR G [.int r_2] [] (c_X7_isMember (k_l Γ) (k_D Γ) _ _ h) (va_cwS 1 G.2.2.2.2.1 gX7_canStand_X7_isMember rfl rfl rfl hd_X7_isMember ⟨Nat.le_of_ble_eq_true rfl, Nat.le_of_ble_eq_true rfl⟩) [] rfl (fun _ _ => k_E0) rfl rfl (Nat.le_of_ble_eq_true rfl) dX7_canStand_183 (fun r_183 h => ?_)
      have hz_183 := h.1
      replace h := h.2
      refine r_if_eq G 209 dX7_canStand_186 (by decide) (fun hc => ?_) (fun hc => ?_)
      · replace h := h.1 hc
        refine r_iconst G (0 : Int32) dX7_canStand_209 kc_0 ?_
        exact r_zretR G E kz_0 dX7_canStand_210 ⟨kzo_0, h⟩
      · replace h := h.2 hc
        refine r_iload_n G dX7_canStand_189 2 rfl rfl ?_
        refine r_iconst G (2 : Int32) dX7_canStand_190 kc_2 ?_
        refine r_icmp_eq G 205 dX7_canStand_191 (by decide) (fun hc => ?_) (fun hc => ?_)
        · replace h := h.1 hc
          refine r_iconst G (1 : Int32) dX7_canStand_205 kc_1 ?_
          refine r_goto G 210 dX7_canStand_206 (by decide) ?_
          exact r_zretR G E kz_1 dX7_canStand_210 ⟨kzo_1, h⟩
        · replace h := h.2 hc
          refine r_iload_n G dX7_canStand_194 0 rfl rfl ?_
          refine r_aload_n G dX7_canStand_195 1 rfl rfl ?_
          refine r_iload_n G dX7_canStand_196 2 rfl rfl ?_
          refine r_iconst G (1 : Int32) dX7_canStand_197 kc_1 ?_
          refine r_isub G dX7_canStand_198 ?_
          refine r_cVR G (ci := 5) (cq := (RX7, TX7, 9)) [.int (p1 - (1 : Int32))] [.int r_2] (c_X7_figure (k_l Γ) (k_D Γ) a cI cZ _ _ _ h) 0 rfl wM_0 (cwV 1 G.2.2.2.2.1 gX7_canStand_X7_figure rfl rfl rfl hdv_X7_figure ⟨Nat.le_of_ble_eq_true rfl, Nat.le_of_ble_eq_true rfl⟩) [0, 1] rfl (fun _ hP => hP) rfl rfl (Nat.le_of_ble_eq_true rfl) dX7_canStand_199 (fun r_199 h => ?_)
          refine r_icmp_le G 209 dX7_canStand_202 (by decide) (fun hc => ?_) (fun hc => ?_)
          · replace h := h.1 hc
            refine r_iconst G (0 : Int32) dX7_canStand_209 kc_0 ?_
            exact r_zretR G E kz_0 dX7_canStand_210 ⟨kzo_0, h⟩
          · replace h := h.2 hc
            refine r_iconst G (1 : Int32) dX7_canStand_205 kc_1 ?_
            refine r_goto G 210 dX7_canStand_206 (by decide) ?_
            exact r_zretR G E kz_1 dX7_canStand_210 ⟨kzo_1, h⟩
    · replace h := h.1 hc
      refine r_iload_n G dX7_canStand_173 0 rfl rfl ?_
      refine r_iconst G (1 : Int32) dX7_canStand_174 kc_1 ?_
      refine r_iconst G (5 : Int32) dX7_canStand_175 kc_5 ?_
      refine r_cSR G [.int r_2, .int (1 : Int32), .int (5 : Int32)] [] (c_X7_in (k_l Γ) (k_D Γ) _ _ _ _ h) (va_cwS 3 G.2.2.2.2.1 gX7_canStand_X7_in rfl rfl rfl hd_X7_in ⟨Nat.le_of_ble_eq_true rfl, Nat.le_of_ble_eq_true rfl⟩) [] rfl (fun _ _ => k_E0) rfl rfl (Nat.le_of_ble_eq_true rfl) dX7_canStand_176 (fun r_176 h => ?_)
      have hz_176 := h.1
      replace h := h.2
      refine r_goto G 210 dX7_canStand_179 (by decide) ?_
      exact r_zretR G E (kz_of hz_176) dX7_canStand_210 ⟨hz_176, h⟩
  replace h := h.2 hs_4
  rcases Classical.em (((σ 2) (0 : Int32).toNatClampNeg) = (119 : Int32)) with hs_5 | hs_5
  · replace h := h.1 hs_5
    refine r_lookup G 92 dX7_canStand_12 rfl (off := 80) (by rw [khit hs_5 kt_119]; rfl) (by decide) ?_
    exact r_sub [2, 0] rfl (kj_92  h)
  replace h := h.2 hs_5
  refine r_lookup G 211 dX7_canStand_12 rfl (off := 199) (by show Op.lookupswitch.offset [(98, 127), (100, 60), (111, 98), (115, 80), (116, 156), (119, 80)] 199 _ = _; rw [lv_osw hs_0 kt_98, lv_osw hs_1 kt_100, lv_osw hs_2 kt_111, lv_osw hs_3 kt_115, lv_osw hs_4 kt_116, lv_osw hs_5 kt_119]; rfl) (by decide) ?_
  refine r_iconst G (0 : Int32) dX7_canStand_211 kc_0 ?_
  exact r_zretR G E kz_0 dX7_canStand_212 ⟨kzo_0, h⟩
abbrev rm_X7_faultNow : Room := { frames := 3, cells := 0, slots := 0, locals := 64 }
def wp_X7_faultNow (σ : k_M) (Q : Int32 → Prop) : Prop :=
  (((σ 0 2) = 0 → Q (0 : Int32)) ∧ (¬ (σ 0 2) = 0 → wp_X7_leastOf ((σ 2) (0 : Int32).toNatClampNeg) (fun (r_13 : Int32) => ((r_13 = 0 → Q (0 : Int32)) ∧ (¬ r_13 = 0 → (k_lp1 (fun (B_23 : Int32 → Prop) (x1_23 : Int32) => (((σ 0 2) ≤ x1_23 → wp_X7_leastOf ((σ 2) (0 : Int32).toNatClampNeg) (fun (r_57 : Int32) => ((r_57 ≤ (σ 0 2) → Q (-6 : Int32)) ∧ (¬ r_57 ≤ (σ 0 2) → Q (σ 0 2))))) ∧ (¬ (σ 0 2) ≤ x1_23 → wp_X7_canStand σ x1_23 (fun (r_33 : Int32) => ((r_33 = 0 → Q x1_23) ∧ (¬ r_33 = 0 → B_23 (x1_23 + (1 : Int32)))))))) (1 : Int32)))))))
theorem hd_X7_faultNow : yX7_faultNow.cls ≠ "java/lang/invoke/MethodHandle" ∧ yX7_faultNow.cls ≠ "java/lang/invoke/VarHandle" ∧ (parseMethodDescriptor yX7_faultNow.desc).map (fun d => d.parameters.length) = some 0 := by decide +kernel
theorem hdv_X7_faultNow : yX7_faultNow.cls = RX7 ∧ yX7_faultNow.cls ≠ "java/lang/invoke/MethodHandle" ∧ yX7_faultNow.cls ≠ "java/lang/invoke/VarHandle" ∧ (parseMethodDescriptor yX7_faultNow.desc).map (fun d => d.parameters.length) = some 0 := ⟨rfl, hd_X7_faultNow⟩
set_option maxHeartbeats 4000000 in
set_option maxRecDepth 100000 in
theorem c_X7_faultNow (l : Launch) (D : va_G) (a : Nat → Nat) (cI cZ : ClassId) (σ : k_M) (Q : Int32 → Prop) (h : wp_X7_faultNow σ  Q) : Met l yX7_faultNow wsX7_faultNow rm_X7_faultNow (k_PR D [(cI, .int), (cZ, .boolean)] (wM a cI cZ) σ [.ref (a 0)]) (vp_Si Q) 0 0 (fun _ => False) := by
  refine k_metR (by decide) rfl (Nat.le_of_ble_eq_true rfl) ?_
  intro Γ G E
  unfold wp_X7_faultNow at h
  have inX7 : ∀ w ∈ wsX70, w ∈ wsX7_faultNow := by decide +kernel
  have lk_13 := G.2.2.2.2.1 (.fieldLink RX7 13 "FreshSharesModel" "text" "[I") (by decide +kernel)
  have lk_71 := G.2.2.2.2.1 (.fieldLink RX7 71 "FreshSharesModel" "signs" "I") (by decide +kernel)
  show k_J Γ rm_X7_faultNow 2 true (wM a cI cZ) 0 [(0, .ref (a 0))] [] σ
  refine r_aload_n G dX7_faultNow_0 0 rfl rfl ?_
  refine r_get G inX7 0 2 wM_0 rfl (by decide) lk_71 rfl rfl dX7_faultNow_1 ?_
  refine r_if_eq G 19 dX7_faultNow_4 (by decide) (fun hc => ?_) (fun hc => ?_)
  · replace h := h.1 hc
    refine r_iconst G (0 : Int32) dX7_faultNow_19 kc_0 ?_
    exact r_iretR G E dX7_faultNow_20 h
  · replace h := h.2 hc
    refine r_aload_n G dX7_faultNow_7 0 rfl rfl ?_
    refine r_get G inX7 0 1 wM_0 rfl (by decide) lk_13 rfl rfl dX7_faultNow_8 ?_
    refine r_iconst G (0 : Int32) dX7_faultNow_11 kc_0 ?_
    refine r_iald G 2 0 wM_2 rfl (by unfold vp_in; decide) dX7_faultNow_12 ?_
    refine r_cSR G [.int ((σ 2) (0 : Int32).toNatClampNeg)] [] (c_X7_leastOf (k_l Γ) (k_D Γ) _ _ h) (va_cwS 1 G.2.2.2.2.1 gX7_faultNow_X7_leastOf rfl rfl rfl hd_X7_leastOf ⟨Nat.le_of_ble_eq_true rfl, Nat.le_of_ble_eq_true rfl⟩) [] rfl (fun _ _ => k_E0) rfl rfl (Nat.le_of_ble_eq_true rfl) dX7_faultNow_13 (fun r_13 h => ?_)
    refine r_if_ne G 21 dX7_faultNow_16 (by decide) (fun hc => ?_) (fun hc => ?_)
    · replace h := h.2 hc
      refine r_iconst G (1 : Int32) dX7_faultNow_21 kc_1 ?_
      refine r_istore_n (lv' := [(1, .int (1 : Int32)), (0, .ref (a 0))]) G dX7_faultNow_22 rfl (by decide) rfl ?_
      obtain ⟨I_23, n_23, h, hI_23⟩ := h
      have key_23 : ∀ (n : Nat) (x1_23 : Int32), I_23 n x1_23 → k_J Γ rm_X7_faultNow 2 true (wM a cI cZ) 23 [(0, .ref (a 0)), (1, .int x1_23)] [] σ := by
        intro n
        induction n using Nat.strongRecOn with
        | ind n ih_23 =>
          intro x1_23 h
          replace h := hI_23 n x1_23 h
          refine r_iload_n G dX7_faultNow_23 1 rfl rfl ?_
          refine r_aload_n G dX7_faultNow_24 0 rfl rfl ?_
          refine r_get G inX7 0 2 wM_0 rfl (by decide) lk_71 rfl rfl dX7_faultNow_25 ?_
          refine r_icmp_ge G 47 dX7_faultNow_28 (by decide) (fun hc => ?_) (fun hc => ?_)
          · replace h := h.1 hc
            refine r_aload_n G dX7_faultNow_47 0 rfl rfl ?_
            refine r_get G inX7 0 2 wM_0 rfl (by decide) lk_71 rfl rfl dX7_faultNow_48 ?_
            refine r_aload_n G dX7_faultNow_51 0 rfl rfl ?_
            refine r_get G inX7 0 1 wM_0 rfl (by decide) lk_13 rfl rfl dX7_faultNow_52 ?_
            refine r_iconst G (0 : Int32) dX7_faultNow_55 kc_0 ?_
            refine r_iald G 2 0 wM_2 rfl (by unfold vp_in; decide) dX7_faultNow_56 ?_
            refine r_cSR G [.int ((σ 2) (0 : Int32).toNatClampNeg)] [.int (σ 0 2)] (c_X7_leastOf (k_l Γ) (k_D Γ) _ _ h) (va_cwS 1 G.2.2.2.2.1 gX7_faultNow_X7_leastOf rfl rfl rfl hd_X7_leastOf ⟨Nat.le_of_ble_eq_true rfl, Nat.le_of_ble_eq_true rfl⟩) [] rfl (fun _ _ => k_E0) rfl rfl (Nat.le_of_ble_eq_true rfl) dX7_faultNow_57 (fun r_57 h => ?_)
            refine r_icmp_ge G 70 dX7_faultNow_60 (by decide) (fun hc => ?_) (fun hc => ?_)
            · replace h := h.1 hc
              refine r_bipush G (-6 : Int32) dX7_faultNow_70 kb_m6 ?_
              exact r_iretR G E dX7_faultNow_72 h
            · replace h := h.2 hc
              refine r_aload_n G dX7_faultNow_63 0 rfl rfl ?_
              refine r_get G inX7 0 2 wM_0 rfl (by decide) lk_71 rfl rfl dX7_faultNow_64 ?_
              refine r_goto G 72 dX7_faultNow_67 (by decide) ?_
              exact r_iretR G E dX7_faultNow_72 h
          · replace h := h.2 hc
            refine r_aload_n G dX7_faultNow_31 0 rfl rfl ?_
            refine r_iload_n G dX7_faultNow_32 1 rfl rfl ?_
            refine r_cVR G (ci := 5) (cq := (RX7, TX7, 9)) [.int x1_23] [] (c_X7_canStand (k_l Γ) (k_D Γ) a cI cZ _ _ _ h) 0 rfl wM_0 (cwV 1 G.2.2.2.2.1 gX7_faultNow_X7_canStand rfl rfl rfl hdv_X7_canStand ⟨Nat.le_of_ble_eq_true rfl, Nat.le_of_ble_eq_true rfl⟩) [0, 1] rfl (fun _ hP => hP) rfl rfl (Nat.le_of_ble_eq_true rfl) dX7_faultNow_33 (fun r_33 h => ?_)
            have hz_33 := h.1
            replace h := h.2
            refine r_if_ne G 41 dX7_faultNow_36 (by decide) (fun hc => ?_) (fun hc => ?_)
            · replace h := h.2 hc
              refine r_iinc (lv' := [(1, .int (x1_23 + (1 : Int32))), (0, .ref (a 0))]) G 1 dX7_faultNow_41 kc_1 rfl (by decide) rfl ?_
              refine r_goto G 23 dX7_faultNow_44 (by decide) ?_
              obtain ⟨m_23, hm_23, h⟩ := h
              exact r_sub [1, 0] rfl (ih_23 m_23 hm_23 _ h)
            · replace h := h.1 hc
              refine r_iload_n G dX7_faultNow_39 1 rfl rfl ?_
              exact r_iretR G E dX7_faultNow_40 h
      exact r_sub [1, 0] rfl (key_23 n_23 _ h)
    · replace h := h.1 hc
      refine r_iconst G (0 : Int32) dX7_faultNow_19 kc_0 ?_
      exact r_iretR G E dX7_faultNow_20 h
abbrev rm_X7_isDealt : Room := { frames := 0, cells := 0, slots := 0, locals := 0 }
def wp_X7_isDealt (σ : k_M) (Q : Int32 → Prop) : Prop :=
  ((((σ 1) (89 : Int32).toNatClampNeg) < 0 → Q (0 : Int32)) ∧ (¬ ((σ 1) (89 : Int32).toNatClampNeg) < 0 → Q (1 : Int32)))
theorem hd_X7_isDealt : yX7_isDealt.cls ≠ "java/lang/invoke/MethodHandle" ∧ yX7_isDealt.cls ≠ "java/lang/invoke/VarHandle" ∧ (parseMethodDescriptor yX7_isDealt.desc).map (fun d => d.parameters.length) = some 0 := by decide +kernel
theorem hdv_X7_isDealt : yX7_isDealt.cls = RX7 ∧ yX7_isDealt.cls ≠ "java/lang/invoke/MethodHandle" ∧ yX7_isDealt.cls ≠ "java/lang/invoke/VarHandle" ∧ (parseMethodDescriptor yX7_isDealt.desc).map (fun d => d.parameters.length) = some 0 := ⟨rfl, hd_X7_isDealt⟩
set_option maxHeartbeats 4000000 in
set_option maxRecDepth 100000 in
theorem c_X7_isDealt (l : Launch) (D : va_G) (a : Nat → Nat) (cI cZ : ClassId) (σ : k_M) (Q : Int32 → Prop) (h : wp_X7_isDealt σ  Q) : Met l yX7_isDealt wsX7_isDealt rm_X7_isDealt (k_PR D [(cI, .int), (cZ, .boolean)] (wM a cI cZ) σ [.ref (a 0)]) (vp_Si (fun r => (r = 0 ∨ r = 1) ∧ Q r)) 0 0 (fun _ => False) := by
  refine k_metR (by decide) rfl (Nat.le_of_ble_eq_true rfl) ?_
  intro Γ G E
  unfold wp_X7_isDealt at h
  have inX7 : ∀ w ∈ wsX70, w ∈ wsX7_isDealt := by decide +kernel
  have lk_7 := G.2.2.2.2.1 (.fieldLink RX7 7 "FreshSharesModel" "state" "[I") (by decide +kernel)
  show k_J Γ rm_X7_isDealt 1 true (wM a cI cZ) 0 [(0, .ref (a 0))] [] σ
  refine r_aload_n G dX7_isDealt_0 0 rfl rfl ?_
  refine r_get G inX7 0 0 wM_0 rfl (by decide) lk_7 rfl rfl dX7_isDealt_1 ?_
  refine r_bipush G (89 : Int32) dX7_isDealt_4 kb_89 ?_
  refine r_iald G 1 0 wM_1 rfl (by unfold vp_in; decide) dX7_isDealt_6 ?_
  refine r_if_lt G 14 dX7_isDealt_7 (by decide) (fun hc => ?_) (fun hc => ?_)
  · replace h := h.1 hc
    refine r_iconst G (0 : Int32) dX7_isDealt_14 kc_0 ?_
    exact r_zretR G E kz_0 dX7_isDealt_15 ⟨kzo_0, h⟩
  · replace h := h.2 hc
    refine r_iconst G (1 : Int32) dX7_isDealt_10 kc_1 ?_
    refine r_goto G 15 dX7_isDealt_11 (by decide) ?_
    exact r_zretR G E kz_1 dX7_isDealt_15 ⟨kzo_1, h⟩
abbrev rm_X7_layPoly : Room := { frames := 0, cells := 0, slots := 0, locals := 0 }
def wp_X7_layPoly (σ : k_M) (p1 p2 p3 : Int32) (Q : k_M → Prop) : Prop :=
  (k_lp2 (fun (B_15 : Int32 → k_M → Prop) (x4_15 : Int32) (σ_15 : k_M) => ((p3 ≤ x4_15 → Q σ_15) ∧ (¬ p3 ≤ x4_15 → (vp_in (((0 : Int32) + ((5 : Int32) * p1)) + x4_15) 371 ∧ (vp_in x4_15 5 ∧ B_15 (x4_15 + (1 : Int32)) (k_put σ_15 3 x4_15.toNatClampNeg ((σ_15 1) (((0 : Int32) + ((5 : Int32) * p1)) + x4_15).toNatClampNeg))))))) (1 : Int32) (k_put (k_put σ 0 4 p3) 3 (0 : Int32).toNatClampNeg p2))
theorem hd_X7_layPoly : yX7_layPoly.cls ≠ "java/lang/invoke/MethodHandle" ∧ yX7_layPoly.cls ≠ "java/lang/invoke/VarHandle" ∧ (parseMethodDescriptor yX7_layPoly.desc).map (fun d => d.parameters.length) = some 3 := by decide +kernel
theorem hdv_X7_layPoly : yX7_layPoly.cls = RX7 ∧ yX7_layPoly.cls ≠ "java/lang/invoke/MethodHandle" ∧ yX7_layPoly.cls ≠ "java/lang/invoke/VarHandle" ∧ (parseMethodDescriptor yX7_layPoly.desc).map (fun d => d.parameters.length) = some 3 := ⟨rfl, hd_X7_layPoly⟩
set_option maxHeartbeats 4000000 in
set_option maxRecDepth 100000 in
theorem c_X7_layPoly (l : Launch) (D : va_G) (a : Nat → Nat) (cI cZ : ClassId) (σ : k_M) (p1 p2 p3 : Int32) (Q : k_M → Prop) (h : wp_X7_layPoly σ p1 p2 p3 Q) : Met l yX7_layPoly wsX7_layPoly rm_X7_layPoly (k_PW D [(cI, .int), (cZ, .boolean)] (wM a cI cZ) σ [.ref (a 0), .int p1, .int p2, .int p3]) (k_Qv D (wM a cI cZ) Q) 0 0 (k_wA (wM a cI cZ)) := by
  refine k_metW (Qc := fun D => k_Qv D (wM a cI cZ) Q) (by decide) rfl (Nat.le_of_ble_eq_true rfl) ?_
  intro Γ G hD E
  unfold wp_X7_layPoly at h
  have inX7 : ∀ w ∈ wsX70, w ∈ wsX7_layPoly := by decide +kernel
  have lk_7 := G.2.2.2.2.1 (.fieldLink RX7 7 "FreshSharesModel" "state" "[I") (by decide +kernel)
  have lk_16 := G.2.2.2.2.1 (.fieldLink RX7 16 "FreshSharesModel" "poly" "[I") (by decide +kernel)
  have lk_97 := G.2.2.2.2.1 (.fieldLink RX7 97 "FreshSharesModel" "size" "I") (by decide +kernel)
  show k_J Γ rm_X7_layPoly 5 false (wM a cI cZ) 0 [(0, .ref (a 0)), (1, .int p1), (2, .int p2), (3, .int p3)] [] σ
  refine r_aload_n G dX7_layPoly_0 0 rfl rfl ?_
  refine r_iload_n G dX7_layPoly_1 3 rfl rfl ?_
  refine r_put G hD tyX7 tyX7_ok nmX7 inX7 0 4 wM_0 rfl (by decide) lk_97 rfl rfl (ty := .int) (by decide +kernel) rfl rfl (Nat.le_of_ble_eq_true rfl) _ wM_0_4 dX7_layPoly_2 ?_
  refine r_aload_n G dX7_layPoly_5 0 rfl rfl ?_
  refine r_get G inX7 0 3 wM_0 rfl (by decide) lk_16 rfl rfl dX7_layPoly_6 ?_
  refine r_iconst G (0 : Int32) dX7_layPoly_9 kc_0 ?_
  refine r_iload_n G dX7_layPoly_10 2 rfl rfl ?_
  refine r_iast G hD 3 0 wM_3 rfl (by unfold vp_in; decide) _ wM_3_s dX7_layPoly_11 ?_
  refine r_iconst G (1 : Int32) dX7_layPoly_12 kc_1 ?_
  refine r_istore (lv' := [(4, .int (1 : Int32)), (0, .ref (a 0)), (1, .int p1), (2, .int p2), (3, .int p3)]) G dX7_layPoly_13 (by decide) rfl ?_
  obtain ⟨I_15, n_15, h, hI_15⟩ := h
  have key_15 : ∀ (n : Nat) (x4_15 : Int32) (σ_15 : k_M), I_15 n x4_15 σ_15 → k_J Γ rm_X7_layPoly 5 false (wM a cI cZ) 15 [(0, .ref (a 0)), (1, .int p1), (3, .int p3), (4, .int x4_15)] [] σ_15 := by
    intro n
    induction n using Nat.strongRecOn with
    | ind n ih_15 =>
      intro x4_15 σ_15 h
      replace h := hI_15 n x4_15 σ_15 h
      refine r_iload G dX7_layPoly_15 3 rfl ?_
      refine r_iload_n G dX7_layPoly_17 2 rfl rfl ?_
      refine r_icmp_ge G 47 dX7_layPoly_18 (by decide) (fun hc => ?_) (fun hc => ?_)
      · replace h := h.1 hc
        exact r_vretW G E dX7_layPoly_47 h
      · replace h := h.2 hc
        refine r_aload_n G dX7_layPoly_21 0 rfl rfl ?_
        refine r_get G inX7 0 3 wM_0 rfl (by decide) lk_16 rfl rfl dX7_layPoly_22 ?_
        refine r_iload G dX7_layPoly_25 3 rfl ?_
        refine r_aload_n G dX7_layPoly_27 0 rfl rfl ?_
        refine r_get G inX7 0 0 wM_0 rfl (by decide) lk_7 rfl rfl dX7_layPoly_28 ?_
        refine r_iconst G (0 : Int32) dX7_layPoly_31 kc_0 ?_
        refine r_iconst G (5 : Int32) dX7_layPoly_32 kc_5 ?_
        refine r_iload_n G dX7_layPoly_33 1 rfl rfl ?_
        refine r_imul G dX7_layPoly_34 ?_
        refine r_iadd G dX7_layPoly_35 ?_
        refine r_iload G dX7_layPoly_36 3 rfl ?_
        refine r_iadd G dX7_layPoly_38 ?_
        refine r_iald G 1 0 wM_1 rfl h.1 dX7_layPoly_39 ?_
        replace h := h.2
        refine r_iast G hD 3 0 wM_3 rfl h.1 _ wM_3_s dX7_layPoly_40 ?_
        replace h := h.2
        refine r_iinc (lv' := [(4, .int (x4_15 + (1 : Int32))), (0, .ref (a 0)), (1, .int p1), (3, .int p3)]) G 3 dX7_layPoly_41 kc_1 rfl (by decide) rfl ?_
        refine r_goto G 15 dX7_layPoly_44 (by decide) ?_
        obtain ⟨m_15, hm_15, h⟩ := h
        exact r_sub [1, 2, 3, 0] rfl (ih_15 m_15 hm_15 _ _ h)
  exact r_sub [1, 2, 4, 0] rfl (key_15 n_15 _ _ h)
abbrev rm_X7_polyAt : Room := { frames := 1, cells := 0, slots := 0, locals := 24 }
def wp_X7_polyAt (σ : k_M) (p1 : Int32) (Q : Int32 → Prop) : Prop :=
  (k_lp2 (fun (B_4 : Int32 → Int32 → Prop) (x2_4 : Int32) (x3_4 : Int32) => (((σ 0 4) ≤ x3_4 → Q (k_rem x2_4 (23 : Int32))) ∧ (¬ (σ 0 4) ≤ x3_4 → (vp_in x3_4 5 ∧ wp_X7_power p1 x3_4 (23 : Int32) (fun (r_23 : Int32) => B_4 (x2_4 + (((σ 3) x3_4.toNatClampNeg) * r_23)) (x3_4 + (1 : Int32))))))) (0 : Int32) (0 : Int32))
theorem hd_X7_polyAt : yX7_polyAt.cls ≠ "java/lang/invoke/MethodHandle" ∧ yX7_polyAt.cls ≠ "java/lang/invoke/VarHandle" ∧ (parseMethodDescriptor yX7_polyAt.desc).map (fun d => d.parameters.length) = some 1 := by decide +kernel
theorem hdv_X7_polyAt : yX7_polyAt.cls = RX7 ∧ yX7_polyAt.cls ≠ "java/lang/invoke/MethodHandle" ∧ yX7_polyAt.cls ≠ "java/lang/invoke/VarHandle" ∧ (parseMethodDescriptor yX7_polyAt.desc).map (fun d => d.parameters.length) = some 1 := ⟨rfl, hd_X7_polyAt⟩
set_option maxHeartbeats 4000000 in
set_option maxRecDepth 100000 in
theorem c_X7_polyAt (l : Launch) (D : va_G) (a : Nat → Nat) (cI cZ : ClassId) (σ : k_M) (p1 : Int32) (Q : Int32 → Prop) (h : wp_X7_polyAt σ p1 Q) : Met l yX7_polyAt wsX7_polyAt rm_X7_polyAt (k_PR D [(cI, .int), (cZ, .boolean)] (wM a cI cZ) σ [.ref (a 0), .int p1]) (vp_Si Q) 0 0 (fun _ => False) := by
  refine k_metR (by decide) rfl (Nat.le_of_ble_eq_true rfl) ?_
  intro Γ G E
  unfold wp_X7_polyAt at h
  have inX7 : ∀ w ∈ wsX70, w ∈ wsX7_polyAt := by decide +kernel
  have lk_16 := G.2.2.2.2.1 (.fieldLink RX7 16 "FreshSharesModel" "poly" "[I") (by decide +kernel)
  have lk_97 := G.2.2.2.2.1 (.fieldLink RX7 97 "FreshSharesModel" "size" "I") (by decide +kernel)
  show k_J Γ rm_X7_polyAt 4 true (wM a cI cZ) 0 [(0, .ref (a 0)), (1, .int p1)] [] σ
  refine r_iconst G (0 : Int32) dX7_polyAt_0 kc_0 ?_
  refine r_istore_n (lv' := [(2, .int (0 : Int32)), (0, .ref (a 0)), (1, .int p1)]) G dX7_polyAt_1 rfl (by decide) rfl ?_
  refine r_iconst G (0 : Int32) dX7_polyAt_2 kc_0 ?_
  refine r_istore_n (lv' := [(3, .int (0 : Int32)), (2, .int (0 : Int32)), (0, .ref (a 0)), (1, .int p1)]) G dX7_polyAt_3 rfl (by decide) rfl ?_
  obtain ⟨I_4, n_4, h, hI_4⟩ := h
  have key_4 : ∀ (n : Nat) (x2_4 : Int32) (x3_4 : Int32), I_4 n x2_4 x3_4 → k_J Γ rm_X7_polyAt 4 true (wM a cI cZ) 4 [(0, .ref (a 0)), (1, .int p1), (2, .int x2_4), (3, .int x3_4)] [] σ := by
    intro n
    induction n using Nat.strongRecOn with
    | ind n ih_4 =>
      intro x2_4 x3_4 h
      replace h := hI_4 n x2_4 x3_4 h
      refine r_iload_n G dX7_polyAt_4 3 rfl rfl ?_
      refine r_aload_n G dX7_polyAt_5 0 rfl rfl ?_
      refine r_get G inX7 0 4 wM_0 rfl (by decide) lk_97 rfl rfl dX7_polyAt_6 ?_
      refine r_icmp_ge G 35 dX7_polyAt_9 (by decide) (fun hc => ?_) (fun hc => ?_)
      · replace h := h.1 hc
        refine r_iload_n G dX7_polyAt_35 2 rfl rfl ?_
        refine r_bipush G (23 : Int32) dX7_polyAt_36 kb_23 ?_
        refine r_irem G kne_23 dX7_polyAt_38 ?_
        exact r_iretR G E dX7_polyAt_39 h
      · replace h := h.2 hc
        refine r_iload_n G dX7_polyAt_12 2 rfl rfl ?_
        refine r_aload_n G dX7_polyAt_13 0 rfl rfl ?_
        refine r_get G inX7 0 3 wM_0 rfl (by decide) lk_16 rfl rfl dX7_polyAt_14 ?_
        refine r_iload_n G dX7_polyAt_17 3 rfl rfl ?_
        refine r_iald G 3 0 wM_3 rfl h.1 dX7_polyAt_18 ?_
        replace h := h.2
        refine r_iload_n G dX7_polyAt_19 1 rfl rfl ?_
        refine r_iload_n G dX7_polyAt_20 3 rfl rfl ?_
        refine r_bipush G (23 : Int32) dX7_polyAt_21 kb_23 ?_
        refine r_cSR G [.int p1, .int x3_4, .int (23 : Int32)] [.int ((σ 3) x3_4.toNatClampNeg), .int x2_4] (c_X7_power (k_l Γ) (k_D Γ) _ _ _ _ h) (va_cwS 3 G.2.2.2.2.1 gX7_polyAt_X7_power rfl rfl rfl hd_X7_power ⟨Nat.le_of_ble_eq_true rfl, Nat.le_of_ble_eq_true rfl⟩) [] rfl (fun _ _ => k_E0) rfl rfl (Nat.le_of_ble_eq_true rfl) dX7_polyAt_23 (fun r_23 h => ?_)
        refine r_imul G dX7_polyAt_26 ?_
        refine r_iadd G dX7_polyAt_27 ?_
        refine r_istore_n (lv' := [(2, .int (x2_4 + (((σ 3) x3_4.toNatClampNeg) * r_23))), (0, .ref (a 0)), (1, .int p1), (3, .int x3_4)]) G dX7_polyAt_28 rfl (by decide) rfl ?_
        refine r_iinc (lv' := [(3, .int (x3_4 + (1 : Int32))), (2, .int (x2_4 + (((σ 3) x3_4.toNatClampNeg) * r_23))), (0, .ref (a 0)), (1, .int p1)]) G 3 dX7_polyAt_29 kc_1 rfl (by decide) rfl ?_
        refine r_goto G 4 dX7_polyAt_32 (by decide) ?_
        obtain ⟨m_4, hm_4, h⟩ := h
        exact r_sub [2, 3, 1, 0] rfl (ih_4 m_4 hm_4 _ _ h)
  exact r_sub [2, 3, 1, 0] rfl (key_4 n_4 _ _ h)
abbrev rm_X7_nextEpoch : Room := { frames := 0, cells := 0, slots := 0, locals := 0 }
def wp_X7_nextEpoch (σ : k_M) (Q : k_M → Prop) : Prop :=
  (vp_in ((95 : Int32) + (((k_put σ 1 (89 : Int32).toNatClampNeg (((σ 1) (89 : Int32).toNatClampNeg) + (1 : Int32))) 1) (89 : Int32).toNatClampNeg)) 371 ∧ Q (k_put (k_put σ 1 (89 : Int32).toNatClampNeg (((σ 1) (89 : Int32).toNatClampNeg) + (1 : Int32))) 1 ((95 : Int32) + (((k_put σ 1 (89 : Int32).toNatClampNeg (((σ 1) (89 : Int32).toNatClampNeg) + (1 : Int32))) 1) (89 : Int32).toNatClampNeg)).toNatClampNeg (((k_put σ 1 (89 : Int32).toNatClampNeg (((σ 1) (89 : Int32).toNatClampNeg) + (1 : Int32))) 1) (88 : Int32).toNatClampNeg)))
theorem hd_X7_nextEpoch : yX7_nextEpoch.cls ≠ "java/lang/invoke/MethodHandle" ∧ yX7_nextEpoch.cls ≠ "java/lang/invoke/VarHandle" ∧ (parseMethodDescriptor yX7_nextEpoch.desc).map (fun d => d.parameters.length) = some 0 := by decide +kernel
theorem hdv_X7_nextEpoch : yX7_nextEpoch.cls = RX7 ∧ yX7_nextEpoch.cls ≠ "java/lang/invoke/MethodHandle" ∧ yX7_nextEpoch.cls ≠ "java/lang/invoke/VarHandle" ∧ (parseMethodDescriptor yX7_nextEpoch.desc).map (fun d => d.parameters.length) = some 0 := ⟨rfl, hd_X7_nextEpoch⟩
set_option maxHeartbeats 4000000 in
set_option maxRecDepth 100000 in
theorem c_X7_nextEpoch (l : Launch) (D : va_G) (a : Nat → Nat) (cI cZ : ClassId) (σ : k_M) (Q : k_M → Prop) (h : wp_X7_nextEpoch σ  Q) : Met l yX7_nextEpoch wsX7_nextEpoch rm_X7_nextEpoch (k_PW D [(cI, .int), (cZ, .boolean)] (wM a cI cZ) σ [.ref (a 0)]) (k_Qv D (wM a cI cZ) Q) 0 0 (k_wA (wM a cI cZ)) := by
  refine k_metW (Qc := fun D => k_Qv D (wM a cI cZ) Q) (by decide) rfl (Nat.le_of_ble_eq_true rfl) ?_
  intro Γ G hD E
  unfold wp_X7_nextEpoch at h
  have inX7 : ∀ w ∈ wsX70, w ∈ wsX7_nextEpoch := by decide +kernel
  have lk_7 := G.2.2.2.2.1 (.fieldLink RX7 7 "FreshSharesModel" "state" "[I") (by decide +kernel)
  show k_J Γ rm_X7_nextEpoch 1 false (wM a cI cZ) 0 [(0, .ref (a 0))] [] σ
  refine r_aload_n G dX7_nextEpoch_0 0 rfl rfl ?_
  refine r_get G inX7 0 0 wM_0 rfl (by decide) lk_7 rfl rfl dX7_nextEpoch_1 ?_
  refine r_bipush G (89 : Int32) dX7_nextEpoch_4 kb_89 ?_
  refine r_dup2 G rfl rfl dX7_nextEpoch_6 ?_
  refine r_iald G 1 0 wM_1 rfl (by unfold vp_in; decide) dX7_nextEpoch_7 ?_
  refine r_iconst G (1 : Int32) dX7_nextEpoch_8 kc_1 ?_
  refine r_iadd G dX7_nextEpoch_9 ?_
  refine r_iast G hD 1 0 wM_1 rfl (by unfold vp_in; decide) _ wM_1_s dX7_nextEpoch_10 ?_
  refine r_aload_n G dX7_nextEpoch_11 0 rfl rfl ?_
  refine r_get G inX7 0 0 wM_0 rfl (by decide) lk_7 rfl rfl dX7_nextEpoch_12 ?_
  refine r_bipush G (95 : Int32) dX7_nextEpoch_15 kb_95 ?_
  refine r_aload_n G dX7_nextEpoch_17 0 rfl rfl ?_
  refine r_get G inX7 0 0 wM_0 rfl (by decide) lk_7 rfl rfl dX7_nextEpoch_18 ?_
  refine r_bipush G (89 : Int32) dX7_nextEpoch_21 kb_89 ?_
  refine r_iald G 1 0 wM_1 rfl (by unfold vp_in; decide) dX7_nextEpoch_23 ?_
  refine r_iadd G dX7_nextEpoch_24 ?_
  refine r_aload_n G dX7_nextEpoch_25 0 rfl rfl ?_
  refine r_get G inX7 0 0 wM_0 rfl (by decide) lk_7 rfl rfl dX7_nextEpoch_26 ?_
  refine r_bipush G (88 : Int32) dX7_nextEpoch_29 kb_88 ?_
  refine r_iald G 1 0 wM_1 rfl (by unfold vp_in; decide) dX7_nextEpoch_31 ?_
  refine r_iast G hD 1 0 wM_1 rfl h.1 _ wM_1_s dX7_nextEpoch_32 ?_
  replace h := h.2
  exact r_vretW G E dX7_nextEpoch_33 h
abbrev rm_X7_deal : Room := { frames := 2, cells := 0, slots := 0, locals := 47 }
def wp_X7_deal (σ : k_M) (p1 : Int32) (Q : Int32 → k_M → Prop) : Prop :=
  wp_X7_layPoly σ (0 : Int32) ((σ 1) (0 : Int32).toNatClampNeg) p1 (fun (σ_9 : k_M) => (k_lp2 (fun (B_22 : Int32 → k_M → Prop) (x2_22 : Int32) (σ_22 : k_M) => ((p1 ≤ x2_22 → (k_lp2 (fun (B_53 : Int32 → k_M → Prop) (x2_53 : Int32) (σ_53 : k_M) => (((7 : Int32) < x2_53 → wp_X7_isDealt σ_53 (fun (r_86 : Int32) => ((r_86 = 0 → wp_X7_nextEpoch (k_put σ_53 1 (89 : Int32).toNatClampNeg (-1 : Int32)) (fun (σ_105 : k_M) => Q (1 : Int32) σ_105)) ∧ (¬ r_86 = 0 → wp_X7_nextEpoch (k_put σ_53 1 (89 : Int32).toNatClampNeg ((σ_53 1) (89 : Int32).toNatClampNeg)) (fun (σ_105 : k_M) => Q (1 : Int32) σ_105))))) ∧ (¬ (7 : Int32) < x2_53 → wp_X7_polyAt σ_53 x2_53 (fun (r_69 : Int32) => (vp_in ((40 : Int32) + x2_53) 371 ∧ B_53 (x2_53 + (1 : Int32)) (k_put σ_53 1 ((40 : Int32) + x2_53).toNatClampNeg r_69)))))) (1 : Int32) σ_22)) ∧ (¬ p1 ≤ x2_22 → (vp_in x2_22 5 ∧ wp_X7_sealOf ((σ_22 3) x2_22.toNatClampNeg) (fun (r_41 : Int32) => (vp_in ((90 : Int32) + x2_22) 371 ∧ B_22 (x2_22 + (1 : Int32)) (k_put σ_22 1 ((90 : Int32) + x2_22).toNatClampNeg r_41))))))) (0 : Int32) (k_put σ_9 1 (88 : Int32).toNatClampNeg p1)))
theorem hd_X7_deal : yX7_deal.cls ≠ "java/lang/invoke/MethodHandle" ∧ yX7_deal.cls ≠ "java/lang/invoke/VarHandle" ∧ (parseMethodDescriptor yX7_deal.desc).map (fun d => d.parameters.length) = some 1 := by decide +kernel
theorem hdv_X7_deal : yX7_deal.cls = RX7 ∧ yX7_deal.cls ≠ "java/lang/invoke/MethodHandle" ∧ yX7_deal.cls ≠ "java/lang/invoke/VarHandle" ∧ (parseMethodDescriptor yX7_deal.desc).map (fun d => d.parameters.length) = some 1 := ⟨rfl, hd_X7_deal⟩
set_option maxHeartbeats 4000000 in
set_option maxRecDepth 100000 in
theorem c_X7_deal (l : Launch) (D : va_G) (a : Nat → Nat) (cI cZ : ClassId) (σ : k_M) (p1 : Int32) (Q : Int32 → k_M → Prop) (h : wp_X7_deal σ p1 Q) : Met l yX7_deal wsX7_deal rm_X7_deal (k_PW D [(cI, .int), (cZ, .boolean)] (wM a cI cZ) σ [.ref (a 0), .int p1]) (k_Qi D (wM a cI cZ) Q) 0 0 (k_wA (wM a cI cZ)) := by
  refine k_metW (Qc := fun D => k_Qi D (wM a cI cZ) Q) (by decide) rfl (Nat.le_of_ble_eq_true rfl) ?_
  intro Γ G hD E
  unfold wp_X7_deal at h
  have inX7 : ∀ w ∈ wsX70, w ∈ wsX7_deal := by decide +kernel
  have lk_7 := G.2.2.2.2.1 (.fieldLink RX7 7 "FreshSharesModel" "state" "[I") (by decide +kernel)
  have lk_16 := G.2.2.2.2.1 (.fieldLink RX7 16 "FreshSharesModel" "poly" "[I") (by decide +kernel)
  show k_J Γ rm_X7_deal 3 false (wM a cI cZ) 0 [(0, .ref (a 0)), (1, .int p1)] [] σ
  refine r_aload_n G dX7_deal_0 0 rfl rfl ?_
  refine r_iconst G (0 : Int32) dX7_deal_1 kc_0 ?_
  refine r_aload_n G dX7_deal_2 0 rfl rfl ?_
  refine r_get G inX7 0 0 wM_0 rfl (by decide) lk_7 rfl rfl dX7_deal_3 ?_
  refine r_iconst G (0 : Int32) dX7_deal_6 kc_0 ?_
  refine r_iald G 1 0 wM_1 rfl (by unfold vp_in; decide) dX7_deal_7 ?_
  refine r_iload_n G dX7_deal_8 1 rfl rfl ?_
  refine r_cVWv G hD (ci := 5) (cq := (RX7, TX7, 9)) [.int (0 : Int32), .int ((σ 1) (0 : Int32).toNatClampNeg), .int p1] [] (c_X7_layPoly (k_l Γ) (k_D Γ) a cI cZ _ _ _ _ _ h) 0 rfl wM_0 (cwV 3 G.2.2.2.2.1 gX7_deal_X7_layPoly rfl rfl rfl hdv_X7_layPoly ⟨Nat.le_of_ble_eq_true rfl, Nat.le_of_ble_eq_true rfl⟩) [0, 1] rfl rfl rfl (Nat.le_of_ble_eq_true rfl) dX7_deal_9 (fun σ_9 h => ?_)
  refine r_aload_n G dX7_deal_12 0 rfl rfl ?_
  refine r_get G inX7 0 0 wM_0 rfl (by decide) lk_7 rfl rfl dX7_deal_13 ?_
  refine r_bipush G (88 : Int32) dX7_deal_16 kb_88 ?_
  refine r_iload_n G dX7_deal_18 1 rfl rfl ?_
  refine r_iast G hD 1 0 wM_1 rfl (by unfold vp_in; decide) _ wM_1_s dX7_deal_19 ?_
  refine r_iconst G (0 : Int32) dX7_deal_20 kc_0 ?_
  refine r_istore_n (lv' := [(2, .int (0 : Int32)), (0, .ref (a 0)), (1, .int p1)]) G dX7_deal_21 rfl (by decide) rfl ?_
  obtain ⟨I_22, n_22, h, hI_22⟩ := h
  have key_22 : ∀ (n : Nat) (x2_22 : Int32) (σ_22 : k_M), I_22 n x2_22 σ_22 → k_J Γ rm_X7_deal 3 false (wM a cI cZ) 22 [(0, .ref (a 0)), (1, .int p1), (2, .int x2_22)] [] σ_22 := by
    intro n
    induction n using Nat.strongRecOn with
    | ind n ih_22 =>
      intro x2_22 σ_22 h
      replace h := hI_22 n x2_22 σ_22 h
      refine r_iload_n G dX7_deal_22 2 rfl rfl ?_
      refine r_iload_n G dX7_deal_23 1 rfl rfl ?_
      refine r_icmp_ge G 51 dX7_deal_24 (by decide) (fun hc => ?_) (fun hc => ?_)
      · replace h := h.1 hc
        refine r_iconst G (1 : Int32) dX7_deal_51 kc_1 ?_
        refine r_istore_n (lv' := [(2, .int (1 : Int32)), (0, .ref (a 0)), (1, .int p1)]) G dX7_deal_52 rfl (by decide) rfl ?_
        obtain ⟨I_53, n_53, h, hI_53⟩ := h
        have key_53 : ∀ (n : Nat) (x2_53 : Int32) (σ_53 : k_M), I_53 n x2_53 σ_53 → k_J Γ rm_X7_deal 3 false (wM a cI cZ) 53 [(0, .ref (a 0)), (2, .int x2_53)] [] σ_53 := by
          intro n
          induction n using Nat.strongRecOn with
          | ind n ih_53 =>
            intro x2_53 σ_53 h
            replace h := hI_53 n x2_53 σ_53 h
            refine r_iload_n G dX7_deal_53 1 rfl rfl ?_
            refine r_bipush G (7 : Int32) dX7_deal_54 kb_7 ?_
            refine r_icmp_gt G 79 dX7_deal_56 (by decide) (fun hc => ?_) (fun hc => ?_)
            · replace h := h.1 hc
              refine r_aload_n G dX7_deal_79 0 rfl rfl ?_
              refine r_get G inX7 0 0 wM_0 rfl (by decide) lk_7 rfl rfl dX7_deal_80 ?_
              refine r_bipush G (89 : Int32) dX7_deal_83 kb_89 ?_
              refine r_aload_n G dX7_deal_85 0 rfl rfl ?_
              refine r_cVR G (ci := 5) (cq := (RX7, TX7, 9)) [] [.int (89 : Int32), .ref (a 1)] (c_X7_isDealt (k_l Γ) (k_D Γ) a cI cZ _ _ h) 0 rfl wM_0 (cwV 0 G.2.2.2.2.1 gX7_deal_X7_isDealt rfl rfl rfl hdv_X7_isDealt ⟨Nat.le_of_ble_eq_true rfl, Nat.le_of_ble_eq_true rfl⟩) [0, 1] rfl (fun _ hP => hP) rfl rfl (Nat.le_of_ble_eq_true rfl) dX7_deal_86 (fun r_86 h => ?_)
              have hz_86 := h.1
              replace h := h.2
              refine r_if_eq G 102 dX7_deal_89 (by decide) (fun hc => ?_) (fun hc => ?_)
              · replace h := h.1 hc
                refine r_iconst G (-1 : Int32) dX7_deal_102 kc_m1 ?_
                refine r_iast G hD 1 0 wM_1 rfl (by unfold vp_in; decide) _ wM_1_s dX7_deal_103 ?_
                refine r_aload_n G dX7_deal_104 0 rfl rfl ?_
                refine r_cVWv G hD (ci := 5) (cq := (RX7, TX7, 9)) [] [] (c_X7_nextEpoch (k_l Γ) (k_D Γ) a cI cZ _ _ h) 0 rfl wM_0 (cwV 0 G.2.2.2.2.1 gX7_deal_X7_nextEpoch rfl rfl rfl hdv_X7_nextEpoch ⟨Nat.le_of_ble_eq_true rfl, Nat.le_of_ble_eq_true rfl⟩) [0, 1] rfl rfl rfl (Nat.le_of_ble_eq_true rfl) dX7_deal_105 (fun σ_105 h => ?_)
                refine r_iconst G (1 : Int32) dX7_deal_108 kc_1 ?_
                exact r_iretW G E dX7_deal_109 h
              · replace h := h.2 hc
                refine r_aload_n G dX7_deal_92 0 rfl rfl ?_
                refine r_get G inX7 0 0 wM_0 rfl (by decide) lk_7 rfl rfl dX7_deal_93 ?_
                refine r_bipush G (89 : Int32) dX7_deal_96 kb_89 ?_
                refine r_iald G 1 0 wM_1 rfl (by unfold vp_in; decide) dX7_deal_98 ?_
                refine r_goto G 103 dX7_deal_99 (by decide) ?_
                refine r_iast G hD 1 0 wM_1 rfl (by unfold vp_in; decide) _ wM_1_s dX7_deal_103 ?_
                refine r_aload_n G dX7_deal_104 0 rfl rfl ?_
                refine r_cVWv G hD (ci := 5) (cq := (RX7, TX7, 9)) [] [] (c_X7_nextEpoch (k_l Γ) (k_D Γ) a cI cZ _ _ h) 0 rfl wM_0 (cwV 0 G.2.2.2.2.1 gX7_deal_X7_nextEpoch rfl rfl rfl hdv_X7_nextEpoch ⟨Nat.le_of_ble_eq_true rfl, Nat.le_of_ble_eq_true rfl⟩) [0, 1] rfl rfl rfl (Nat.le_of_ble_eq_true rfl) dX7_deal_105 (fun σ_105 h => ?_)
                refine r_iconst G (1 : Int32) dX7_deal_108 kc_1 ?_
                exact r_iretW G E dX7_deal_109 h
            · replace h := h.2 hc
              refine r_aload_n G dX7_deal_59 0 rfl rfl ?_
              refine r_get G inX7 0 0 wM_0 rfl (by decide) lk_7 rfl rfl dX7_deal_60 ?_
              refine r_bipush G (40 : Int32) dX7_deal_63 kb_40 ?_
              refine r_iload_n G dX7_deal_65 1 rfl rfl ?_
              refine r_iadd G dX7_deal_66 ?_
              refine r_aload_n G dX7_deal_67 0 rfl rfl ?_
              refine r_iload_n G dX7_deal_68 1 rfl rfl ?_
              refine r_cVR G (ci := 5) (cq := (RX7, TX7, 9)) [.int x2_53] [.int ((40 : Int32) + x2_53), .ref (a 1)] (c_X7_polyAt (k_l Γ) (k_D Γ) a cI cZ _ _ _ h) 0 rfl wM_0 (cwV 1 G.2.2.2.2.1 gX7_deal_X7_polyAt rfl rfl rfl hdv_X7_polyAt ⟨Nat.le_of_ble_eq_true rfl, Nat.le_of_ble_eq_true rfl⟩) [0, 1] rfl (fun _ hP => hP) rfl rfl (Nat.le_of_ble_eq_true rfl) dX7_deal_69 (fun r_69 h => ?_)
              refine r_iast G hD 1 0 wM_1 rfl h.1 _ wM_1_s dX7_deal_72 ?_
              replace h := h.2
              refine r_iinc (lv' := [(2, .int (x2_53 + (1 : Int32))), (0, .ref (a 0))]) G 1 dX7_deal_73 kc_1 rfl (by decide) rfl ?_
              refine r_goto G 53 dX7_deal_76 (by decide) ?_
              obtain ⟨m_53, hm_53, h⟩ := h
              exact r_sub [1, 0] rfl (ih_53 m_53 hm_53 _ _ h)
        exact r_sub [1, 0] rfl (key_53 n_53 _ _ h)
      · replace h := h.2 hc
        refine r_aload_n G dX7_deal_27 0 rfl rfl ?_
        refine r_get G inX7 0 0 wM_0 rfl (by decide) lk_7 rfl rfl dX7_deal_28 ?_
        refine r_bipush G (90 : Int32) dX7_deal_31 kb_90 ?_
        refine r_iload_n G dX7_deal_33 2 rfl rfl ?_
        refine r_iadd G dX7_deal_34 ?_
        refine r_aload_n G dX7_deal_35 0 rfl rfl ?_
        refine r_get G inX7 0 3 wM_0 rfl (by decide) lk_16 rfl rfl dX7_deal_36 ?_
        refine r_iload_n G dX7_deal_39 2 rfl rfl ?_
        refine r_iald G 3 0 wM_3 rfl h.1 dX7_deal_40 ?_
        replace h := h.2
        refine r_cSR G [.int ((σ_22 3) x2_22.toNatClampNeg)] [.int ((90 : Int32) + x2_22), .ref (a 1)] (c_X7_sealOf (k_l Γ) (k_D Γ) _ _ h) (va_cwS 1 G.2.2.2.2.1 gX7_deal_X7_sealOf rfl rfl rfl hd_X7_sealOf ⟨Nat.le_of_ble_eq_true rfl, Nat.le_of_ble_eq_true rfl⟩) [] rfl (fun _ _ => k_E0) rfl rfl (Nat.le_of_ble_eq_true rfl) dX7_deal_41 (fun r_41 h => ?_)
        refine r_iast G hD 1 0 wM_1 rfl h.1 _ wM_1_s dX7_deal_44 ?_
        replace h := h.2
        refine r_iinc (lv' := [(2, .int (x2_22 + (1 : Int32))), (0, .ref (a 0)), (1, .int p1)]) G 2 dX7_deal_45 kc_1 rfl (by decide) rfl ?_
        refine r_goto G 22 dX7_deal_48 (by decide) ?_
        obtain ⟨m_22, hm_22, h⟩ := h
        exact r_sub [1, 2, 0] rfl (ih_22 m_22 hm_22 _ _ h)
  exact r_sub [1, 2, 0] rfl (key_22 n_22 _ _ h)
abbrev rm_X7_hasShare : Room := { frames := 0, cells := 0, slots := 0, locals := 0 }
def wp_X7_hasShare (σ : k_M) (p1 : Int32) (Q : Int32 → Prop) : Prop :=
  (vp_in ((40 : Int32) + p1) 371 ∧ ((((σ 1) ((40 : Int32) + p1).toNatClampNeg) < 0 → Q (0 : Int32)) ∧ (¬ ((σ 1) ((40 : Int32) + p1).toNatClampNeg) < 0 → Q (1 : Int32))))
theorem hd_X7_hasShare : yX7_hasShare.cls ≠ "java/lang/invoke/MethodHandle" ∧ yX7_hasShare.cls ≠ "java/lang/invoke/VarHandle" ∧ (parseMethodDescriptor yX7_hasShare.desc).map (fun d => d.parameters.length) = some 1 := by decide +kernel
theorem hdv_X7_hasShare : yX7_hasShare.cls = RX7 ∧ yX7_hasShare.cls ≠ "java/lang/invoke/MethodHandle" ∧ yX7_hasShare.cls ≠ "java/lang/invoke/VarHandle" ∧ (parseMethodDescriptor yX7_hasShare.desc).map (fun d => d.parameters.length) = some 1 := ⟨rfl, hd_X7_hasShare⟩
set_option maxHeartbeats 4000000 in
set_option maxRecDepth 100000 in
theorem c_X7_hasShare (l : Launch) (D : va_G) (a : Nat → Nat) (cI cZ : ClassId) (σ : k_M) (p1 : Int32) (Q : Int32 → Prop) (h : wp_X7_hasShare σ p1 Q) : Met l yX7_hasShare wsX7_hasShare rm_X7_hasShare (k_PR D [(cI, .int), (cZ, .boolean)] (wM a cI cZ) σ [.ref (a 0), .int p1]) (vp_Si (fun r => (r = 0 ∨ r = 1) ∧ Q r)) 0 0 (fun _ => False) := by
  refine k_metR (by decide) rfl (Nat.le_of_ble_eq_true rfl) ?_
  intro Γ G E
  unfold wp_X7_hasShare at h
  have inX7 : ∀ w ∈ wsX70, w ∈ wsX7_hasShare := by decide +kernel
  have lk_7 := G.2.2.2.2.1 (.fieldLink RX7 7 "FreshSharesModel" "state" "[I") (by decide +kernel)
  show k_J Γ rm_X7_hasShare 2 true (wM a cI cZ) 0 [(0, .ref (a 0)), (1, .int p1)] [] σ
  refine r_aload_n G dX7_hasShare_0 0 rfl rfl ?_
  refine r_get G inX7 0 0 wM_0 rfl (by decide) lk_7 rfl rfl dX7_hasShare_1 ?_
  refine r_bipush G (40 : Int32) dX7_hasShare_4 kb_40 ?_
  refine r_iload_n G dX7_hasShare_6 1 rfl rfl ?_
  refine r_iadd G dX7_hasShare_7 ?_
  refine r_iald G 1 0 wM_1 rfl h.1 dX7_hasShare_8 ?_
  replace h := h.2
  refine r_if_lt G 16 dX7_hasShare_9 (by decide) (fun hc => ?_) (fun hc => ?_)
  · replace h := h.1 hc
    refine r_iconst G (0 : Int32) dX7_hasShare_16 kc_0 ?_
    exact r_zretR G E kz_0 dX7_hasShare_17 ⟨kzo_0, h⟩
  · replace h := h.2 hc
    refine r_iconst G (1 : Int32) dX7_hasShare_12 kc_1 ?_
    refine r_goto G 17 dX7_hasShare_13 (by decide) ?_
    exact r_zretR G E kz_1 dX7_hasShare_17 ⟨kzo_1, h⟩
abbrev rm_X7_having : Room := { frames := 1, cells := 0, slots := 0, locals := 21 }
def wp_X7_having (σ : k_M) (Q : Int32 → Prop) : Prop :=
  (k_lp2 (fun (B_4 : Int32 → Int32 → Prop) (x1_4 : Int32) (x2_4 : Int32) => (((7 : Int32) < x2_4 → Q x1_4) ∧ (¬ (7 : Int32) < x2_4 → wp_X7_hasShare σ x2_4 (fun (r_13 : Int32) => ((r_13 = 0 → B_4 (x1_4 ||| (0 : Int32)) (x2_4 + (1 : Int32))) ∧ (¬ r_13 = 0 → B_4 (x1_4 ||| ((1 : Int32) <<< (x2_4 &&& 31))) (x2_4 + (1 : Int32)))))))) (0 : Int32) (1 : Int32))
theorem hd_X7_having : yX7_having.cls ≠ "java/lang/invoke/MethodHandle" ∧ yX7_having.cls ≠ "java/lang/invoke/VarHandle" ∧ (parseMethodDescriptor yX7_having.desc).map (fun d => d.parameters.length) = some 0 := by decide +kernel
theorem hdv_X7_having : yX7_having.cls = RX7 ∧ yX7_having.cls ≠ "java/lang/invoke/MethodHandle" ∧ yX7_having.cls ≠ "java/lang/invoke/VarHandle" ∧ (parseMethodDescriptor yX7_having.desc).map (fun d => d.parameters.length) = some 0 := ⟨rfl, hd_X7_having⟩
set_option maxHeartbeats 4000000 in
set_option maxRecDepth 100000 in
theorem c_X7_having (l : Launch) (D : va_G) (a : Nat → Nat) (cI cZ : ClassId) (σ : k_M) (Q : Int32 → Prop) (h : wp_X7_having σ  Q) : Met l yX7_having wsX7_having rm_X7_having (k_PR D [(cI, .int), (cZ, .boolean)] (wM a cI cZ) σ [.ref (a 0)]) (vp_Si Q) 0 0 (fun _ => False) := by
  refine k_metR (by decide) rfl (Nat.le_of_ble_eq_true rfl) ?_
  intro Γ G E
  unfold wp_X7_having at h
  show k_J Γ rm_X7_having 3 true (wM a cI cZ) 0 [(0, .ref (a 0))] [] σ
  refine r_iconst G (0 : Int32) dX7_having_0 kc_0 ?_
  refine r_istore_n (lv' := [(1, .int (0 : Int32)), (0, .ref (a 0))]) G dX7_having_1 rfl (by decide) rfl ?_
  refine r_iconst G (1 : Int32) dX7_having_2 kc_1 ?_
  refine r_istore_n (lv' := [(2, .int (1 : Int32)), (1, .int (0 : Int32)), (0, .ref (a 0))]) G dX7_having_3 rfl (by decide) rfl ?_
  obtain ⟨I_4, n_4, h, hI_4⟩ := h
  have key_4 : ∀ (n : Nat) (x1_4 : Int32) (x2_4 : Int32), I_4 n x1_4 x2_4 → k_J Γ rm_X7_having 3 true (wM a cI cZ) 4 [(0, .ref (a 0)), (1, .int x1_4), (2, .int x2_4)] [] σ := by
    intro n
    induction n using Nat.strongRecOn with
    | ind n ih_4 =>
      intro x1_4 x2_4 h
      replace h := hI_4 n x1_4 x2_4 h
      refine r_iload_n G dX7_having_4 2 rfl rfl ?_
      refine r_bipush G (7 : Int32) dX7_having_5 kb_7 ?_
      refine r_icmp_gt G 34 dX7_having_7 (by decide) (fun hc => ?_) (fun hc => ?_)
      · replace h := h.1 hc
        refine r_iload_n G dX7_having_34 1 rfl rfl ?_
        exact r_iretR G E dX7_having_35 h
      · replace h := h.2 hc
        refine r_iload_n G dX7_having_10 1 rfl rfl ?_
        refine r_aload_n G dX7_having_11 0 rfl rfl ?_
        refine r_iload_n G dX7_having_12 2 rfl rfl ?_
        refine r_cVR G (ci := 5) (cq := (RX7, TX7, 9)) [.int x2_4] [.int x1_4] (c_X7_hasShare (k_l Γ) (k_D Γ) a cI cZ _ _ _ h) 0 rfl wM_0 (cwV 1 G.2.2.2.2.1 gX7_having_X7_hasShare rfl rfl rfl hdv_X7_hasShare ⟨Nat.le_of_ble_eq_true rfl, Nat.le_of_ble_eq_true rfl⟩) [0, 1] rfl (fun _ hP => hP) rfl rfl (Nat.le_of_ble_eq_true rfl) dX7_having_13 (fun r_13 h => ?_)
        have hz_13 := h.1
        replace h := h.2
        refine r_if_eq G 25 dX7_having_16 (by decide) (fun hc => ?_) (fun hc => ?_)
        · replace h := h.1 hc
          refine r_iconst G (0 : Int32) dX7_having_25 kc_0 ?_
          refine r_ior G dX7_having_26 ?_
          refine r_istore_n (lv' := [(1, .int (x1_4 ||| (0 : Int32))), (0, .ref (a 0)), (2, .int x2_4)]) G dX7_having_27 rfl (by decide) rfl ?_
          refine r_iinc (lv' := [(2, .int (x2_4 + (1 : Int32))), (1, .int (x1_4 ||| (0 : Int32))), (0, .ref (a 0))]) G 2 dX7_having_28 kc_1 rfl (by decide) rfl ?_
          refine r_goto G 4 dX7_having_31 (by decide) ?_
          obtain ⟨m_4, hm_4, h⟩ := h
          exact r_sub [2, 1, 0] rfl (ih_4 m_4 hm_4 _ _ h)
        · replace h := h.2 hc
          refine r_iconst G (1 : Int32) dX7_having_19 kc_1 ?_
          refine r_iload_n G dX7_having_20 2 rfl rfl ?_
          refine r_ishl G dX7_having_21 ?_
          refine r_goto G 26 dX7_having_22 (by decide) ?_
          refine r_ior G dX7_having_26 ?_
          refine r_istore_n (lv' := [(1, .int (x1_4 ||| ((1 : Int32) <<< (x2_4 &&& 31)))), (0, .ref (a 0)), (2, .int x2_4)]) G dX7_having_27 rfl (by decide) rfl ?_
          refine r_iinc (lv' := [(2, .int (x2_4 + (1 : Int32))), (1, .int (x1_4 ||| ((1 : Int32) <<< (x2_4 &&& 31)))), (0, .ref (a 0))]) G 2 dX7_having_28 kc_1 rfl (by decide) rfl ?_
          refine r_goto G 4 dX7_having_31 (by decide) ?_
          obtain ⟨m_4, hm_4, h⟩ := h
          exact r_sub [2, 1, 0] rfl (ih_4 m_4 hm_4 _ _ h)
  exact r_sub [2, 1, 0] rfl (key_4 n_4 _ _ h)
abbrev rm_X7_forget : Room := { frames := 2, cells := 0, slots := 0, locals := 43 }
def wp_X7_forget (σ : k_M) (p1 : Int32) (Q : Int32 → k_M → Prop) : Prop :=
  (vp_in ((40 : Int32) + p1) 371 ∧ wp_X7_having (k_put σ 1 ((40 : Int32) + p1).toNatClampNeg (-6 : Int32)) (fun (r_12 : Int32) => wp_X7_bits r_12 (fun (r_15 : Int32) => Q r_15 (k_put σ 1 ((40 : Int32) + p1).toNatClampNeg (-6 : Int32)))))
theorem hd_X7_forget : yX7_forget.cls ≠ "java/lang/invoke/MethodHandle" ∧ yX7_forget.cls ≠ "java/lang/invoke/VarHandle" ∧ (parseMethodDescriptor yX7_forget.desc).map (fun d => d.parameters.length) = some 1 := by decide +kernel
theorem hdv_X7_forget : yX7_forget.cls = RX7 ∧ yX7_forget.cls ≠ "java/lang/invoke/MethodHandle" ∧ yX7_forget.cls ≠ "java/lang/invoke/VarHandle" ∧ (parseMethodDescriptor yX7_forget.desc).map (fun d => d.parameters.length) = some 1 := ⟨rfl, hd_X7_forget⟩
set_option maxHeartbeats 4000000 in
set_option maxRecDepth 100000 in
theorem c_X7_forget (l : Launch) (D : va_G) (a : Nat → Nat) (cI cZ : ClassId) (σ : k_M) (p1 : Int32) (Q : Int32 → k_M → Prop) (h : wp_X7_forget σ p1 Q) : Met l yX7_forget wsX7_forget rm_X7_forget (k_PW D [(cI, .int), (cZ, .boolean)] (wM a cI cZ) σ [.ref (a 0), .int p1]) (k_Qi D (wM a cI cZ) Q) 0 0 (k_wA (wM a cI cZ)) := by
  refine k_metW (Qc := fun D => k_Qi D (wM a cI cZ) Q) (by decide) rfl (Nat.le_of_ble_eq_true rfl) ?_
  intro Γ G hD E
  unfold wp_X7_forget at h
  have inX7 : ∀ w ∈ wsX70, w ∈ wsX7_forget := by decide +kernel
  have lk_7 := G.2.2.2.2.1 (.fieldLink RX7 7 "FreshSharesModel" "state" "[I") (by decide +kernel)
  show k_J Γ rm_X7_forget 2 false (wM a cI cZ) 0 [(0, .ref (a 0)), (1, .int p1)] [] σ
  refine r_aload_n G dX7_forget_0 0 rfl rfl ?_
  refine r_get G inX7 0 0 wM_0 rfl (by decide) lk_7 rfl rfl dX7_forget_1 ?_
  refine r_bipush G (40 : Int32) dX7_forget_4 kb_40 ?_
  refine r_iload_n G dX7_forget_6 1 rfl rfl ?_
  refine r_iadd G dX7_forget_7 ?_
  refine r_bipush G (-6 : Int32) dX7_forget_8 kb_m6 ?_
  refine r_iast G hD 1 0 wM_1 rfl h.1 _ wM_1_s dX7_forget_10 ?_
  replace h := h.2
  refine r_aload_n G dX7_forget_11 0 rfl rfl ?_
  refine r_cVR G (ci := 5) (cq := (RX7, TX7, 9)) [] [] (c_X7_having (k_l Γ) (k_D Γ) a cI cZ _ _ h) 0 rfl wM_0 (cwV 0 G.2.2.2.2.1 gX7_forget_X7_having rfl rfl rfl hdv_X7_having ⟨Nat.le_of_ble_eq_true rfl, Nat.le_of_ble_eq_true rfl⟩) [0, 1] rfl (fun _ hP => hP) rfl rfl (Nat.le_of_ble_eq_true rfl) dX7_forget_12 (fun r_12 h => ?_)
  refine r_cSR G [.int r_12] [] (c_X7_bits (k_l Γ) (k_D Γ) _ _ h) (va_cwS 1 G.2.2.2.2.1 gX7_forget_X7_bits rfl rfl rfl hd_X7_bits ⟨Nat.le_of_ble_eq_true rfl, Nat.le_of_ble_eq_true rfl⟩) [] rfl (fun _ _ => k_E0) rfl rfl (Nat.le_of_ble_eq_true rfl) dX7_forget_15 (fun r_15 h => ?_)
  exact r_iretW G E dX7_forget_18 h
abbrev rm_X7_bentOf : Room := { frames := 1, cells := 0, slots := 0, locals := 21 }
def wp_X7_bentOf (σ : k_M) (p1 p2 : Int32) (Q : Int32 → Prop) : Prop :=
  wp_X7_bentAt p1 p2 (fun (r_6 : Int32) => (vp_in r_6 371 ∧ Q ((σ 1) r_6.toNatClampNeg)))
theorem hd_X7_bentOf : yX7_bentOf.cls ≠ "java/lang/invoke/MethodHandle" ∧ yX7_bentOf.cls ≠ "java/lang/invoke/VarHandle" ∧ (parseMethodDescriptor yX7_bentOf.desc).map (fun d => d.parameters.length) = some 2 := by decide +kernel
theorem hdv_X7_bentOf : yX7_bentOf.cls = RX7 ∧ yX7_bentOf.cls ≠ "java/lang/invoke/MethodHandle" ∧ yX7_bentOf.cls ≠ "java/lang/invoke/VarHandle" ∧ (parseMethodDescriptor yX7_bentOf.desc).map (fun d => d.parameters.length) = some 2 := ⟨rfl, hd_X7_bentOf⟩
set_option maxHeartbeats 4000000 in
set_option maxRecDepth 100000 in
theorem c_X7_bentOf (l : Launch) (D : va_G) (a : Nat → Nat) (cI cZ : ClassId) (σ : k_M) (p1 p2 : Int32) (Q : Int32 → Prop) (h : wp_X7_bentOf σ p1 p2 Q) : Met l yX7_bentOf wsX7_bentOf rm_X7_bentOf (k_PR D [(cI, .int), (cZ, .boolean)] (wM a cI cZ) σ [.ref (a 0), .int p1, .int p2]) (vp_Si Q) 0 0 (fun _ => False) := by
  refine k_metR (by decide) rfl (Nat.le_of_ble_eq_true rfl) ?_
  intro Γ G E
  unfold wp_X7_bentOf at h
  have inX7 : ∀ w ∈ wsX70, w ∈ wsX7_bentOf := by decide +kernel
  have lk_7 := G.2.2.2.2.1 (.fieldLink RX7 7 "FreshSharesModel" "state" "[I") (by decide +kernel)
  show k_J Γ rm_X7_bentOf 3 true (wM a cI cZ) 0 [(0, .ref (a 0)), (1, .int p1), (2, .int p2)] [] σ
  refine r_aload_n G dX7_bentOf_0 0 rfl rfl ?_
  refine r_get G inX7 0 0 wM_0 rfl (by decide) lk_7 rfl rfl dX7_bentOf_1 ?_
  refine r_iload_n G dX7_bentOf_4 1 rfl rfl ?_
  refine r_iload_n G dX7_bentOf_5 2 rfl rfl ?_
  refine r_cSR G [.int p1, .int p2] [.ref (a 1)] (c_X7_bentAt (k_l Γ) (k_D Γ) _ _ _ h) (va_cwS 2 G.2.2.2.2.1 gX7_bentOf_X7_bentAt rfl rfl rfl hd_X7_bentAt ⟨Nat.le_of_ble_eq_true rfl, Nat.le_of_ble_eq_true rfl⟩) [] rfl (fun _ _ => k_E0) rfl rfl (Nat.le_of_ble_eq_true rfl) dX7_bentOf_6 (fun r_6 h => ?_)
  refine r_iald G 1 0 wM_1 rfl h.1 dX7_bentOf_9 ?_
  replace h := h.2
  exact r_iretR G E dX7_bentOf_10 h
abbrev rm_X7_told : Room := { frames := 2, cells := 0, slots := 0, locals := 43 }
def wp_X7_told (σ : k_M) (p1 : Int32) (Q : Int32 → Prop) : Prop :=
  (vp_in ((40 : Int32) + p1) 371 ∧ wp_X7_bentOf σ p1 (0 : Int32) (fun (r_12 : Int32) => wp_X7_mod (((σ 1) ((40 : Int32) + p1).toNatClampNeg) + r_12) (fun (r_16 : Int32) => Q r_16)))
theorem hd_X7_told : yX7_told.cls ≠ "java/lang/invoke/MethodHandle" ∧ yX7_told.cls ≠ "java/lang/invoke/VarHandle" ∧ (parseMethodDescriptor yX7_told.desc).map (fun d => d.parameters.length) = some 1 := by decide +kernel
theorem hdv_X7_told : yX7_told.cls = RX7 ∧ yX7_told.cls ≠ "java/lang/invoke/MethodHandle" ∧ yX7_told.cls ≠ "java/lang/invoke/VarHandle" ∧ (parseMethodDescriptor yX7_told.desc).map (fun d => d.parameters.length) = some 1 := ⟨rfl, hd_X7_told⟩
set_option maxHeartbeats 4000000 in
set_option maxRecDepth 100000 in
theorem c_X7_told (l : Launch) (D : va_G) (a : Nat → Nat) (cI cZ : ClassId) (σ : k_M) (p1 : Int32) (Q : Int32 → Prop) (h : wp_X7_told σ p1 Q) : Met l yX7_told wsX7_told rm_X7_told (k_PR D [(cI, .int), (cZ, .boolean)] (wM a cI cZ) σ [.ref (a 0), .int p1]) (vp_Si Q) 0 0 (fun _ => False) := by
  refine k_metR (by decide) rfl (Nat.le_of_ble_eq_true rfl) ?_
  intro Γ G E
  unfold wp_X7_told at h
  have inX7 : ∀ w ∈ wsX70, w ∈ wsX7_told := by decide +kernel
  have lk_7 := G.2.2.2.2.1 (.fieldLink RX7 7 "FreshSharesModel" "state" "[I") (by decide +kernel)
  show k_J Γ rm_X7_told 2 true (wM a cI cZ) 0 [(0, .ref (a 0)), (1, .int p1)] [] σ
  refine r_aload_n G dX7_told_0 0 rfl rfl ?_
  refine r_get G inX7 0 0 wM_0 rfl (by decide) lk_7 rfl rfl dX7_told_1 ?_
  refine r_bipush G (40 : Int32) dX7_told_4 kb_40 ?_
  refine r_iload_n G dX7_told_6 1 rfl rfl ?_
  refine r_iadd G dX7_told_7 ?_
  refine r_iald G 1 0 wM_1 rfl h.1 dX7_told_8 ?_
  replace h := h.2
  refine r_aload_n G dX7_told_9 0 rfl rfl ?_
  refine r_iload_n G dX7_told_10 1 rfl rfl ?_
  refine r_iconst G (0 : Int32) dX7_told_11 kc_0 ?_
  refine r_cVR G (ci := 5) (cq := (RX7, TX7, 9)) [.int p1, .int (0 : Int32)] [.int ((σ 1) ((40 : Int32) + p1).toNatClampNeg)] (c_X7_bentOf (k_l Γ) (k_D Γ) a cI cZ _ _ _ _ h) 0 rfl wM_0 (cwV 2 G.2.2.2.2.1 gX7_told_X7_bentOf rfl rfl rfl hdv_X7_bentOf ⟨Nat.le_of_ble_eq_true rfl, Nat.le_of_ble_eq_true rfl⟩) [0, 1] rfl (fun _ hP => hP) rfl rfl (Nat.le_of_ble_eq_true rfl) dX7_told_12 (fun r_12 h => ?_)
  refine r_iadd G dX7_told_15 ?_
  refine r_cSR G [.int (((σ 1) ((40 : Int32) + p1).toNatClampNeg) + r_12)] [] (c_X7_mod (k_l Γ) (k_D Γ) _ _ h) (va_cwS 1 G.2.2.2.2.1 gX7_told_X7_mod rfl rfl rfl hd_X7_mod ⟨Nat.le_of_ble_eq_true rfl, Nat.le_of_ble_eq_true rfl⟩) [] rfl (fun _ _ => k_E0) rfl rfl (Nat.le_of_ble_eq_true rfl) dX7_told_16 (fun r_16 h => ?_)
  exact r_iretR G E dX7_told_19 h
abbrev rm_X7_isFit : Room := { frames := 2, cells := 0, slots := 0, locals := 44 }
def wp_X7_isFit (σ : k_M) (p1 p2 : Int32) (Q : Int32 → Prop) : Prop :=
  (k_lp2 (fun (B_5 : Int32 → Int32 → Prop) (x3_5 : Int32) (x4_5 : Int32) => ((((σ 1) (88 : Int32).toNatClampNeg) ≤ x4_5 → wp_X7_sealOf p1 (fun (r_54 : Int32) => ((x3_5 = r_54 → Q (1 : Int32)) ∧ (¬ x3_5 = r_54 → Q (0 : Int32))))) ∧ (¬ ((σ 1) (88 : Int32).toNatClampNeg) ≤ x4_5 → (vp_in ((90 : Int32) + x4_5) 371 ∧ wp_X7_power p2 x4_5 (23 : Int32) (fun (r_33 : Int32) => wp_X7_power ((σ 1) ((90 : Int32) + x4_5).toNatClampNeg) r_33 (47 : Int32) (fun (r_38 : Int32) => B_5 (k_rem (x3_5 * r_38) (47 : Int32)) (x4_5 + (1 : Int32)))))))) (1 : Int32) (0 : Int32))
theorem hd_X7_isFit : yX7_isFit.cls ≠ "java/lang/invoke/MethodHandle" ∧ yX7_isFit.cls ≠ "java/lang/invoke/VarHandle" ∧ (parseMethodDescriptor yX7_isFit.desc).map (fun d => d.parameters.length) = some 2 := by decide +kernel
theorem hdv_X7_isFit : yX7_isFit.cls = RX7 ∧ yX7_isFit.cls ≠ "java/lang/invoke/MethodHandle" ∧ yX7_isFit.cls ≠ "java/lang/invoke/VarHandle" ∧ (parseMethodDescriptor yX7_isFit.desc).map (fun d => d.parameters.length) = some 2 := ⟨rfl, hd_X7_isFit⟩
set_option maxHeartbeats 4000000 in
set_option maxRecDepth 100000 in
theorem c_X7_isFit (l : Launch) (D : va_G) (a : Nat → Nat) (cI cZ : ClassId) (σ : k_M) (p1 p2 : Int32) (Q : Int32 → Prop) (h : wp_X7_isFit σ p1 p2 Q) : Met l yX7_isFit wsX7_isFit rm_X7_isFit (k_PR D [(cI, .int), (cZ, .boolean)] (wM a cI cZ) σ [.ref (a 0), .int p1, .int p2]) (vp_Si (fun r => (r = 0 ∨ r = 1) ∧ Q r)) 0 0 (fun _ => False) := by
  refine k_metR (by decide) rfl (Nat.le_of_ble_eq_true rfl) ?_
  intro Γ G E
  unfold wp_X7_isFit at h
  have inX7 : ∀ w ∈ wsX70, w ∈ wsX7_isFit := by decide +kernel
  have lk_7 := G.2.2.2.2.1 (.fieldLink RX7 7 "FreshSharesModel" "state" "[I") (by decide +kernel)
  show k_J Γ rm_X7_isFit 5 true (wM a cI cZ) 0 [(0, .ref (a 0)), (1, .int p1), (2, .int p2)] [] σ
  refine r_iconst G (1 : Int32) dX7_isFit_0 kc_1 ?_
  refine r_istore_n (lv' := [(3, .int (1 : Int32)), (0, .ref (a 0)), (1, .int p1), (2, .int p2)]) G dX7_isFit_1 rfl (by decide) rfl ?_
  refine r_iconst G (0 : Int32) dX7_isFit_2 kc_0 ?_
  refine r_istore (lv' := [(4, .int (0 : Int32)), (3, .int (1 : Int32)), (0, .ref (a 0)), (1, .int p1), (2, .int p2)]) G dX7_isFit_3 (by decide) rfl ?_
  obtain ⟨I_5, n_5, h, hI_5⟩ := h
  have key_5 : ∀ (n : Nat) (x3_5 : Int32) (x4_5 : Int32), I_5 n x3_5 x4_5 → k_J Γ rm_X7_isFit 5 true (wM a cI cZ) 5 [(0, .ref (a 0)), (1, .int p1), (2, .int p2), (3, .int x3_5), (4, .int x4_5)] [] σ := by
    intro n
    induction n using Nat.strongRecOn with
    | ind n ih_5 =>
      intro x3_5 x4_5 h
      replace h := hI_5 n x3_5 x4_5 h
      refine r_iload G dX7_isFit_5 4 rfl ?_
      refine r_aload_n G dX7_isFit_7 0 rfl rfl ?_
      refine r_get G inX7 0 0 wM_0 rfl (by decide) lk_7 rfl rfl dX7_isFit_8 ?_
      refine r_bipush G (88 : Int32) dX7_isFit_11 kb_88 ?_
      refine r_iald G 1 0 wM_1 rfl (by unfold vp_in; decide) dX7_isFit_13 ?_
      refine r_icmp_ge G 52 dX7_isFit_14 (by decide) (fun hc => ?_) (fun hc => ?_)
      · replace h := h.1 hc
        refine r_iload_n G dX7_isFit_52 3 rfl rfl ?_
        refine r_iload_n G dX7_isFit_53 1 rfl rfl ?_
        refine r_cSR G [.int p1] [.int x3_5] (c_X7_sealOf (k_l Γ) (k_D Γ) _ _ h) (va_cwS 1 G.2.2.2.2.1 gX7_isFit_X7_sealOf rfl rfl rfl hd_X7_sealOf ⟨Nat.le_of_ble_eq_true rfl, Nat.le_of_ble_eq_true rfl⟩) [] rfl (fun _ _ => k_E0) rfl rfl (Nat.le_of_ble_eq_true rfl) dX7_isFit_54 (fun r_54 h => ?_)
        refine r_icmp_ne G 64 dX7_isFit_57 (by decide) (fun hc => ?_) (fun hc => ?_)
        · replace h := h.2 hc
          refine r_iconst G (0 : Int32) dX7_isFit_64 kc_0 ?_
          exact r_zretR G E kz_0 dX7_isFit_65 ⟨kzo_0, h⟩
        · replace h := h.1 hc
          refine r_iconst G (1 : Int32) dX7_isFit_60 kc_1 ?_
          refine r_goto G 65 dX7_isFit_61 (by decide) ?_
          exact r_zretR G E kz_1 dX7_isFit_65 ⟨kzo_1, h⟩
      · replace h := h.2 hc
        refine r_iload_n G dX7_isFit_17 3 rfl rfl ?_
        refine r_aload_n G dX7_isFit_18 0 rfl rfl ?_
        refine r_get G inX7 0 0 wM_0 rfl (by decide) lk_7 rfl rfl dX7_isFit_19 ?_
        refine r_bipush G (90 : Int32) dX7_isFit_22 kb_90 ?_
        refine r_iload G dX7_isFit_24 4 rfl ?_
        refine r_iadd G dX7_isFit_26 ?_
        refine r_iald G 1 0 wM_1 rfl h.1 dX7_isFit_27 ?_
        replace h := h.2
        refine r_iload_n G dX7_isFit_28 2 rfl rfl ?_
        refine r_iload G dX7_isFit_29 4 rfl ?_
        refine r_bipush G (23 : Int32) dX7_isFit_31 kb_23 ?_
        refine r_cSR G [.int p2, .int x4_5, .int (23 : Int32)] [.int ((σ 1) ((90 : Int32) + x4_5).toNatClampNeg), .int x3_5] (c_X7_power (k_l Γ) (k_D Γ) _ _ _ _ h) (va_cwS 3 G.2.2.2.2.1 gX7_isFit_X7_power rfl rfl rfl hd_X7_power ⟨Nat.le_of_ble_eq_true rfl, Nat.le_of_ble_eq_true rfl⟩) [] rfl (fun _ _ => k_E0) rfl rfl (Nat.le_of_ble_eq_true rfl) dX7_isFit_33 (fun r_33 h => ?_)
        refine r_bipush G (47 : Int32) dX7_isFit_36 kb_47 ?_
        refine r_cSR G [.int ((σ 1) ((90 : Int32) + x4_5).toNatClampNeg), .int r_33, .int (47 : Int32)] [.int x3_5] (c_X7_power (k_l Γ) (k_D Γ) _ _ _ _ h) (va_cwS 3 G.2.2.2.2.1 gX7_isFit_X7_power rfl rfl rfl hd_X7_power ⟨Nat.le_of_ble_eq_true rfl, Nat.le_of_ble_eq_true rfl⟩) [] rfl (fun _ _ => k_E0) rfl rfl (Nat.le_of_ble_eq_true rfl) dX7_isFit_38 (fun r_38 h => ?_)
        refine r_imul G dX7_isFit_41 ?_
        refine r_bipush G (47 : Int32) dX7_isFit_42 kb_47 ?_
        refine r_irem G kne_47 dX7_isFit_44 ?_
        refine r_istore_n (lv' := [(3, .int (k_rem (x3_5 * r_38) (47 : Int32))), (0, .ref (a 0)), (1, .int p1), (2, .int p2), (4, .int x4_5)]) G dX7_isFit_45 rfl (by decide) rfl ?_
        refine r_iinc (lv' := [(4, .int (x4_5 + (1 : Int32))), (3, .int (k_rem (x3_5 * r_38) (47 : Int32))), (0, .ref (a 0)), (1, .int p1), (2, .int p2)]) G 4 dX7_isFit_46 kc_1 rfl (by decide) rfl ?_
        refine r_goto G 5 dX7_isFit_49 (by decide) ?_
        obtain ⟨m_5, hm_5, h⟩ := h
        exact r_sub [2, 3, 4, 1, 0] rfl (ih_5 m_5 hm_5 _ _ h)
  exact r_sub [2, 3, 4, 1, 0] rfl (key_5 n_5 _ _ h)
abbrev rm_X7_honest : Room := { frames := 3, cells := 0, slots := 0, locals := 68 }
def wp_X7_honest (σ : k_M) (p1 : Int32) (Q : Int32 → k_M → Prop) : Prop :=
  (k_lp3 (fun (B_4 : Int32 → Int32 → k_M → Prop) (x2_4 : Int32) (x3_4 : Int32) (σ_4 : k_M) => (((σ_4 0 2) ≤ x3_4 → Q x2_4 σ_4) ∧ (¬ (σ_4 0 2) ≤ x3_4 → wp_X7_figure σ_4 x3_4 (fun (r_14 : Int32) => wp_X7_hasShare σ_4 r_14 (fun (r_22 : Int32) => ((r_22 = 0 → B_4 x2_4 (x3_4 + (1 : Int32)) σ_4) ∧ (¬ r_22 = 0 → wp_X7_told σ_4 r_14 (fun (r_32 : Int32) => wp_X7_isFit σ_4 r_32 r_14 (fun (r_37 : Int32) => (∃ K_56 : Int32 → Prop, (∀ (y0_56 : Int32), K_56 y0_56 → ((r_37 = 0 → B_4 (x2_4 ||| y0_56) (x3_4 + (1 : Int32)) (k_put σ_4 1 (369 : Int32).toNatClampNeg (((σ_4 1) (369 : Int32).toNatClampNeg) ||| ((1 : Int32) <<< (r_14 &&& 31))))) ∧ (¬ r_37 = 0 → B_4 (x2_4 ||| y0_56) (x3_4 + (1 : Int32)) (k_put σ_4 1 (369 : Int32).toNatClampNeg (((σ_4 1) (369 : Int32).toNatClampNeg) ||| (0 : Int32)))))) ∧ ((r_37 = 0 → K_56 (0 : Int32)) ∧ (¬ r_37 = 0 → K_56 ((1 : Int32) <<< (r_14 &&& 31)))))))))))))) (0 : Int32) p1 σ)
theorem hd_X7_honest : yX7_honest.cls ≠ "java/lang/invoke/MethodHandle" ∧ yX7_honest.cls ≠ "java/lang/invoke/VarHandle" ∧ (parseMethodDescriptor yX7_honest.desc).map (fun d => d.parameters.length) = some 1 := by decide +kernel
theorem hdv_X7_honest : yX7_honest.cls = RX7 ∧ yX7_honest.cls ≠ "java/lang/invoke/MethodHandle" ∧ yX7_honest.cls ≠ "java/lang/invoke/VarHandle" ∧ (parseMethodDescriptor yX7_honest.desc).map (fun d => d.parameters.length) = some 1 := ⟨rfl, hd_X7_honest⟩
set_option maxHeartbeats 4000000 in
set_option maxRecDepth 100000 in
theorem c_X7_honest (l : Launch) (D : va_G) (a : Nat → Nat) (cI cZ : ClassId) (σ : k_M) (p1 : Int32) (Q : Int32 → k_M → Prop) (h : wp_X7_honest σ p1 Q) : Met l yX7_honest wsX7_honest rm_X7_honest (k_PW D [(cI, .int), (cZ, .boolean)] (wM a cI cZ) σ [.ref (a 0), .int p1]) (k_Qi D (wM a cI cZ) Q) 0 0 (k_wA (wM a cI cZ)) := by
  refine k_metW (Qc := fun D => k_Qi D (wM a cI cZ) Q) (by decide) rfl (Nat.le_of_ble_eq_true rfl) ?_
  intro Γ G hD E
  unfold wp_X7_honest at h
  have inX7 : ∀ w ∈ wsX70, w ∈ wsX7_honest := by decide +kernel
  have lk_7 := G.2.2.2.2.1 (.fieldLink RX7 7 "FreshSharesModel" "state" "[I") (by decide +kernel)
  have lk_71 := G.2.2.2.2.1 (.fieldLink RX7 71 "FreshSharesModel" "signs" "I") (by decide +kernel)
  show k_J Γ rm_X7_honest 6 false (wM a cI cZ) 0 [(0, .ref (a 0)), (1, .int p1)] [] σ
  refine r_iconst G (0 : Int32) dX7_honest_0 kc_0 ?_
  refine r_istore_n (lv' := [(2, .int (0 : Int32)), (0, .ref (a 0)), (1, .int p1)]) G dX7_honest_1 rfl (by decide) rfl ?_
  refine r_iload_n G dX7_honest_2 2 rfl rfl ?_
  refine r_istore_n (lv' := [(3, .int p1), (2, .int (0 : Int32)), (0, .ref (a 0)), (1, .int p1)]) G dX7_honest_3 rfl (by decide) rfl ?_
  obtain ⟨I_4, n_4, h, hI_4⟩ := h
  have key_4 : ∀ (n : Nat) (x2_4 : Int32) (x3_4 : Int32) (σ_4 : k_M), I_4 n x2_4 x3_4 σ_4 → k_J Γ rm_X7_honest 6 false (wM a cI cZ) 4 [(0, .ref (a 0)), (2, .int x2_4), (3, .int x3_4)] [] σ_4 := by
    intro n
    induction n using Nat.strongRecOn with
    | ind n ih_4 =>
      intro x2_4 x3_4 σ_4 h
      replace h := hI_4 n x2_4 x3_4 σ_4 h
      refine r_iload_n G dX7_honest_4 2 rfl rfl ?_
      refine r_aload_n G dX7_honest_5 0 rfl rfl ?_
      refine r_get G inX7 0 2 wM_0 rfl (by decide) lk_71 rfl rfl dX7_honest_6 ?_
      refine r_icmp_ge G 88 dX7_honest_9 (by decide) (fun hc => ?_) (fun hc => ?_)
      · replace h := h.1 hc
        refine r_iload_n G dX7_honest_88 1 rfl rfl ?_
        exact r_iretW G E dX7_honest_89 h
      · replace h := h.2 hc
        refine r_aload_n G dX7_honest_12 0 rfl rfl ?_
        refine r_iload_n G dX7_honest_13 2 rfl rfl ?_
        refine r_cVR G (ci := 5) (cq := (RX7, TX7, 9)) [.int x3_4] [] (c_X7_figure (k_l Γ) (k_D Γ) a cI cZ _ _ _ h) 0 rfl wM_0 (cwV 1 G.2.2.2.2.1 gX7_honest_X7_figure rfl rfl rfl hdv_X7_figure ⟨Nat.le_of_ble_eq_true rfl, Nat.le_of_ble_eq_true rfl⟩) [0, 1] rfl (fun _ hP => hP) rfl rfl (Nat.le_of_ble_eq_true rfl) dX7_honest_14 (fun r_14 h => ?_)
        refine r_istore (lv' := [(4, .int r_14), (0, .ref (a 0)), (2, .int x2_4), (3, .int x3_4)]) G dX7_honest_17 (by decide) rfl ?_
        refine r_aload_n G dX7_honest_19 1 rfl rfl ?_
        refine r_iload G dX7_honest_20 0 rfl ?_
        refine r_cVR G (ci := 5) (cq := (RX7, TX7, 9)) [.int r_14] [] (c_X7_hasShare (k_l Γ) (k_D Γ) a cI cZ _ _ _ h) 0 rfl wM_0 (cwV 1 G.2.2.2.2.1 gX7_honest_X7_hasShare rfl rfl rfl hdv_X7_hasShare ⟨Nat.le_of_ble_eq_true rfl, Nat.le_of_ble_eq_true rfl⟩) [0, 1] rfl (fun _ hP => hP) rfl rfl (Nat.le_of_ble_eq_true rfl) dX7_honest_22 (fun r_22 h => ?_)
        have hz_22 := h.1
        replace h := h.2
        refine r_if_eq G 82 dX7_honest_25 (by decide) (fun hc => ?_) (fun hc => ?_)
        · replace h := h.1 hc
          refine r_iinc (lv' := [(3, .int (x3_4 + (1 : Int32))), (4, .int r_14), (0, .ref (a 0)), (2, .int x2_4)]) G 3 dX7_honest_82 kc_1 rfl (by decide) rfl ?_
          refine r_goto G 4 dX7_honest_85 (by decide) ?_
          obtain ⟨m_4, hm_4, h⟩ := h
          exact r_sub [2, 3, 0] rfl (ih_4 m_4 hm_4 _ _ _ h)
        · replace h := h.2 hc
          refine r_aload_n G dX7_honest_28 1 rfl rfl ?_
          refine r_aload_n G dX7_honest_29 1 rfl rfl ?_
          refine r_iload G dX7_honest_30 0 rfl ?_
          refine r_cVR G (ci := 5) (cq := (RX7, TX7, 9)) [.int r_14] [.ref (a 0)] (c_X7_told (k_l Γ) (k_D Γ) a cI cZ _ _ _ h) 0 rfl wM_0 (cwV 1 G.2.2.2.2.1 gX7_honest_X7_told rfl rfl rfl hdv_X7_told ⟨Nat.le_of_ble_eq_true rfl, Nat.le_of_ble_eq_true rfl⟩) [0, 1] rfl (fun _ hP => hP) rfl rfl (Nat.le_of_ble_eq_true rfl) dX7_honest_32 (fun r_32 h => ?_)
          refine r_iload G dX7_honest_35 0 rfl ?_
          refine r_cVR G (ci := 5) (cq := (RX7, TX7, 9)) [.int r_32, .int r_14] [] (c_X7_isFit (k_l Γ) (k_D Γ) a cI cZ _ _ _ _ h) 0 rfl wM_0 (cwV 2 G.2.2.2.2.1 gX7_honest_X7_isFit rfl rfl rfl hdv_X7_isFit ⟨Nat.le_of_ble_eq_true rfl, Nat.le_of_ble_eq_true rfl⟩) [0, 1] rfl (fun _ hP => hP) rfl rfl (Nat.le_of_ble_eq_true rfl) dX7_honest_37 (fun r_37 h => ?_)
          have hz_37 := h.1
          replace h := h.2
          refine r_istore (lv' := [(5, .int r_37), (4, .int r_14), (0, .ref (a 0)), (2, .int x2_4), (3, .int x3_4)]) G dX7_honest_40 (by decide) rfl ?_
          refine r_iload_n G dX7_honest_42 3 rfl rfl ?_
          refine r_iload G dX7_honest_43 0 rfl ?_
          obtain ⟨K_56, hK_56, h⟩ := h
          have kj_56 : ∀ (y0_56 : Int32), K_56 y0_56 → k_J Γ rm_X7_honest 6 false (wM a cI cZ) 56 [(0, .ref (a 0)), (3, .int x3_4), (4, .int r_14), (5, .int r_37)] [.int y0_56, .int x2_4] σ_4 := by
            intro y0_56 h
            replace h := hK_56 y0_56 h
            refine r_ior G dX7_honest_56 ?_
            refine r_istore_n (lv' := [(2, .int (x2_4 ||| y0_56)), (0, .ref (a 0)), (3, .int x3_4), (4, .int r_14), (5, .int r_37)]) G dX7_honest_57 rfl (by decide) rfl ?_
            refine r_aload_n G dX7_honest_58 1 rfl rfl ?_
            refine r_get G inX7 0 0 wM_0 rfl (by decide) lk_7 rfl rfl dX7_honest_59 ?_
            refine r_sipush G (369 : Int32) dX7_honest_62 ks_369 ?_
            refine r_dup2 G rfl rfl dX7_honest_65 ?_
            refine r_iald G 1 0 wM_1 rfl (by unfold vp_in; decide) dX7_honest_66 ?_
            refine r_iload G dX7_honest_67 4 rfl ?_
            refine r_if_eq G 76 dX7_honest_69 (by decide) (fun hc => ?_) (fun hc => ?_)
            · replace h := h.1 hc
              refine r_iconst G (1 : Int32) dX7_honest_76 kc_1 ?_
              refine r_iload G dX7_honest_77 3 rfl ?_
              refine r_ishl G dX7_honest_79 ?_
              refine r_ior G dX7_honest_80 ?_
              refine r_iast G hD 1 0 wM_1 rfl (by unfold vp_in; decide) _ wM_1_s dX7_honest_81 ?_
              refine r_iinc (lv' := [(3, .int (x3_4 + (1 : Int32))), (2, .int (x2_4 ||| y0_56)), (0, .ref (a 0)), (4, .int r_14), (5, .int r_37)]) G 2 dX7_honest_82 kc_1 rfl (by decide) rfl ?_
              refine r_goto G 4 dX7_honest_85 (by decide) ?_
              obtain ⟨m_4, hm_4, h⟩ := h
              exact r_sub [2, 1, 0] rfl (ih_4 m_4 hm_4 _ _ _ h)
            · replace h := h.2 hc
              refine r_iconst G (0 : Int32) dX7_honest_72 kc_0 ?_
              refine r_goto G 80 dX7_honest_73 (by decide) ?_
              refine r_ior G dX7_honest_80 ?_
              refine r_iast G hD 1 0 wM_1 rfl (by unfold vp_in; decide) _ wM_1_s dX7_honest_81 ?_
              refine r_iinc (lv' := [(3, .int (x3_4 + (1 : Int32))), (2, .int (x2_4 ||| y0_56)), (0, .ref (a 0)), (4, .int r_14), (5, .int r_37)]) G 2 dX7_honest_82 kc_1 rfl (by decide) rfl ?_
              refine r_goto G 4 dX7_honest_85 (by decide) ?_
              obtain ⟨m_4, hm_4, h⟩ := h
              exact r_sub [2, 1, 0] rfl (ih_4 m_4 hm_4 _ _ _ h)
          refine r_if_eq G 55 dX7_honest_45 (by decide) (fun hc => ?_) (fun hc => ?_)
          · replace h := h.1 hc
            refine r_iconst G (0 : Int32) dX7_honest_55 kc_0 ?_
            exact r_sub [2, 4, 1, 0] rfl (kj_56 _ h)
          · replace h := h.2 hc
            refine r_iconst G (1 : Int32) dX7_honest_48 kc_1 ?_
            refine r_iload G dX7_honest_49 1 rfl ?_
            refine r_ishl G dX7_honest_51 ?_
            refine r_goto G 56 dX7_honest_52 (by decide) ?_
            exact r_sub [2, 4, 1, 0] rfl (kj_56 _ h)
  exact r_sub [2, 1, 0] rfl (key_4 n_4 _ _ _ h)
