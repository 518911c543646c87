abbrev rm_X7_inverse : Room := { frames := 1, cells := 0, slots := 0, locals := 24 }
def wp_X7_inverse (p0 : Int32) (Q : Int32 → Prop) : Prop :=
  wp_X7_mod p0 (fun (r_1 : Int32) => wp_X7_power r_1 (21 : Int32) (23 : Int32) (fun (r_8 : Int32) => Q r_8))
theorem hd_X7_inverse : yX7_inverse.cls ≠ "java/lang/invoke/MethodHandle" ∧ yX7_inverse.cls ≠ "java/lang/invoke/VarHandle" ∧ (parseMethodDescriptor yX7_inverse.desc).map (fun d => d.parameters.length) = some 1 := by decide +kernel
theorem hdv_X7_inverse : yX7_inverse.cls = RX7 ∧ yX7_inverse.cls ≠ "java/lang/invoke/MethodHandle" ∧ yX7_inverse.cls ≠ "java/lang/invoke/VarHandle" ∧ (parseMethodDescriptor yX7_inverse.desc).map (fun d => d.parameters.length) = some 1 := ⟨rfl, hd_X7_inverse⟩
set_option maxHeartbeats 4000000 in
set_option maxRecDepth 100000 in
theorem c_X7_inverse (l : Launch) (D : va_G)  (p0 : Int32) (Q : Int32 → Prop) (h : wp_X7_inverse p0 Q) : Met l yX7_inverse wsX7_inverse rm_X7_inverse (k_PR D [] wE k_0 [.int p0]) (vp_Si Q) 0 0 (fun _ => False) := by
  refine k_metR (by decide) rfl (Nat.le_of_ble_eq_true rfl) ?_
  intro Γ G E
  unfold wp_X7_inverse at h
  show k_J Γ rm_X7_inverse 1 true wE 0 [(0, .int p0)] [] k_0
  refine r_iload_n G dX7_inverse_0 0 rfl rfl ?_
  refine r_cSR G [.int p0] [] (c_X7_mod (k_l Γ) (k_D Γ) _ _ h) (va_cwS 1 G.2.2.2.2.1 gX7_inverse_X7_mod rfl rfl rfl hd_X7_mod ⟨Nat.le_of_ble_eq_true rfl, Nat.le_of_ble_eq_true rfl⟩) [] rfl (fun _ _ => k_E0) rfl rfl (Nat.le_of_ble_eq_true rfl) dX7_inverse_1 (fun r_1 h => ?_)
  refine r_bipush G (21 : Int32) dX7_inverse_4 kb_21 ?_
  refine r_bipush G (23 : Int32) dX7_inverse_6 kb_23 ?_
  refine r_cSR G [.int r_1, .int (21 : Int32), .int (23 : Int32)] [] (c_X7_power (k_l Γ) (k_D Γ) _ _ _ _ h) (va_cwS 3 G.2.2.2.2.1 gX7_inverse_X7_power rfl rfl rfl hd_X7_power ⟨Nat.le_of_ble_eq_true rfl, Nat.le_of_ble_eq_true rfl⟩) [] rfl (fun _ _ => k_E0) rfl rfl (Nat.le_of_ble_eq_true rfl) dX7_inverse_8 (fun r_8 h => ?_)
  exact r_iretR G E dX7_inverse_11 h
abbrev rm_X7_weight : Room := { frames := 2, cells := 0, slots := 0, locals := 44 }
def wp_X7_weight (p0 p1 p2 : Int32) (Q : Int32 → Prop) : Prop :=
  (k_lp2 (fun (B_5 : Int32 → Int32 → Prop) (x3_5 : Int32) (x4_5 : Int32) => B_5 x3_5 x4_5) (1 : Int32) (1 : Int32))
theorem hd_X7_weight : yX7_weight.cls ≠ "java/lang/invoke/MethodHandle" ∧ yX7_weight.cls ≠ "java/lang/invoke/VarHandle" ∧ (parseMethodDescriptor yX7_weight.desc).map (fun d => d.parameters.length) = some 3 := by decide +kernel
theorem hdv_X7_weight : yX7_weight.cls = RX7 ∧ yX7_weight.cls ≠ "java/lang/invoke/MethodHandle" ∧ yX7_weight.cls ≠ "java/lang/invoke/VarHandle" ∧ (parseMethodDescriptor yX7_weight.desc).map (fun d => d.parameters.length) = some 3 := ⟨rfl, hd_X7_weight⟩
set_option maxHeartbeats 4000000 in
set_option maxRecDepth 100000 in
theorem c_X7_weight (l : Launch) (D : va_G)  (p0 p1 p2 : Int32) (Q : Int32 → Prop) (h : wp_X7_weight p0 p1 p2 Q) : Met l yX7_weight wsX7_weight rm_X7_weight (k_PR D [] wE k_0 [.int p0, .int p1, .int p2]) (vp_Si Q) 0 0 (fun _ => False) := by
  refine k_metR (by decide) rfl (Nat.le_of_ble_eq_true rfl) ?_
  intro Γ G E
  unfold wp_X7_weight at h
  show k_J Γ rm_X7_weight 5 true wE 0 [(0, .int p0), (1, .int p1), (2, .int p2)] [] k_0
  refine r_iconst G (1 : Int32) dX7_weight_0 kc_1 ?_
  refine r_istore_n (lv' := [(3, .int (1 : Int32)), (0, .int p0), (1, .int p1), (2, .int p2)]) G dX7_weight_1 rfl (by decide) rfl ?_
  refine r_iconst G (1 : Int32) dX7_weight_2 kc_1 ?_
  refine r_istore (lv' := [(4, .int (1 : Int32)), (3, .int (1 : Int32)), (0, .int p0), (1, .int p1), (2, .int p2)]) G dX7_weight_3 (by decide) rfl ?_
  obtain ⟨I_5, n_5, h, hI_5⟩ := h
  have key_5 : ∀ (n : Nat) (x3_5 : Int32) (x4_5 : Int32), I_5 n x3_5 x4_5 → k_J Γ rm_X7_weight 5 true wE 5 [(0, .int p0), (1, .int p1), (2, .int p2), (3, .int x3_5), (4, .int x4_5)] [] k_0 := by
    intro n
    induction n using Nat.strongRecOn with
    | ind n ih_5 =>
      intro x3_5 x4_5 h
      replace h := hI_5 n x3_5 x4_5 h
      obtain ⟨m_5, hm_5, h⟩ := h
      exact r_sub [0, 1, 2, 3, 4] rfl (ih_5 m_5 hm_5 _ _ h)
  exact r_sub [2, 3, 4, 1, 0] rfl (key_5 n_5 _ _ h)
abbrev rm_X7_isValue : Room := { frames := 1, cells := 0, slots := 0, locals := 22 }
def wp_X7_isValue (p0 : Int32) (Q : Int32 → Prop) : Prop :=
  wp_X7_in p0 (0 : Int32) (22 : Int32) (fun (r_4 : Int32) => Q r_4)
theorem hd_X7_isValue : yX7_isValue.cls ≠ "java/lang/invoke/MethodHandle" ∧ yX7_isValue.cls ≠ "java/lang/invoke/VarHandle" ∧ (parseMethodDescriptor yX7_isValue.desc).map (fun d => d.parameters.length) = some 1 := by decide +kernel
theorem hdv_X7_isValue : yX7_isValue.cls = RX7 ∧ yX7_isValue.cls ≠ "java/lang/invoke/MethodHandle" ∧ yX7_isValue.cls ≠ "java/lang/invoke/VarHandle" ∧ (parseMethodDescriptor yX7_isValue.desc).map (fun d => d.parameters.length) = some 1 := ⟨rfl, hd_X7_isValue⟩
set_option maxHeartbeats 4000000 in
set_option maxRecDepth 100000 in
theorem c_X7_isValue (l : Launch) (D : va_G)  (p0 : Int32) (Q : Int32 → Prop) (h : wp_X7_isValue p0 Q) : Met l yX7_isValue wsX7_isValue rm_X7_isValue (k_PR D [] wE k_0 [.int p0]) (vp_Si (fun r => (r = 0 ∨ r = 1) ∧ Q r)) 0 0 (fun _ => False) := by
  refine k_metR (by decide) rfl (Nat.le_of_ble_eq_true rfl) ?_
  intro Γ G E
  unfold wp_X7_isValue at h
  show k_J Γ rm_X7_isValue 1 true wE 0 [(0, .int p0)] [] k_0
  refine r_iload_n G dX7_isValue_0 0 rfl rfl ?_
  refine r_iconst G (0 : Int32) dX7_isValue_1 kc_0 ?_
  refine r_bipush G (22 : Int32) dX7_isValue_2 kb_22 ?_
  refine r_cSR G [.int p0, .int (0 : Int32), .int (22 : Int32)] [] (c_X7_in (k_l Γ) (k_D Γ) _ _ _ _ h) (va_cwS 3 G.2.2.2.2.1 gX7_isValue_X7_in rfl rfl rfl hd_X7_in ⟨Nat.le_of_ble_eq_true rfl, Nat.le_of_ble_eq_true rfl⟩) [] rfl (fun _ _ => k_E0) rfl rfl (Nat.le_of_ble_eq_true rfl) dX7_isValue_4 (fun r_4 h => ?_)
  have hz_4 := h.1
  replace h := h.2
  exact r_zretR G E (kz_of hz_4) dX7_isValue_7 ⟨hz_4, h⟩
