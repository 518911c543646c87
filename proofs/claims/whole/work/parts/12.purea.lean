abbrev rm_J6_bitCount_0f7a4 : Room := { frames := 0, cells := 0, slots := 0, locals := 0 }
def wp_J6_bitCount_0f7a4 (p0 : Int32) (Q : Int32 → Prop) : Prop :=
  Q ((((((((p0 - ((k_ushr p0 (1 : Int32)) &&& (1431655765 : Int32))) &&& (858993459 : Int32)) + ((k_ushr (p0 - ((k_ushr p0 (1 : Int32)) &&& (1431655765 : Int32))) (2 : Int32)) &&& (858993459 : Int32))) + (k_ushr (((p0 - ((k_ushr p0 (1 : Int32)) &&& (1431655765 : Int32))) &&& (858993459 : Int32)) + ((k_ushr (p0 - ((k_ushr p0 (1 : Int32)) &&& (1431655765 : Int32))) (2 : Int32)) &&& (858993459 : Int32))) (4 : Int32))) &&& (252645135 : Int32)) + (k_ushr (((((p0 - ((k_ushr p0 (1 : Int32)) &&& (1431655765 : Int32))) &&& (858993459 : Int32)) + ((k_ushr (p0 - ((k_ushr p0 (1 : Int32)) &&& (1431655765 : Int32))) (2 : Int32)) &&& (858993459 : Int32))) + (k_ushr (((p0 - ((k_ushr p0 (1 : Int32)) &&& (1431655765 : Int32))) &&& (858993459 : Int32)) + ((k_ushr (p0 - ((k_ushr p0 (1 : Int32)) &&& (1431655765 : Int32))) (2 : Int32)) &&& (858993459 : Int32))) (4 : Int32))) &&& (252645135 : Int32)) (8 : Int32))) + (k_ushr ((((((p0 - ((k_ushr p0 (1 : Int32)) &&& (1431655765 : Int32))) &&& (858993459 : Int32)) + ((k_ushr (p0 - ((k_ushr p0 (1 : Int32)) &&& (1431655765 : Int32))) (2 : Int32)) &&& (858993459 : Int32))) + (k_ushr (((p0 - ((k_ushr p0 (1 : Int32)) &&& (1431655765 : Int32))) &&& (858993459 : Int32)) + ((k_ushr (p0 - ((k_ushr p0 (1 : Int32)) &&& (1431655765 : Int32))) (2 : Int32)) &&& (858993459 : Int32))) (4 : Int32))) &&& (252645135 : Int32)) + (k_ushr (((((p0 - ((k_ushr p0 (1 : Int32)) &&& (1431655765 : Int32))) &&& (858993459 : Int32)) + ((k_ushr (p0 - ((k_ushr p0 (1 : Int32)) &&& (1431655765 : Int32))) (2 : Int32)) &&& (858993459 : Int32))) + (k_ushr (((p0 - ((k_ushr p0 (1 : Int32)) &&& (1431655765 : Int32))) &&& (858993459 : Int32)) + ((k_ushr (p0 - ((k_ushr p0 (1 : Int32)) &&& (1431655765 : Int32))) (2 : Int32)) &&& (858993459 : Int32))) (4 : Int32))) &&& (252645135 : Int32)) (8 : Int32))) (16 : Int32))) &&& (63 : Int32))
theorem hd_J6_bitCount_0f7a4 : yJ6_bitCount_0f7a4.cls ≠ "java/lang/invoke/MethodHandle" ∧ yJ6_bitCount_0f7a4.cls ≠ "java/lang/invoke/VarHandle" ∧ (parseMethodDescriptor yJ6_bitCount_0f7a4.desc).map (fun d => d.parameters.length) = some 1 := by decide +kernel
theorem hdv_J6_bitCount_0f7a4 : yJ6_bitCount_0f7a4.cls = RJ6 ∧ yJ6_bitCount_0f7a4.cls ≠ "java/lang/invoke/MethodHandle" ∧ yJ6_bitCount_0f7a4.cls ≠ "java/lang/invoke/VarHandle" ∧ (parseMethodDescriptor yJ6_bitCount_0f7a4.desc).map (fun d => d.parameters.length) = some 1 := ⟨rfl, hd_J6_bitCount_0f7a4⟩
set_option maxHeartbeats 4000000 in
set_option maxRecDepth 100000 in
theorem c_J6_bitCount_0f7a4 (l : Launch) (D : va_G)  (p0 : Int32) (Q : Int32 → Prop) (h : wp_J6_bitCount_0f7a4 p0 Q) : Met l yJ6_bitCount_0f7a4 wsJ6_bitCount_0f7a4 rm_J6_bitCount_0f7a4 (k_PR D [] wE k_0 [.int p0]) (vp_Si Q) 0 0 (fun _ => False) := by
  refine k_metR (by decide) rfl (Nat.le_of_ble_eq_true rfl) ?_
  intro Γ G E
  unfold wp_J6_bitCount_0f7a4 at h
  show k_J Γ rm_J6_bitCount_0f7a4 1 true wE 0 [(0, .int p0)] [] k_0
  refine r_iload_n G dJ6_bitCount_0f7a4_0 0 rfl rfl ?_
  refine r_iload_n G dJ6_bitCount_0f7a4_1 0 rfl rfl ?_
  refine r_iconst G (1 : Int32) dJ6_bitCount_0f7a4_2 kc_1 ?_
  refine r_iushr G dJ6_bitCount_0f7a4_3 ?_
  refine r_ldcw G (1431655765 : Int32) (G.2.2.2.2.1 (.constant RJ6 265 (1431655765 : Int32)) (by decide +kernel)) dJ6_bitCount_0f7a4_4 ?_
  refine r_iand G dJ6_bitCount_0f7a4_7 ?_
  refine r_isub G dJ6_bitCount_0f7a4_8 ?_
  refine r_istore_n (lv' := [(0, .int (p0 - ((k_ushr p0 (1 : Int32)) &&& (1431655765 : Int32))))]) G dJ6_bitCount_0f7a4_9 rfl (by decide) rfl ?_
  refine r_iload_n G dJ6_bitCount_0f7a4_10 0 rfl rfl ?_
  refine r_ldcw G (858993459 : Int32) (G.2.2.2.2.1 (.constant RJ6 266 (858993459 : Int32)) (by decide +kernel)) dJ6_bitCount_0f7a4_11 ?_
  refine r_iand G dJ6_bitCount_0f7a4_14 ?_
  refine r_iload_n G dJ6_bitCount_0f7a4_15 0 rfl rfl ?_
  refine r_iconst G (2 : Int32) dJ6_bitCount_0f7a4_16 kc_2 ?_
  refine r_iushr G dJ6_bitCount_0f7a4_17 ?_
  refine r_ldcw G (858993459 : Int32) (G.2.2.2.2.1 (.constant RJ6 266 (858993459 : Int32)) (by decide +kernel)) dJ6_bitCount_0f7a4_18 ?_
  refine r_iand G dJ6_bitCount_0f7a4_21 ?_
  refine r_iadd G dJ6_bitCount_0f7a4_22 ?_
  refine r_istore_n (lv' := [(0, .int (((p0 - ((k_ushr p0 (1 : Int32)) &&& (1431655765 : Int32))) &&& (858993459 : Int32)) + ((k_ushr (p0 - ((k_ushr p0 (1 : Int32)) &&& (1431655765 : Int32))) (2 : Int32)) &&& (858993459 : Int32))))]) G dJ6_bitCount_0f7a4_23 rfl (by decide) rfl ?_
  refine r_iload_n G dJ6_bitCount_0f7a4_24 0 rfl rfl ?_
  refine r_iload_n G dJ6_bitCount_0f7a4_25 0 rfl rfl ?_
  refine r_iconst G (4 : Int32) dJ6_bitCount_0f7a4_26 kc_4 ?_
  refine r_iushr G dJ6_bitCount_0f7a4_27 ?_
  refine r_iadd G dJ6_bitCount_0f7a4_28 ?_
  refine r_ldcw G (252645135 : Int32) (G.2.2.2.2.1 (.constant RJ6 267 (252645135 : Int32)) (by decide +kernel)) dJ6_bitCount_0f7a4_29 ?_
  refine r_iand G dJ6_bitCount_0f7a4_32 ?_
  refine r_istore_n (lv' := [(0, .int (((((p0 - ((k_ushr p0 (1 : Int32)) &&& (1431655765 : Int32))) &&& (858993459 : Int32)) + ((k_ushr (p0 - ((k_ushr p0 (1 : Int32)) &&& (1431655765 : Int32))) (2 : Int32)) &&& (858993459 : Int32))) + (k_ushr (((p0 - ((k_ushr p0 (1 : Int32)) &&& (1431655765 : Int32))) &&& (858993459 : Int32)) + ((k_ushr (p0 - ((k_ushr p0 (1 : Int32)) &&& (1431655765 : Int32))) (2 : Int32)) &&& (858993459 : Int32))) (4 : Int32))) &&& (252645135 : Int32)))]) G dJ6_bitCount_0f7a4_33 rfl (by decide) rfl ?_
  refine r_iload_n G dJ6_bitCount_0f7a4_34 0 rfl rfl ?_
  refine r_iload_n G dJ6_bitCount_0f7a4_35 0 rfl rfl ?_
  refine r_bipush G (8 : Int32) dJ6_bitCount_0f7a4_36 kb_8 ?_
  refine r_iushr G dJ6_bitCount_0f7a4_38 ?_
  refine r_iadd G dJ6_bitCount_0f7a4_39 ?_
  refine r_istore_n (lv' := [(0, .int ((((((p0 - ((k_ushr p0 (1 : Int32)) &&& (1431655765 : Int32))) &&& (858993459 : Int32)) + ((k_ushr (p0 - ((k_ushr p0 (1 : Int32)) &&& (1431655765 : Int32))) (2 : Int32)) &&& (858993459 : Int32))) + (k_ushr (((p0 - ((k_ushr p0 (1 : Int32)) &&& (1431655765 : Int32))) &&& (858993459 : Int32)) + ((k_ushr (p0 - ((k_ushr p0 (1 : Int32)) &&& (1431655765 : Int32))) (2 : Int32)) &&& (858993459 : Int32))) (4 : Int32))) &&& (252645135 : Int32)) + (k_ushr (((((p0 - ((k_ushr p0 (1 : Int32)) &&& (1431655765 : Int32))) &&& (858993459 : Int32)) + ((k_ushr (p0 - ((k_ushr p0 (1 : Int32)) &&& (1431655765 : Int32))) (2 : Int32)) &&& (858993459 : Int32))) + (k_ushr (((p0 - ((k_ushr p0 (1 : Int32)) &&& (1431655765 : Int32))) &&& (858993459 : Int32)) + ((k_ushr (p0 - ((k_ushr p0 (1 : Int32)) &&& (1431655765 : Int32))) (2 : Int32)) &&& (858993459 : Int32))) (4 : Int32))) &&& (252645135 : Int32)) (8 : Int32))))]) G dJ6_bitCount_0f7a4_40 rfl (by decide) rfl ?_
  refine r_iload_n G dJ6_bitCount_0f7a4_41 0 rfl rfl ?_
  refine r_iload_n G dJ6_bitCount_0f7a4_42 0 rfl rfl ?_
  refine r_bipush G (16 : Int32) dJ6_bitCount_0f7a4_43 kb_16 ?_
  refine r_iushr G dJ6_bitCount_0f7a4_45 ?_
  refine r_iadd G dJ6_bitCount_0f7a4_46 ?_
  refine r_istore_n (lv' := [(0, .int (((((((p0 - ((k_ushr p0 (1 : Int32)) &&& (1431655765 : Int32))) &&& (858993459 : Int32)) + ((k_ushr (p0 - ((k_ushr p0 (1 : Int32)) &&& (1431655765 : Int32))) (2 : Int32)) &&& (858993459 : Int32))) + (k_ushr (((p0 - ((k_ushr p0 (1 : Int32)) &&& (1431655765 : Int32))) &&& (858993459 : Int32)) + ((k_ushr (p0 - ((k_ushr p0 (1 : Int32)) &&& (1431655765 : Int32))) (2 : Int32)) &&& (858993459 : Int32))) (4 : Int32))) &&& (252645135 : Int32)) + (k_ushr (((((p0 - ((k_ushr p0 (1 : Int32)) &&& (1431655765 : Int32))) &&& (858993459 : Int32)) + ((k_ushr (p0 - ((k_ushr p0 (1 : Int32)) &&& (1431655765 : Int32))) (2 : Int32)) &&& (858993459 : Int32))) + (k_ushr (((p0 - ((k_ushr p0 (1 : Int32)) &&& (1431655765 : Int32))) &&& (858993459 : Int32)) + ((k_ushr (p0 - ((k_ushr p0 (1 : Int32)) &&& (1431655765 : Int32))) (2 : Int32)) &&& (858993459 : Int32))) (4 : Int32))) &&& (252645135 : Int32)) (8 : Int32))) + (k_ushr ((((((p0 - ((k_ushr p0 (1 : Int32)) &&& (1431655765 : Int32))) &&& (858993459 : Int32)) + ((k_ushr (p0 - ((k_ushr p0 (1 : Int32)) &&& (1431655765 : Int32))) (2 : Int32)) &&& (858993459 : Int32))) + (k_ushr (((p0 - ((k_ushr p0 (1 : Int32)) &&& (1431655765 : Int32))) &&& (858993459 : Int32)) + ((k_ushr (p0 - ((k_ushr p0 (1 : Int32)) &&& (1431655765 : Int32))) (2 : Int32)) &&& (858993459 : Int32))) (4 : Int32))) &&& (252645135 : Int32)) + (k_ushr (((((p0 - ((k_ushr p0 (1 : Int32)) &&& (1431655765 : Int32))) &&& (858993459 : Int32)) + ((k_ushr (p0 - ((k_ushr p0 (1 : Int32)) &&& (1431655765 : Int32))) (2 : Int32)) &&& (858993459 : Int32))) + (k_ushr (((p0 - ((k_ushr p0 (1 : Int32)) &&& (1431655765 : Int32))) &&& (858993459 : Int32)) + ((k_ushr (p0 - ((k_ushr p0 (1 : Int32)) &&& (1431655765 : Int32))) (2 : Int32)) &&& (858993459 : Int32))) (4 : Int32))) &&& (252645135 : Int32)) (8 : Int32))) (16 : Int32))))]) G dJ6_bitCount_0f7a4_47 rfl (by decide) rfl ?_
  refine r_iload_n G dJ6_bitCount_0f7a4_48 0 rfl rfl ?_
  refine r_bipush G (63 : Int32) dJ6_bitCount_0f7a4_49 kb_63 ?_
  refine r_iand G dJ6_bitCount_0f7a4_51 ?_
  exact r_iretR G E dJ6_bitCount_0f7a4_52 h
abbrev rm_X4_only : Room := { frames := 0, cells := 0, slots := 0, locals := 0 }
def wp_X4_only (p0 : Int32) (Q : Int32 → Prop) : Prop :=
  Q ((1 : Int32) <<< (p0 &&& 31))
theorem hd_X4_only : yX4_only.cls ≠ "java/lang/invoke/MethodHandle" ∧ yX4_only.cls ≠ "java/lang/invoke/VarHandle" ∧ (parseMethodDescriptor yX4_only.desc).map (fun d => d.parameters.length) = some 1 := by decide +kernel
theorem hdv_X4_only : yX4_only.cls = RX4 ∧ yX4_only.cls ≠ "java/lang/invoke/MethodHandle" ∧ yX4_only.cls ≠ "java/lang/invoke/VarHandle" ∧ (parseMethodDescriptor yX4_only.desc).map (fun d => d.parameters.length) = some 1 := ⟨rfl, hd_X4_only⟩
set_option maxHeartbeats 4000000 in
set_option maxRecDepth 100000 in
theorem c_X4_only (l : Launch) (D : va_G)  (p0 : Int32) (Q : Int32 → Prop) (h : wp_X4_only p0 Q) : Met l yX4_only wsX4_only rm_X4_only (k_PR D [] wE k_0 [.int p0]) (vp_Si Q) 0 0 (fun _ => False) := by
  refine k_metR (by decide) rfl (Nat.le_of_ble_eq_true rfl) ?_
  intro Γ G E
  unfold wp_X4_only at h
  show k_J Γ rm_X4_only 1 true wE 0 [(0, .int p0)] [] k_0
  refine r_iconst G (1 : Int32) dX4_only_0 kc_1 ?_
  refine r_iload_n G dX4_only_1 0 rfl rfl ?_
  refine r_ishl G dX4_only_2 ?_
  exact r_iretR G E dX4_only_3 h
abbrev rm_X5_plus : Room := { frames := 0, cells := 0, slots := 0, locals := 0 }
def wp_X5_plus (p0 p1 : Int32) (Q : Int32 → Prop) : Prop :=
  Q (k_rem (p0 + p1) (23 : Int32))
theorem hd_X5_plus : yX5_plus.cls ≠ "java/lang/invoke/MethodHandle" ∧ yX5_plus.cls ≠ "java/lang/invoke/VarHandle" ∧ (parseMethodDescriptor yX5_plus.desc).map (fun d => d.parameters.length) = some 2 := by decide +kernel
theorem hdv_X5_plus : yX5_plus.cls = RX5 ∧ yX5_plus.cls ≠ "java/lang/invoke/MethodHandle" ∧ yX5_plus.cls ≠ "java/lang/invoke/VarHandle" ∧ (parseMethodDescriptor yX5_plus.desc).map (fun d => d.parameters.length) = some 2 := ⟨rfl, hd_X5_plus⟩
set_option maxHeartbeats 4000000 in
set_option maxRecDepth 100000 in
theorem c_X5_plus (l : Launch) (D : va_G)  (p0 p1 : Int32) (Q : Int32 → Prop) (h : wp_X5_plus p0 p1 Q) : Met l yX5_plus wsX5_plus rm_X5_plus (k_PR D [] wE k_0 [.int p0, .int p1]) (vp_Si Q) 0 0 (fun _ => False) := by
  refine k_metR (by decide) rfl (Nat.le_of_ble_eq_true rfl) ?_
  intro Γ G E
  unfold wp_X5_plus at h
  show k_J Γ rm_X5_plus 2 true wE 0 [(0, .int p0), (1, .int p1)] [] k_0
  refine r_iload_n G dX5_plus_0 0 rfl rfl ?_
  refine r_iload_n G dX5_plus_1 1 rfl rfl ?_
  refine r_iadd G dX5_plus_2 ?_
  refine r_bipush G (23 : Int32) dX5_plus_3 kb_23 ?_
  refine r_irem G kne_23 dX5_plus_5 ?_
  exact r_iretR G E dX5_plus_6 h
abbrev rm_X5_raised : Room := { frames := 0, cells := 0, slots := 0, locals := 0 }
def wp_X5_raised (p0 p1 : Int32) (Q : Int32 → Prop) : Prop :=
  (k_lp2 (fun (B_4 : Int32 → Int32 → Prop) (x2_4 : Int32) (x3_4 : Int32) => ((p1 ≤ x3_4 → Q x2_4) ∧ (¬ p1 ≤ x3_4 → B_4 (k_rem (x2_4 * p0) (47 : Int32)) (x3_4 + (1 : Int32))))) (1 : Int32) (0 : Int32))
theorem hd_X5_raised : yX5_raised.cls ≠ "java/lang/invoke/MethodHandle" ∧ yX5_raised.cls ≠ "java/lang/invoke/VarHandle" ∧ (parseMethodDescriptor yX5_raised.desc).map (fun d => d.parameters.length) = some 2 := by decide +kernel
theorem hdv_X5_raised : yX5_raised.cls = RX5 ∧ yX5_raised.cls ≠ "java/lang/invoke/MethodHandle" ∧ yX5_raised.cls ≠ "java/lang/invoke/VarHandle" ∧ (parseMethodDescriptor yX5_raised.desc).map (fun d => d.parameters.length) = some 2 := ⟨rfl, hd_X5_raised⟩
set_option maxHeartbeats 4000000 in
set_option maxRecDepth 100000 in
theorem c_X5_raised (l : Launch) (D : va_G)  (p0 p1 : Int32) (Q : Int32 → Prop) (h : wp_X5_raised p0 p1 Q) : Met l yX5_raised wsX5_raised rm_X5_raised (k_PR D [] wE k_0 [.int p0, .int p1]) (vp_Si Q) 0 0 (fun _ => False) := by
  refine k_metR (by decide) rfl (Nat.le_of_ble_eq_true rfl) ?_
  intro Γ G E
  unfold wp_X5_raised at h
  show k_J Γ rm_X5_raised 4 true wE 0 [(0, .int p0), (1, .int p1)] [] k_0
  refine r_iconst G (1 : Int32) dX5_raised_0 kc_1 ?_
  refine r_istore_n (lv' := [(2, .int (1 : Int32)), (0, .int p0), (1, .int p1)]) G dX5_raised_1 rfl (by decide) rfl ?_
  refine r_iconst G (0 : Int32) dX5_raised_2 kc_0 ?_
  refine r_istore_n (lv' := [(3, .int (0 : Int32)), (2, .int (1 : Int32)), (0, .int p0), (1, .int p1)]) G dX5_raised_3 rfl (by decide) rfl ?_
  obtain ⟨I_4, n_4, h, hI_4⟩ := h
  have key_4 : ∀ (n : Nat) (x2_4 : Int32) (x3_4 : Int32), I_4 n x2_4 x3_4 → k_J Γ rm_X5_raised 4 true wE 4 [(0, .int p0), (1, .int p1), (2, .int x2_4), (3, .int x3_4)] [] k_0 := by
    intro n
    induction n using Nat.strongRecOn with
    | ind n ih_4 =>
      intro x2_4 x3_4 h
      replace h := hI_4 n x2_4 x3_4 h
      refine r_iload_n G dX5_raised_4 3 rfl rfl ?_
      refine r_iload_n G dX5_raised_5 1 rfl rfl ?_
      refine r_icmp_ge G 22 dX5_raised_6 (by decide) (fun hc => ?_) (fun hc => ?_)
      · replace h := h.1 hc
        refine r_iload_n G dX5_raised_22 2 rfl rfl ?_
        exact r_iretR G E dX5_raised_23 h
      · replace h := h.2 hc
        refine r_iload_n G dX5_raised_9 2 rfl rfl ?_
        refine r_iload_n G dX5_raised_10 0 rfl rfl ?_
        refine r_imul G dX5_raised_11 ?_
        refine r_bipush G (47 : Int32) dX5_raised_12 kb_47 ?_
        refine r_irem G kne_47 dX5_raised_14 ?_
        refine r_istore_n (lv' := [(2, .int (k_rem (x2_4 * p0) (47 : Int32))), (0, .int p0), (1, .int p1), (3, .int x3_4)]) G dX5_raised_15 rfl (by decide) rfl ?_
        refine r_iinc (lv' := [(3, .int (x3_4 + (1 : Int32))), (2, .int (k_rem (x2_4 * p0) (47 : Int32))), (0, .int p0), (1, .int p1)]) G 3 dX5_raised_16 kc_1 rfl (by decide) rfl ?_
        refine r_goto G 4 dX5_raised_19 (by decide) ?_
        obtain ⟨m_4, hm_4, h⟩ := h
        exact r_sub [2, 3, 1, 0] rfl (ih_4 m_4 hm_4 _ _ h)
  exact r_sub [2, 3, 1, 0] rfl (key_4 n_4 _ _ h)
abbrev rm_X5_sealOf : Room := { frames := 1, cells := 0, slots := 0, locals := 23 }
def wp_X5_sealOf (p0 : Int32) (Q : Int32 → Prop) : Prop :=
  wp_X5_raised (4 : Int32) p0 (fun (r_2 : Int32) => Q r_2)
theorem hd_X5_sealOf : yX5_sealOf.cls ≠ "java/lang/invoke/MethodHandle" ∧ yX5_sealOf.cls ≠ "java/lang/invoke/VarHandle" ∧ (parseMethodDescriptor yX5_sealOf.desc).map (fun d => d.parameters.length) = some 1 := by decide +kernel
theorem hdv_X5_sealOf : yX5_sealOf.cls = RX5 ∧ yX5_sealOf.cls ≠ "java/lang/invoke/MethodHandle" ∧ yX5_sealOf.cls ≠ "java/lang/invoke/VarHandle" ∧ (parseMethodDescriptor yX5_sealOf.desc).map (fun d => d.parameters.length) = some 1 := ⟨rfl, hd_X5_sealOf⟩
set_option maxHeartbeats 4000000 in
set_option maxRecDepth 100000 in
theorem c_X5_sealOf (l : Launch) (D : va_G)  (p0 : Int32) (Q : Int32 → Prop) (h : wp_X5_sealOf p0 Q) : Met l yX5_sealOf wsX5_sealOf rm_X5_sealOf (k_PR D [] wE k_0 [.int p0]) (vp_Si Q) 0 0 (fun _ => False) := by
  refine k_metR (by decide) rfl (Nat.le_of_ble_eq_true rfl) ?_
  intro Γ G E
  unfold wp_X5_sealOf at h
  show k_J Γ rm_X5_sealOf 1 true wE 0 [(0, .int p0)] [] k_0
  refine r_iconst G (4 : Int32) dX5_sealOf_0 kc_4 ?_
  refine r_iload_n G dX5_sealOf_1 0 rfl rfl ?_
  refine r_cSR G [.int (4 : Int32), .int p0] [] (c_X5_raised (k_l Γ) (k_D Γ) _ _ _ h) (va_cwS 2 G.2.2.2.2.1 gX5_sealOf_X5_raised rfl rfl rfl hd_X5_raised ⟨Nat.le_of_ble_eq_true rfl, Nat.le_of_ble_eq_true rfl⟩) [] rfl (fun _ _ => k_E0) rfl rfl (Nat.le_of_ble_eq_true rfl) dX5_sealOf_2 (fun r_2 h => ?_)
  exact r_iretR G E dX5_sealOf_5 h
abbrev rm_X5_times : Room := { frames := 0, cells := 0, slots := 0, locals := 0 }
def wp_X5_times (p0 p1 : Int32) (Q : Int32 → Prop) : Prop :=
  Q (k_rem (p0 * p1) (23 : Int32))
theorem hd_X5_times : yX5_times.cls ≠ "java/lang/invoke/MethodHandle" ∧ yX5_times.cls ≠ "java/lang/invoke/VarHandle" ∧ (parseMethodDescriptor yX5_times.desc).map (fun d => d.parameters.length) = some 2 := by decide +kernel
theorem hdv_X5_times : yX5_times.cls = RX5 ∧ yX5_times.cls ≠ "java/lang/invoke/MethodHandle" ∧ yX5_times.cls ≠ "java/lang/invoke/VarHandle" ∧ (parseMethodDescriptor yX5_times.desc).map (fun d => d.parameters.length) = some 2 := ⟨rfl, hd_X5_times⟩
set_option maxHeartbeats 4000000 in
set_option maxRecDepth 100000 in
theorem c_X5_times (l : Launch) (D : va_G)  (p0 p1 : Int32) (Q : Int32 → Prop) (h : wp_X5_times p0 p1 Q) : Met l yX5_times wsX5_times rm_X5_times (k_PR D [] wE k_0 [.int p0, .int p1]) (vp_Si Q) 0 0 (fun _ => False) := by
  refine k_metR (by decide) rfl (Nat.le_of_ble_eq_true rfl) ?_
  intro Γ G E
  unfold wp_X5_times at h
  show k_J Γ rm_X5_times 2 true wE 0 [(0, .int p0), (1, .int p1)] [] k_0
  refine r_iload_n G dX5_times_0 0 rfl rfl ?_
  refine r_iload_n G dX5_times_1 1 rfl rfl ?_
  refine r_imul G dX5_times_2 ?_
  refine r_bipush G (23 : Int32) dX5_times_3 kb_23 ?_
  refine r_irem G kne_23 dX5_times_5 ?_
  exact r_iretR G E dX5_times_6 h
abbrev rm_X4_has : Room := { frames := 0, cells := 0, slots := 0, locals := 0 }
def wp_X4_has (p0 p1 : Int32) (Q : Int32 → Prop) : Prop :=
  ((((p0 >>> (p1 &&& 31)) &&& (1 : Int32)) = 0 → Q (0 : Int32)) ∧ (¬ ((p0 >>> (p1 &&& 31)) &&& (1 : Int32)) = 0 → Q (1 : Int32)))
theorem hd_X4_has : yX4_has.cls ≠ "java/lang/invoke/MethodHandle" ∧ yX4_has.cls ≠ "java/lang/invoke/VarHandle" ∧ (parseMethodDescriptor yX4_has.desc).map (fun d => d.parameters.length) = some 2 := by decide +kernel
theorem hdv_X4_has : yX4_has.cls = RX4 ∧ yX4_has.cls ≠ "java/lang/invoke/MethodHandle" ∧ yX4_has.cls ≠ "java/lang/invoke/VarHandle" ∧ (parseMethodDescriptor yX4_has.desc).map (fun d => d.parameters.length) = some 2 := ⟨rfl, hd_X4_has⟩
set_option maxHeartbeats 4000000 in
set_option maxRecDepth 100000 in
theorem c_X4_has (l : Launch) (D : va_G)  (p0 p1 : Int32) (Q : Int32 → Prop) (h : wp_X4_has p0 p1 Q) : Met l yX4_has wsX4_has rm_X4_has (k_PR D [] wE k_0 [.int p0, .int p1]) (vp_Si (fun r => (r = 0 ∨ r = 1) ∧ Q r)) 0 0 (fun _ => False) := by
  refine k_metR (by decide) rfl (Nat.le_of_ble_eq_true rfl) ?_
  intro Γ G E
  unfold wp_X4_has at h
  show k_J Γ rm_X4_has 2 true wE 0 [(0, .int p0), (1, .int p1)] [] k_0
  refine r_iload_n G dX4_has_0 0 rfl rfl ?_
  refine r_iload_n G dX4_has_1 1 rfl rfl ?_
  refine r_ishr G dX4_has_2 ?_
  refine r_iconst G (1 : Int32) dX4_has_3 kc_1 ?_
  refine r_iand G dX4_has_4 ?_
  refine r_if_eq G 12 dX4_has_5 (by decide) (fun hc => ?_) (fun hc => ?_)
  · replace h := h.1 hc
    refine r_iconst G (0 : Int32) dX4_has_12 kc_0 ?_
    exact r_zretR G E kz_0 dX4_has_13 ⟨kzo_0, h⟩
  · replace h := h.2 hc
    refine r_iconst G (1 : Int32) dX4_has_8 kc_1 ?_
    refine r_goto G 13 dX4_has_9 (by decide) ?_
    exact r_zretR G E kz_1 dX4_has_13 ⟨kzo_1, h⟩
abbrev rm_X5_joined : Room := { frames := 0, cells := 0, slots := 0, locals := 0 }
def wp_X5_joined (p0 p1 : Int32) (Q : Int32 → Prop) : Prop :=
  Q (k_rem (p0 * p1) (47 : Int32))
theorem hd_X5_joined : yX5_joined.cls ≠ "java/lang/invoke/MethodHandle" ∧ yX5_joined.cls ≠ "java/lang/invoke/VarHandle" ∧ (parseMethodDescriptor yX5_joined.desc).map (fun d => d.parameters.length) = some 2 := by decide +kernel
theorem hdv_X5_joined : yX5_joined.cls = RX5 ∧ yX5_joined.cls ≠ "java/lang/invoke/MethodHandle" ∧ yX5_joined.cls ≠ "java/lang/invoke/VarHandle" ∧ (parseMethodDescriptor yX5_joined.desc).map (fun d => d.parameters.length) = some 2 := ⟨rfl, hd_X5_joined⟩
set_option maxHeartbeats 4000000 in
set_option maxRecDepth 100000 in
theorem c_X5_joined (l : Launch) (D : va_G)  (p0 p1 : Int32) (Q : Int32 → Prop) (h : wp_X5_joined p0 p1 Q) : Met l yX5_joined wsX5_joined rm_X5_joined (k_PR D [] wE k_0 [.int p0, .int p1]) (vp_Si Q) 0 0 (fun _ => False) := by
  refine k_metR (by decide) rfl (Nat.le_of_ble_eq_true rfl) ?_
  intro Γ G E
  unfold wp_X5_joined at h
  show k_J Γ rm_X5_joined 2 true wE 0 [(0, .int p0), (1, .int p1)] [] k_0
  refine r_iload_n G dX5_joined_0 0 rfl rfl ?_
  refine r_iload_n G dX5_joined_1 1 rfl rfl ?_
  refine r_imul G dX5_joined_2 ?_
  refine r_bipush G (47 : Int32) dX5_joined_3 kb_47 ?_
  refine r_irem G kne_47 dX5_joined_5 ?_
  exact r_iretR G E dX5_joined_6 h
abbrev rm_X5_less : Room := { frames := 0, cells := 0, slots := 0, locals := 0 }
def wp_X5_less (p0 p1 : Int32) (Q : Int32 → Prop) : Prop :=
  Q (k_rem ((p0 + (23 : Int32)) - p1) (23 : Int32))
theorem hd_X5_less : yX5_less.cls ≠ "java/lang/invoke/MethodHandle" ∧ yX5_less.cls ≠ "java/lang/invoke/VarHandle" ∧ (parseMethodDescriptor yX5_less.desc).map (fun d => d.parameters.length) = some 2 := by decide +kernel
theorem hdv_X5_less : yX5_less.cls = RX5 ∧ yX5_less.cls ≠ "java/lang/invoke/MethodHandle" ∧ yX5_less.cls ≠ "java/lang/invoke/VarHandle" ∧ (parseMethodDescriptor yX5_less.desc).map (fun d => d.parameters.length) = some 2 := ⟨rfl, hd_X5_less⟩
set_option maxHeartbeats 4000000 in
set_option maxRecDepth 100000 in
theorem c_X5_less (l : Launch) (D : va_G)  (p0 p1 : Int32) (Q : Int32 → Prop) (h : wp_X5_less p0 p1 Q) : Met l yX5_less wsX5_less rm_X5_less (k_PR D [] wE k_0 [.int p0, .int p1]) (vp_Si Q) 0 0 (fun _ => False) := by
  refine k_metR (by decide) rfl (Nat.le_of_ble_eq_true rfl) ?_
  intro Γ G E
  unfold wp_X5_less at h
  show k_J Γ rm_X5_less 2 true wE 0 [(0, .int p0), (1, .int p1)] [] k_0
  refine r_iload_n G dX5_less_0 0 rfl rfl ?_
  refine r_bipush G (23 : Int32) dX5_less_1 kb_23 ?_
  refine r_iadd G dX5_less_3 ?_
  refine r_iload_n G dX5_less_4 1 rfl rfl ?_
  refine r_isub G dX5_less_5 ?_
  refine r_bipush G (23 : Int32) dX5_less_6 kb_23 ?_
  refine r_irem G kne_23 dX5_less_8 ?_
  exact r_iretR G E dX5_less_9 h
abbrev rm_X5_inverse : Room := { frames := 0, cells := 0, slots := 0, locals := 0 }
def wp_X5_inverse (p0 : Int32) (Q : Int32 → Prop) : Prop :=
  (k_lp2 (fun (B_4 : Int32 → Int32 → Prop) (x1_4 : Int32) (x2_4 : Int32) => (((21 : Int32) ≤ x2_4 → Q x1_4) ∧ (¬ (21 : Int32) ≤ x2_4 → B_4 (k_rem (x1_4 * p0) (23 : Int32)) (x2_4 + (1 : Int32))))) (1 : Int32) (0 : Int32))
theorem hd_X5_inverse : yX5_inverse.cls ≠ "java/lang/invoke/MethodHandle" ∧ yX5_inverse.cls ≠ "java/lang/invoke/VarHandle" ∧ (parseMethodDescriptor yX5_inverse.desc).map (fun d => d.parameters.length) = some 1 := by decide +kernel
theorem hdv_X5_inverse : yX5_inverse.cls = RX5 ∧ yX5_inverse.cls ≠ "java/lang/invoke/MethodHandle" ∧ yX5_inverse.cls ≠ "java/lang/invoke/VarHandle" ∧ (parseMethodDescriptor yX5_inverse.desc).map (fun d => d.parameters.length) = some 1 := ⟨rfl, hd_X5_inverse⟩
set_option maxHeartbeats 4000000 in
set_option maxRecDepth 100000 in
theorem c_X5_inverse (l : Launch) (D : va_G)  (p0 : Int32) (Q : Int32 → Prop) (h : wp_X5_inverse p0 Q) : Met l yX5_inverse wsX5_inverse rm_X5_inverse (k_PR D [] wE k_0 [.int p0]) (vp_Si Q) 0 0 (fun _ => False) := by
  refine k_metR (by decide) rfl (Nat.le_of_ble_eq_true rfl) ?_
  intro Γ G E
  unfold wp_X5_inverse at h
  show k_J Γ rm_X5_inverse 3 true wE 0 [(0, .int p0)] [] k_0
  refine r_iconst G (1 : Int32) dX5_inverse_0 kc_1 ?_
  refine r_istore_n (lv' := [(1, .int (1 : Int32)), (0, .int p0)]) G dX5_inverse_1 rfl (by decide) rfl ?_
  refine r_iconst G (0 : Int32) dX5_inverse_2 kc_0 ?_
  refine r_istore_n (lv' := [(2, .int (0 : Int32)), (1, .int (1 : Int32)), (0, .int p0)]) G dX5_inverse_3 rfl (by decide) rfl ?_
  obtain ⟨I_4, n_4, h, hI_4⟩ := h
  have key_4 : ∀ (n : Nat) (x1_4 : Int32) (x2_4 : Int32), I_4 n x1_4 x2_4 → k_J Γ rm_X5_inverse 3 true wE 4 [(0, .int p0), (1, .int x1_4), (2, .int x2_4)] [] k_0 := by
    intro n
    induction n using Nat.strongRecOn with
    | ind n ih_4 =>
      intro x1_4 x2_4 h
      replace h := hI_4 n x1_4 x2_4 h
      refine r_iload_n G dX5_inverse_4 2 rfl rfl ?_
      refine r_bipush G (21 : Int32) dX5_inverse_5 kb_21 ?_
      refine r_icmp_ge G 23 dX5_inverse_7 (by decide) (fun hc => ?_) (fun hc => ?_)
      · replace h := h.1 hc
        refine r_iload_n G dX5_inverse_23 1 rfl rfl ?_
        exact r_iretR G E dX5_inverse_24 h
      · replace h := h.2 hc
        refine r_iload_n G dX5_inverse_10 1 rfl rfl ?_
        refine r_iload_n G dX5_inverse_11 0 rfl rfl ?_
        refine r_imul G dX5_inverse_12 ?_
        refine r_bipush G (23 : Int32) dX5_inverse_13 kb_23 ?_
        refine r_irem G kne_23 dX5_inverse_15 ?_
        refine r_istore_n (lv' := [(1, .int (k_rem (x1_4 * p0) (23 : Int32))), (0, .int p0), (2, .int x2_4)]) G dX5_inverse_16 rfl (by decide) rfl ?_
        refine r_iinc (lv' := [(2, .int (x2_4 + (1 : Int32))), (1, .int (k_rem (x1_4 * p0) (23 : Int32))), (0, .int p0)]) G 2 dX5_inverse_17 kc_1 rfl (by decide) rfl ?_
        refine r_goto G 4 dX5_inverse_20 (by decide) ?_
        obtain ⟨m_4, hm_4, h⟩ := h
        exact r_sub [2, 1, 0] rfl (ih_4 m_4 hm_4 _ _ h)
  exact r_sub [2, 1, 0] rfl (key_4 n_4 _ _ h)
abbrev rm_X5_weight : Room := { frames := 1, cells := 0, slots := 0, locals := 22 }
def wp_X5_weight (p0 p1 p2 : Int32) (Q : Int32 → Prop) : Prop :=
  (k_lp3 (fun (B_8 : Int32 → Int32 → Int32 → Prop) (x3_8 : Int32) (x4_8 : Int32) (x5_8 : Int32) => (((7 : Int32) < x5_8 → wp_X5_inverse x4_8 (fun (r_63 : Int32) => wp_X5_times x3_8 r_63 (fun (r_66 : Int32) => Q r_66))) ∧ (¬ (7 : Int32) < x5_8 → ((x5_8 = p0 → B_8 x3_8 x4_8 (x5_8 + (1 : Int32))) ∧ (¬ x5_8 = p0 → wp_X4_has p1 x5_8 (fun (r_24 : Int32) => ((r_24 = 0 → B_8 x3_8 x4_8 (x5_8 + (1 : Int32))) ∧ (¬ r_24 = 0 → wp_X5_less p2 x5_8 (fun (r_34 : Int32) => wp_X5_times x3_8 r_34 (fun (r_37 : Int32) => wp_X5_less p0 x5_8 (fun (r_46 : Int32) => wp_X5_times x4_8 r_46 (fun (r_49 : Int32) => B_8 r_37 r_49 (x5_8 + (1 : Int32)))))))))))))) (1 : Int32) (1 : Int32) (1 : Int32))
theorem hd_X5_weight : yX5_weight.cls ≠ "java/lang/invoke/MethodHandle" ∧ yX5_weight.cls ≠ "java/lang/invoke/VarHandle" ∧ (parseMethodDescriptor yX5_weight.desc).map (fun d => d.parameters.length) = some 3 := by decide +kernel
theorem hdv_X5_weight : yX5_weight.cls = RX5 ∧ yX5_weight.cls ≠ "java/lang/invoke/MethodHandle" ∧ yX5_weight.cls ≠ "java/lang/invoke/VarHandle" ∧ (parseMethodDescriptor yX5_weight.desc).map (fun d => d.parameters.length) = some 3 := ⟨rfl, hd_X5_weight⟩
set_option maxHeartbeats 4000000 in
set_option maxRecDepth 100000 in
theorem c_X5_weight (l : Launch) (D : va_G)  (p0 p1 p2 : Int32) (Q : Int32 → Prop) (h : wp_X5_weight p0 p1 p2 Q) : Met l yX5_weight wsX5_weight rm_X5_weight (k_PR D [] wE k_0 [.int p0, .int p1, .int p2]) (vp_Si Q) 0 0 (fun _ => False) := by
  refine k_metR (by decide) rfl (Nat.le_of_ble_eq_true rfl) ?_
  intro Γ G E
  unfold wp_X5_weight at h
  show k_J Γ rm_X5_weight 6 true wE 0 [(0, .int p0), (1, .int p1), (2, .int p2)] [] k_0
  refine r_iconst G (1 : Int32) dX5_weight_0 kc_1 ?_
  refine r_istore_n (lv' := [(3, .int (1 : Int32)), (0, .int p0), (1, .int p1), (2, .int p2)]) G dX5_weight_1 rfl (by decide) rfl ?_
  refine r_iconst G (1 : Int32) dX5_weight_2 kc_1 ?_
  refine r_istore (lv' := [(4, .int (1 : Int32)), (3, .int (1 : Int32)), (0, .int p0), (1, .int p1), (2, .int p2)]) G dX5_weight_3 (by decide) rfl ?_
  refine r_iconst G (1 : Int32) dX5_weight_5 kc_1 ?_
  refine r_istore (lv' := [(5, .int (1 : Int32)), (4, .int (1 : Int32)), (3, .int (1 : Int32)), (0, .int p0), (1, .int p1), (2, .int p2)]) G dX5_weight_6 (by decide) rfl ?_
  obtain ⟨I_8, n_8, h, hI_8⟩ := h
  have key_8 : ∀ (n : Nat) (x3_8 : Int32) (x4_8 : Int32) (x5_8 : Int32), I_8 n x3_8 x4_8 x5_8 → k_J Γ rm_X5_weight 6 true wE 8 [(0, .int p0), (1, .int p1), (2, .int p2), (3, .int x3_8), (4, .int x4_8), (5, .int x5_8)] [] k_0 := by
    intro n
    induction n using Nat.strongRecOn with
    | ind n ih_8 =>
      intro x3_8 x4_8 x5_8 h
      replace h := hI_8 n x3_8 x4_8 x5_8 h
      refine r_iload G dX5_weight_8 5 rfl ?_
      refine r_bipush G (7 : Int32) dX5_weight_10 kb_7 ?_
      refine r_icmp_gt G 60 dX5_weight_12 (by decide) (fun hc => ?_) (fun hc => ?_)
      · replace h := h.1 hc
        refine r_iload_n G dX5_weight_60 3 rfl rfl ?_
        refine r_iload G dX5_weight_61 4 rfl ?_
        refine r_cSR G [.int x4_8] [.int x3_8] (c_X5_inverse (k_l Γ) (k_D Γ) _ _ h) (va_cwS 1 G.2.2.2.2.1 gX5_weight_X5_inverse rfl rfl rfl hd_X5_inverse ⟨Nat.le_of_ble_eq_true rfl, Nat.le_of_ble_eq_true rfl⟩) [] rfl (fun _ _ => k_E0) rfl rfl (Nat.le_of_ble_eq_true rfl) dX5_weight_63 (fun r_63 h => ?_)
        refine r_cSR G [.int x3_8, .int r_63] [] (c_X5_times (k_l Γ) (k_D Γ) _ _ _ h) (va_cwS 2 G.2.2.2.2.1 gX5_weight_X5_times rfl rfl rfl hd_X5_times ⟨Nat.le_of_ble_eq_true rfl, Nat.le_of_ble_eq_true rfl⟩) [] rfl (fun _ _ => k_E0) rfl rfl (Nat.le_of_ble_eq_true rfl) dX5_weight_66 (fun r_66 h => ?_)
        exact r_iretR G E dX5_weight_69 h
      · replace h := h.2 hc
        refine r_iload G dX5_weight_15 5 rfl ?_
        refine r_iload_n G dX5_weight_17 0 rfl rfl ?_
        refine r_icmp_eq G 54 dX5_weight_18 (by decide) (fun hc => ?_) (fun hc => ?_)
        · replace h := h.1 hc
          refine r_iinc (lv' := [(5, .int (x5_8 + (1 : Int32))), (0, .int p0), (1, .int p1), (2, .int p2), (3, .int x3_8), (4, .int x4_8)]) G 5 dX5_weight_54 kc_1 rfl (by decide) rfl ?_
          refine r_goto G 8 dX5_weight_57 (by decide) ?_
          obtain ⟨m_8, hm_8, h⟩ := h
          exact r_sub [1, 2, 3, 4, 5, 0] rfl (ih_8 m_8 hm_8 _ _ _ h)
        · replace h := h.2 hc
          refine r_iload_n G dX5_weight_21 1 rfl rfl ?_
          refine r_iload G dX5_weight_22 5 rfl ?_
          refine r_cSR G [.int p1, .int x5_8] [] (c_X4_has (k_l Γ) (k_D Γ) _ _ _ h) (va_cwS 2 G.2.2.2.2.1 gX5_weight_X4_has rfl rfl rfl hd_X4_has ⟨Nat.le_of_ble_eq_true rfl, Nat.le_of_ble_eq_true rfl⟩) [] rfl (fun _ _ => k_E0) rfl rfl (Nat.le_of_ble_eq_true rfl) dX5_weight_24 (fun r_24 h => ?_)
          have hz_24 := h.1
          replace h := h.2
          refine r_if_eq G 54 dX5_weight_27 (by decide) (fun hc => ?_) (fun hc => ?_)
          · replace h := h.1 hc
            refine r_iinc (lv' := [(5, .int (x5_8 + (1 : Int32))), (0, .int p0), (1, .int p1), (2, .int p2), (3, .int x3_8), (4, .int x4_8)]) G 5 dX5_weight_54 kc_1 rfl (by decide) rfl ?_
            refine r_goto G 8 dX5_weight_57 (by decide) ?_
            obtain ⟨m_8, hm_8, h⟩ := h
            exact r_sub [1, 2, 3, 4, 5, 0] rfl (ih_8 m_8 hm_8 _ _ _ h)
          · replace h := h.2 hc
            refine r_iload_n G dX5_weight_30 3 rfl rfl ?_
            refine r_iload_n G dX5_weight_31 2 rfl rfl ?_
            refine r_iload G dX5_weight_32 5 rfl ?_
            refine r_cSR G [.int p2, .int x5_8] [.int x3_8] (c_X5_less (k_l Γ) (k_D Γ) _ _ _ h) (va_cwS 2 G.2.2.2.2.1 gX5_weight_X5_less rfl rfl rfl hd_X5_less ⟨Nat.le_of_ble_eq_true rfl, Nat.le_of_ble_eq_true rfl⟩) [] rfl (fun _ _ => k_E0) rfl rfl (Nat.le_of_ble_eq_true rfl) dX5_weight_34 (fun r_34 h => ?_)
            refine r_cSR G [.int x3_8, .int r_34] [] (c_X5_times (k_l Γ) (k_D Γ) _ _ _ h) (va_cwS 2 G.2.2.2.2.1 gX5_weight_X5_times rfl rfl rfl hd_X5_times ⟨Nat.le_of_ble_eq_true rfl, Nat.le_of_ble_eq_true rfl⟩) [] rfl (fun _ _ => k_E0) rfl rfl (Nat.le_of_ble_eq_true rfl) dX5_weight_37 (fun r_37 h => ?_)
            refine r_istore_n (lv' := [(3, .int r_37), (0, .int p0), (1, .int p1), (2, .int p2), (4, .int x4_8), (5, .int x5_8)]) G dX5_weight_40 rfl (by decide) rfl ?_
            refine r_iload G dX5_weight_41 4 rfl ?_
            refine r_iload_n G dX5_weight_43 1 rfl rfl ?_
            refine r_iload G dX5_weight_44 5 rfl ?_
            refine r_cSR G [.int p0, .int x5_8] [.int x4_8] (c_X5_less (k_l Γ) (k_D Γ) _ _ _ h) (va_cwS 2 G.2.2.2.2.1 gX5_weight_X5_less rfl rfl rfl hd_X5_less ⟨Nat.le_of_ble_eq_true rfl, Nat.le_of_ble_eq_true rfl⟩) [] rfl (fun _ _ => k_E0) rfl rfl (Nat.le_of_ble_eq_true rfl) dX5_weight_46 (fun r_46 h => ?_)
            refine r_cSR G [.int x4_8, .int r_46] [] (c_X5_times (k_l Γ) (k_D Γ) _ _ _ h) (va_cwS 2 G.2.2.2.2.1 gX5_weight_X5_times rfl rfl rfl hd_X5_times ⟨Nat.le_of_ble_eq_true rfl, Nat.le_of_ble_eq_true rfl⟩) [] rfl (fun _ _ => k_E0) rfl rfl (Nat.le_of_ble_eq_true rfl) dX5_weight_49 (fun r_49 h => ?_)
            refine r_istore (lv' := [(4, .int r_49), (3, .int r_37), (0, .int p0), (1, .int p1), (2, .int p2), (5, .int x5_8)]) G dX5_weight_52 (by decide) rfl ?_
            refine r_iinc (lv' := [(5, .int (x5_8 + (1 : Int32))), (4, .int r_49), (3, .int r_37), (0, .int p0), (1, .int p1), (2, .int p2)]) G 5 dX5_weight_54 kc_1 rfl (by decide) rfl ?_
            refine r_goto G 8 dX5_weight_57 (by decide) ?_
            obtain ⟨m_8, hm_8, h⟩ := h
            exact r_sub [3, 4, 5, 2, 1, 0] rfl (ih_8 m_8 hm_8 _ _ _ h)
  exact r_sub [3, 4, 5, 2, 1, 0] rfl (key_8 n_8 _ _ _ h)
abbrev rm_X4_lowest : Room := { frames := 1, cells := 0, slots := 0, locals := 21 }
def wp_X4_lowest (p0 p1 : Int32) (Q : Int32 → Prop) : Prop :=
  (k_lp3 (fun (B_7 : Int32 → Int32 → Int32 → Prop) (x2_7 : Int32) (x3_7 : Int32) (x4_7 : Int32) => (((7 : Int32) < x4_7 → Q x2_7) ∧ (¬ (7 : Int32) < x4_7 → ((x3_7 ≤ 0 → Q x2_7) ∧ (¬ x3_7 ≤ 0 → wp_X4_has p0 x4_7 (fun (r_21 : Int32) => ((r_21 = 0 → B_7 x2_7 x3_7 (x4_7 + (1 : Int32))) ∧ (¬ r_21 = 0 → wp_X4_only x4_7 (fun (r_30 : Int32) => B_7 (x2_7 ||| r_30) (x3_7 + (-1 : Int32)) (x4_7 + (1 : Int32))))))))))) (0 : Int32) p1 (1 : Int32))
theorem hd_X4_lowest : yX4_lowest.cls ≠ "java/lang/invoke/MethodHandle" ∧ yX4_lowest.cls ≠ "java/lang/invoke/VarHandle" ∧ (parseMethodDescriptor yX4_lowest.desc).map (fun d => d.parameters.length) = some 2 := by decide +kernel
theorem hdv_X4_lowest : yX4_lowest.cls = RX4 ∧ yX4_lowest.cls ≠ "java/lang/invoke/MethodHandle" ∧ yX4_lowest.cls ≠ "java/lang/invoke/VarHandle" ∧ (parseMethodDescriptor yX4_lowest.desc).map (fun d => d.parameters.length) = some 2 := ⟨rfl, hd_X4_lowest⟩
set_option maxHeartbeats 4000000 in
set_option maxRecDepth 100000 in
theorem c_X4_lowest (l : Launch) (D : va_G)  (p0 p1 : Int32) (Q : Int32 → Prop) (h : wp_X4_lowest p0 p1 Q) : Met l yX4_lowest wsX4_lowest rm_X4_lowest (k_PR D [] wE k_0 [.int p0, .int p1]) (vp_Si Q) 0 0 (fun _ => False) := by
  refine k_metR (by decide) rfl (Nat.le_of_ble_eq_true rfl) ?_
  intro Γ G E
  unfold wp_X4_lowest at h
  show k_J Γ rm_X4_lowest 5 true wE 0 [(0, .int p0), (1, .int p1)] [] k_0
  refine r_iconst G (0 : Int32) dX4_lowest_0 kc_0 ?_
  refine r_istore_n (lv' := [(2, .int (0 : Int32)), (0, .int p0), (1, .int p1)]) G dX4_lowest_1 rfl (by decide) rfl ?_
  refine r_iload_n G dX4_lowest_2 2 rfl rfl ?_
  refine r_istore_n (lv' := [(3, .int p1), (2, .int (0 : Int32)), (0, .int p0), (1, .int p1)]) G dX4_lowest_3 rfl (by decide) rfl ?_
  refine r_iconst G (1 : Int32) dX4_lowest_4 kc_1 ?_
  refine r_istore (lv' := [(4, .int (1 : Int32)), (3, .int p1), (2, .int (0 : Int32)), (0, .int p0), (1, .int p1)]) G dX4_lowest_5 (by decide) rfl ?_
  obtain ⟨I_7, n_7, h, hI_7⟩ := h
  have key_7 : ∀ (n : Nat) (x2_7 : Int32) (x3_7 : Int32) (x4_7 : Int32), I_7 n x2_7 x3_7 x4_7 → k_J Γ rm_X4_lowest 5 true wE 7 [(0, .int p0), (2, .int x2_7), (3, .int x3_7), (4, .int x4_7)] [] k_0 := by
    intro n
    induction n using Nat.strongRecOn with
    | ind n ih_7 =>
      intro x2_7 x3_7 x4_7 h
      replace h := hI_7 n x2_7 x3_7 x4_7 h
      refine r_iload G dX4_lowest_7 3 rfl ?_
      refine r_bipush G (7 : Int32) dX4_lowest_9 kb_7 ?_
      refine r_icmp_gt G 44 dX4_lowest_11 (by decide) (fun hc => ?_) (fun hc => ?_)
      · replace h := h.1 hc
        refine r_iload_n G dX4_lowest_44 1 rfl rfl ?_
        exact r_iretR G E dX4_lowest_45 h
      · replace h := h.2 hc
        refine r_iload_n G dX4_lowest_14 2 rfl rfl ?_
        refine r_if_le G 44 dX4_lowest_15 (by decide) (fun hc => ?_) (fun hc => ?_)
        · replace h := h.1 hc
          refine r_iload_n G dX4_lowest_44 1 rfl rfl ?_
          exact r_iretR G E dX4_lowest_45 h
        · replace h := h.2 hc
          refine r_iload_n G dX4_lowest_18 0 rfl rfl ?_
          refine r_iload G dX4_lowest_19 3 rfl ?_
          refine r_cSR G [.int p0, .int x4_7] [] (c_X4_has (k_l Γ) (k_D Γ) _ _ _ h) (va_cwS 2 G.2.2.2.2.1 gX4_lowest_X4_has rfl rfl rfl hd_X4_has ⟨Nat.le_of_ble_eq_true rfl, Nat.le_of_ble_eq_true rfl⟩) [] rfl (fun _ _ => k_E0) rfl rfl (Nat.le_of_ble_eq_true rfl) dX4_lowest_21 (fun r_21 h => ?_)
          have hz_21 := h.1
          replace h := h.2
          refine r_if_eq G 38 dX4_lowest_24 (by decide) (fun hc => ?_) (fun hc => ?_)
          · replace h := h.1 hc
            refine r_iinc (lv' := [(4, .int (x4_7 + (1 : Int32))), (0, .int p0), (2, .int x2_7), (3, .int x3_7)]) G 3 dX4_lowest_38 kc_1 rfl (by decide) rfl ?_
            refine r_goto G 7 dX4_lowest_41 (by decide) ?_
            obtain ⟨m_7, hm_7, h⟩ := h
            exact r_sub [1, 2, 3, 0] rfl (ih_7 m_7 hm_7 _ _ _ h)
          · replace h := h.2 hc
            refine r_iload_n G dX4_lowest_27 1 rfl rfl ?_
            refine r_iload G dX4_lowest_28 3 rfl ?_
            refine r_cSR G [.int x4_7] [.int x2_7] (c_X4_only (k_l Γ) (k_D Γ) _ _ h) (va_cwS 1 G.2.2.2.2.1 gX4_lowest_X4_only rfl rfl rfl hd_X4_only ⟨Nat.le_of_ble_eq_true rfl, Nat.le_of_ble_eq_true rfl⟩) [] rfl (fun _ _ => k_E0) rfl rfl (Nat.le_of_ble_eq_true rfl) dX4_lowest_30 (fun r_30 h => ?_)
            refine r_ior G dX4_lowest_33 ?_
            refine r_istore_n (lv' := [(2, .int (x2_7 ||| r_30)), (0, .int p0), (3, .int x3_7), (4, .int x4_7)]) G dX4_lowest_34 rfl (by decide) rfl ?_
            refine r_iinc (lv' := [(3, .int (x3_7 + (-1 : Int32))), (2, .int (x2_7 ||| r_30)), (0, .int p0), (4, .int x4_7)]) G 2 dX4_lowest_35 kc_m1 rfl (by decide) rfl ?_
            refine r_iinc (lv' := [(4, .int (x4_7 + (1 : Int32))), (3, .int (x3_7 + (-1 : Int32))), (2, .int (x2_7 ||| r_30)), (0, .int p0)]) G 3 dX4_lowest_38 kc_1 rfl (by decide) rfl ?_
            refine r_goto G 7 dX4_lowest_41 (by decide) ?_
            obtain ⟨m_7, hm_7, h⟩ := h
            exact r_sub [3, 2, 1, 0] rfl (ih_7 m_7 hm_7 _ _ _ h)
  exact r_sub [3, 2, 1, 0] rfl (key_7 n_7 _ _ _ h)
abbrev rm_X6_isMember : Room := { frames := 0, cells := 0, slots := 0, locals := 0 }
def wp_X6_isMember (p0 : Int32) (Q : Int32 → Prop) : Prop :=
  ((p0 < (1 : Int32) → Q (0 : Int32)) ∧ (¬ p0 < (1 : Int32) → (((7 : Int32) < p0 → Q (0 : Int32)) ∧ (¬ (7 : Int32) < p0 → Q (1 : Int32)))))
theorem hd_X6_isMember : yX6_isMember.cls ≠ "java/lang/invoke/MethodHandle" ∧ yX6_isMember.cls ≠ "java/lang/invoke/VarHandle" ∧ (parseMethodDescriptor yX6_isMember.desc).map (fun d => d.parameters.length) = some 1 := by decide +kernel
theorem hdv_X6_isMember : yX6_isMember.cls = RX6 ∧ yX6_isMember.cls ≠ "java/lang/invoke/MethodHandle" ∧ yX6_isMember.cls ≠ "java/lang/invoke/VarHandle" ∧ (parseMethodDescriptor yX6_isMember.desc).map (fun d => d.parameters.length) = some 1 := ⟨rfl, hd_X6_isMember⟩
set_option maxHeartbeats 4000000 in
set_option maxRecDepth 100000 in
theorem c_X6_isMember (l : Launch) (D : va_G)  (p0 : Int32) (Q : Int32 → Prop) (h : wp_X6_isMember p0 Q) : Met l yX6_isMember wsX6_isMember rm_X6_isMember (k_PR D [] wE k_0 [.int p0]) (vp_Si (fun r => (r = 0 ∨ r = 1) ∧ Q r)) 0 0 (fun _ => False) := by
  refine k_metR (by decide) rfl (Nat.le_of_ble_eq_true rfl) ?_
  intro Γ G E
  unfold wp_X6_isMember at h
  show k_J Γ rm_X6_isMember 1 true wE 0 [(0, .int p0)] [] k_0
  refine r_iload_n G dX6_isMember_0 0 rfl rfl ?_
  refine r_iconst G (1 : Int32) dX6_isMember_1 kc_1 ?_
  refine r_icmp_lt G 15 dX6_isMember_2 (by decide) (fun hc => ?_) (fun hc => ?_)
  · replace h := h.1 hc
    refine r_iconst G (0 : Int32) dX6_isMember_15 kc_0 ?_
    exact r_zretR G E kz_0 dX6_isMember_16 ⟨kzo_0, h⟩
  · replace h := h.2 hc
    refine r_iload_n G dX6_isMember_5 0 rfl rfl ?_
    refine r_bipush G (7 : Int32) dX6_isMember_6 kb_7 ?_
    refine r_icmp_gt G 15 dX6_isMember_8 (by decide) (fun hc => ?_) (fun hc => ?_)
    · replace h := h.1 hc
      refine r_iconst G (0 : Int32) dX6_isMember_15 kc_0 ?_
      exact r_zretR G E kz_0 dX6_isMember_16 ⟨kzo_0, h⟩
    · replace h := h.2 hc
      refine r_iconst G (1 : Int32) dX6_isMember_11 kc_1 ?_
      refine r_goto G 16 dX6_isMember_12 (by decide) ?_
      exact r_zretR G E kz_1 dX6_isMember_16 ⟨kzo_1, h⟩
abbrev rm_X3_isLetter : Room := { frames := 0, cells := 0, slots := 0, locals := 0 }
def wp_X3_isLetter (p0 : Int32) (Q : Int32 → Prop) : Prop :=
  ((p0 = (98 : Int32) → Q (1 : Int32)) ∧ (¬ p0 = (98 : Int32) → ((p0 = (99 : Int32) → Q (0 : Int32)) ∧ (¬ p0 = (99 : Int32) → ((p0 = (100 : Int32) → Q (1 : Int32)) ∧ (¬ p0 = (100 : Int32) → ((p0 = (101 : Int32) → Q (0 : Int32)) ∧ (¬ p0 = (101 : Int32) → ((p0 = (102 : Int32) → Q (1 : Int32)) ∧ (¬ p0 = (102 : Int32) → ((p0 = (103 : Int32) → Q (0 : Int32)) ∧ (¬ p0 = (103 : Int32) → ((p0 = (104 : Int32) → Q (0 : Int32)) ∧ (¬ p0 = (104 : Int32) → ((p0 = (105 : Int32) → Q (0 : Int32)) ∧ (¬ p0 = (105 : Int32) → ((p0 = (106 : Int32) → Q (0 : Int32)) ∧ (¬ p0 = (106 : Int32) → ((p0 = (107 : Int32) → Q (0 : Int32)) ∧ (¬ p0 = (107 : Int32) → ((p0 = (108 : Int32) → Q (0 : Int32)) ∧ (¬ p0 = (108 : Int32) → ((p0 = (109 : Int32) → Q (0 : Int32)) ∧ (¬ p0 = (109 : Int32) → ((p0 = (110 : Int32) → Q (0 : Int32)) ∧ (¬ p0 = (110 : Int32) → ((p0 = (111 : Int32) → Q (1 : Int32)) ∧ (¬ p0 = (111 : Int32) → ((p0 = (112 : Int32) → Q (0 : Int32)) ∧ (¬ p0 = (112 : Int32) → ((p0 = (113 : Int32) → Q (0 : Int32)) ∧ (¬ p0 = (113 : Int32) → ((p0 = (114 : Int32) → Q (0 : Int32)) ∧ (¬ p0 = (114 : Int32) → ((p0 = (115 : Int32) → Q (1 : Int32)) ∧ (¬ p0 = (115 : Int32) → ((p0 = (116 : Int32) → Q (1 : Int32)) ∧ (¬ p0 = (116 : Int32) → ((p0 = (117 : Int32) → Q (0 : Int32)) ∧ (¬ p0 = (117 : Int32) → ((p0 = (118 : Int32) → Q (0 : Int32)) ∧ (¬ p0 = (118 : Int32) → ((p0 = (119 : Int32) → Q (1 : Int32)) ∧ (¬ p0 = (119 : Int32) → Q (0 : Int32)))))))))))))))))))))))))))))))))))))))))))))
theorem hd_X3_isLetter : yX3_isLetter.cls ≠ "java/lang/invoke/MethodHandle" ∧ yX3_isLetter.cls ≠ "java/lang/invoke/VarHandle" ∧ (parseMethodDescriptor yX3_isLetter.desc).map (fun d => d.parameters.length) = some 1 := by decide +kernel
theorem hdv_X3_isLetter : yX3_isLetter.cls = RX3 ∧ yX3_isLetter.cls ≠ "java/lang/invoke/MethodHandle" ∧ yX3_isLetter.cls ≠ "java/lang/invoke/VarHandle" ∧ (parseMethodDescriptor yX3_isLetter.desc).map (fun d => d.parameters.length) = some 1 := ⟨rfl, hd_X3_isLetter⟩
set_option maxHeartbeats 4000000 in
set_option maxRecDepth 100000 in
theorem c_X3_isLetter (l : Launch) (D : va_G)  (p0 : Int32) (Q : Int32 → Prop) (h : wp_X3_isLetter p0 Q) : Met l yX3_isLetter wsX3_isLetter rm_X3_isLetter (k_PR D [] wE k_0 [.int p0]) (vp_Si (fun r => (r = 0 ∨ r = 1) ∧ Q r)) 0 0 (fun _ => False) := by
  refine k_metR (by decide) rfl (Nat.le_of_ble_eq_true rfl) ?_
  intro Γ G E
  unfold wp_X3_isLetter at h
  show k_J Γ rm_X3_isLetter 1 true wE 0 [(0, .int p0)] [] k_0
  refine r_iload_n G dX3_isLetter_0 0 rfl rfl ?_
  rcases Classical.em (p0 = (98 : Int32)) with hs_0 | hs_0
  · replace h := h.1 hs_0
    refine r_tableIn G 104 dX3_isLetter_1 98 (khit hs_0 kt_98) (by decide) (by decide) (off := 103) rfl (by decide) ?_
    refine r_iconst G (1 : Int32) dX3_isLetter_104 kc_1 ?_
    exact r_zretR G E kz_1 dX3_isLetter_105 ⟨kzo_1, h⟩
  replace h := h.2 hs_0
  rcases Classical.em (p0 = (99 : Int32)) with hs_1 | hs_1
  · replace h := h.1 hs_1
    refine r_tableIn G 106 dX3_isLetter_1 99 (khit hs_1 kt_99) (by decide) (by decide) (off := 105) rfl (by decide) ?_
    refine r_iconst G (0 : Int32) dX3_isLetter_106 kc_0 ?_
    exact r_zretR G E kz_0 dX3_isLetter_107 ⟨kzo_0, h⟩
  replace h := h.2 hs_1
  rcases Classical.em (p0 = (100 : Int32)) with hs_2 | hs_2
  · replace h := h.1 hs_2
    refine r_tableIn G 104 dX3_isLetter_1 100 (khit hs_2 kt_100) (by decide) (by decide) (off := 103) rfl (by decide) ?_
    refine r_iconst G (1 : Int32) dX3_isLetter_104 kc_1 ?_
    exact r_zretR G E kz_1 dX3_isLetter_105 ⟨kzo_1, h⟩
  replace h := h.2 hs_2
  rcases Classical.em (p0 = (101 : Int32)) with hs_3 | hs_3
  · replace h := h.1 hs_3
    refine r_tableIn G 106 dX3_isLetter_1 101 (khit hs_3 kt_101) (by decide) (by decide) (off := 105) rfl (by decide) ?_
    refine r_iconst G (0 : Int32) dX3_isLetter_106 kc_0 ?_
    exact r_zretR G E kz_0 dX3_isLetter_107 ⟨kzo_0, h⟩
  replace h := h.2 hs_3
  rcases Classical.em (p0 = (102 : Int32)) with hs_4 | hs_4
  · replace h := h.1 hs_4
    refine r_tableIn G 104 dX3_isLetter_1 102 (khit hs_4 kt_102) (by decide) (by decide) (off := 103) rfl (by decide) ?_
    refine r_iconst G (1 : Int32) dX3_isLetter_104 kc_1 ?_
    exact r_zretR G E kz_1 dX3_isLetter_105 ⟨kzo_1, h⟩
  replace h := h.2 hs_4
  rcases Classical.em (p0 = (103 : Int32)) with hs_5 | hs_5
  · replace h := h.1 hs_5
    refine r_tableIn G 106 dX3_isLetter_1 103 (khit hs_5 kt_103) (by decide) (by decide) (off := 105) rfl (by decide) ?_
    refine r_iconst G (0 : Int32) dX3_isLetter_106 kc_0 ?_
    exact r_zretR G E kz_0 dX3_isLetter_107 ⟨kzo_0, h⟩
  replace h := h.2 hs_5
  rcases Classical.em (p0 = (104 : Int32)) with hs_6 | hs_6
  · replace h := h.1 hs_6
    refine r_tableIn G 106 dX3_isLetter_1 104 (khit hs_6 kt_104) (by decide) (by decide) (off := 105) rfl (by decide) ?_
    refine r_iconst G (0 : Int32) dX3_isLetter_106 kc_0 ?_
    exact r_zretR G E kz_0 dX3_isLetter_107 ⟨kzo_0, h⟩
  replace h := h.2 hs_6
  rcases Classical.em (p0 = (105 : Int32)) with hs_7 | hs_7
  · replace h := h.1 hs_7
    refine r_tableIn G 106 dX3_isLetter_1 105 (khit hs_7 kt_105) (by decide) (by decide) (off := 105) rfl (by decide) ?_
    refine r_iconst G (0 : Int32) dX3_isLetter_106 kc_0 ?_
    exact r_zretR G E kz_0 dX3_isLetter_107 ⟨kzo_0, h⟩
  replace h := h.2 hs_7
  rcases Classical.em (p0 = (106 : Int32)) with hs_8 | hs_8
  · replace h := h.1 hs_8
    refine r_tableIn G 106 dX3_isLetter_1 106 (khit hs_8 kt_106) (by decide) (by decide) (off := 105) rfl (by decide) ?_
    refine r_iconst G (0 : Int32) dX3_isLetter_106 kc_0 ?_
    exact r_zretR G E kz_0 dX3_isLetter_107 ⟨kzo_0, h⟩
  replace h := h.2 hs_8
  rcases Classical.em (p0 = (107 : Int32)) with hs_9 | hs_9
  · replace h := h.1 hs_9
    refine r_tableIn G 106 dX3_isLetter_1 107 (khit hs_9 kt_107) (by decide) (by decide) (off := 105) rfl (by decide) ?_
    refine r_iconst G (0 : Int32) dX3_isLetter_106 kc_0 ?_
    exact r_zretR G E kz_0 dX3_isLetter_107 ⟨kzo_0, h⟩
  replace h := h.2 hs_9
  rcases Classical.em (p0 = (108 : Int32)) with hs_10 | hs_10
  · replace h := h.1 hs_10
    refine r_tableIn G 106 dX3_isLetter_1 108 (khit hs_10 kt_108) (by decide) (by decide) (off := 105) rfl (by decide) ?_
    refine r_iconst G (0 : Int32) dX3_isLetter_106 kc_0 ?_
    exact r_zretR G E kz_0 dX3_isLetter_107 ⟨kzo_0, h⟩
  replace h := h.2 hs_10
  rcases Classical.em (p0 = (109 : Int32)) with hs_11 | hs_11
  · replace h := h.1 hs_11
    refine r_tableIn G 106 dX3_isLetter_1 109 (khit hs_11 kt_109) (by decide) (by decide) (off := 105) rfl (by decide) ?_
    refine r_iconst G (0 : Int32) dX3_isLetter_106 kc_0 ?_
    exact r_zretR G E kz_0 dX3_isLetter_107 ⟨kzo_0, h⟩
  replace h := h.2 hs_11
  rcases Classical.em (p0 = (110 : Int32)) with hs_12 | hs_12
  · replace h := h.1 hs_12
    refine r_tableIn G 106 dX3_isLetter_1 110 (khit hs_12 kt_110) (by decide) (by decide) (off := 105) rfl (by decide) ?_
    refine r_iconst G (0 : Int32) dX3_isLetter_106 kc_0 ?_
    exact r_zretR G E kz_0 dX3_isLetter_107 ⟨kzo_0, h⟩
  replace h := h.2 hs_12
  rcases Classical.em (p0 = (111 : Int32)) with hs_13 | hs_13
  · replace h := h.1 hs_13
    refine r_tableIn G 104 dX3_isLetter_1 111 (khit hs_13 kt_111) (by decide) (by decide) (off := 103) rfl (by decide) ?_
    refine r_iconst G (1 : Int32) dX3_isLetter_104 kc_1 ?_
    exact r_zretR G E kz_1 dX3_isLetter_105 ⟨kzo_1, h⟩
  replace h := h.2 hs_13
  rcases Classical.em (p0 = (112 : Int32)) with hs_14 | hs_14
  · replace h := h.1 hs_14
    refine r_tableIn G 106 dX3_isLetter_1 112 (khit hs_14 kt_112) (by decide) (by decide) (off := 105) rfl (by decide) ?_
    refine r_iconst G (0 : Int32) dX3_isLetter_106 kc_0 ?_
    exact r_zretR G E kz_0 dX3_isLetter_107 ⟨kzo_0, h⟩
  replace h := h.2 hs_14
  rcases Classical.em (p0 = (113 : Int32)) with hs_15 | hs_15
  · replace h := h.1 hs_15
    refine r_tableIn G 106 dX3_isLetter_1 113 (khit hs_15 kt_113) (by decide) (by decide) (off := 105) rfl (by decide) ?_
    refine r_iconst G (0 : Int32) dX3_isLetter_106 kc_0 ?_
    exact r_zretR G E kz_0 dX3_isLetter_107 ⟨kzo_0, h⟩
  replace h := h.2 hs_15
  rcases Classical.em (p0 = (114 : Int32)) with hs_16 | hs_16
  · replace h := h.1 hs_16
    refine r_tableIn G 106 dX3_isLetter_1 114 (khit hs_16 kt_114) (by decide) (by decide) (off := 105) rfl (by decide) ?_
    refine r_iconst G (0 : Int32) dX3_isLetter_106 kc_0 ?_
    exact r_zretR G E kz_0 dX3_isLetter_107 ⟨kzo_0, h⟩
  replace h := h.2 hs_16
  rcases Classical.em (p0 = (115 : Int32)) with hs_17 | hs_17
  · replace h := h.1 hs_17
    refine r_tableIn G 104 dX3_isLetter_1 115 (khit hs_17 kt_115) (by decide) (by decide) (off := 103) rfl (by decide) ?_
    refine r_iconst G (1 : Int32) dX3_isLetter_104 kc_1 ?_
    exact r_zretR G E kz_1 dX3_isLetter_105 ⟨kzo_1, h⟩
  replace h := h.2 hs_17
  rcases Classical.em (p0 = (116 : Int32)) with hs_18 | hs_18
  · replace h := h.1 hs_18
    refine r_tableIn G 104 dX3_isLetter_1 116 (khit hs_18 kt_116) (by decide) (by decide) (off := 103) rfl (by decide) ?_
    refine r_iconst G (1 : Int32) dX3_isLetter_104 kc_1 ?_
    exact r_zretR G E kz_1 dX3_isLetter_105 ⟨kzo_1, h⟩
  replace h := h.2 hs_18
  rcases Classical.em (p0 = (117 : Int32)) with hs_19 | hs_19
  · replace h := h.1 hs_19
    refine r_tableIn G 106 dX3_isLetter_1 117 (khit hs_19 kt_117) (by decide) (by decide) (off := 105) rfl (by decide) ?_
    refine r_iconst G (0 : Int32) dX3_isLetter_106 kc_0 ?_
    exact r_zretR G E kz_0 dX3_isLetter_107 ⟨kzo_0, h⟩
  replace h := h.2 hs_19
  rcases Classical.em (p0 = (118 : Int32)) with hs_20 | hs_20
  · replace h := h.1 hs_20
    refine r_tableIn G 106 dX3_isLetter_1 118 (khit hs_20 kt_118) (by decide) (by decide) (off := 105) rfl (by decide) ?_
    refine r_iconst G (0 : Int32) dX3_isLetter_106 kc_0 ?_
    exact r_zretR G E kz_0 dX3_isLetter_107 ⟨kzo_0, h⟩
  replace h := h.2 hs_20
  rcases Classical.em (p0 = (119 : Int32)) with hs_21 | hs_21
  · replace h := h.1 hs_21
    refine r_tableIn G 104 dX3_isLetter_1 119 (khit hs_21 kt_119) (by decide) (by decide) (off := 103) rfl (by decide) ?_
    refine r_iconst G (1 : Int32) dX3_isLetter_104 kc_1 ?_
    exact r_zretR G E kz_1 dX3_isLetter_105 ⟨kzo_1, h⟩
  replace h := h.2 hs_21
  refine r_tableOut G 106 dX3_isLetter_1 (by have z0 := lv_neT hs_0 kt_98; have z1 := lv_neT hs_1 kt_99; have z2 := lv_neT hs_2 kt_100; have z3 := lv_neT hs_3 kt_101; have z4 := lv_neT hs_4 kt_102; have z5 := lv_neT hs_5 kt_103; have z6 := lv_neT hs_6 kt_104; have z7 := lv_neT hs_7 kt_105; have z8 := lv_neT hs_8 kt_106; have z9 := lv_neT hs_9 kt_107; have z10 := lv_neT hs_10 kt_108; have z11 := lv_neT hs_11 kt_109; have z12 := lv_neT hs_12 kt_110; have z13 := lv_neT hs_13 kt_111; have z14 := lv_neT hs_14 kt_112; have z15 := lv_neT hs_15 kt_113; have z16 := lv_neT hs_16 kt_114; have z17 := lv_neT hs_17 kt_115; have z18 := lv_neT hs_18 kt_116; have z19 := lv_neT hs_19 kt_117; have z20 := lv_neT hs_20 kt_118; have z21 := lv_neT hs_21 kt_119; omega) (by decide) ?_
  refine r_iconst G (0 : Int32) dX3_isLetter_106 kc_0 ?_
  exact r_zretR G E kz_0 dX3_isLetter_107 ⟨kzo_0, h⟩
abbrev rm_X6_highestBend : Room := { frames := 0, cells := 0, slots := 0, locals := 0 }
def wp_X6_highestBend (p0 : Int32) (Q : Int32 → Prop) : Prop :=
  ((p0 = 0 → Q (22 : Int32)) ∧ (¬ p0 = 0 → ((p0 = (1 : Int32) → Q (22 : Int32)) ∧ (¬ p0 = (1 : Int32) → ((p0 = (2 : Int32) → Q (7 : Int32)) ∧ (¬ p0 = (2 : Int32) → ((p0 = (3 : Int32) → Q (7 : Int32)) ∧ (¬ p0 = (3 : Int32) → Q (1 : Int32)))))))))
theorem hd_X6_highestBend : yX6_highestBend.cls ≠ "java/lang/invoke/MethodHandle" ∧ yX6_highestBend.cls ≠ "java/lang/invoke/VarHandle" ∧ (parseMethodDescriptor yX6_highestBend.desc).map (fun d => d.parameters.length) = some 1 := by decide +kernel
theorem hdv_X6_highestBend : yX6_highestBend.cls = RX6 ∧ yX6_highestBend.cls ≠ "java/lang/invoke/MethodHandle" ∧ yX6_highestBend.cls ≠ "java/lang/invoke/VarHandle" ∧ (parseMethodDescriptor yX6_highestBend.desc).map (fun d => d.parameters.length) = some 1 := ⟨rfl, hd_X6_highestBend⟩
set_option maxHeartbeats 4000000 in
set_option maxRecDepth 100000 in
theorem c_X6_highestBend (l : Launch) (D : va_G)  (p0 : Int32) (Q : Int32 → Prop) (h : wp_X6_highestBend p0 Q) : Met l yX6_highestBend wsX6_highestBend rm_X6_highestBend (k_PR D [] wE k_0 [.int p0]) (vp_Si Q) 0 0 (fun _ => False) := by
  refine k_metR (by decide) rfl (Nat.le_of_ble_eq_true rfl) ?_
  intro Γ G E
  unfold wp_X6_highestBend at h
  show k_J Γ rm_X6_highestBend 1 true wE 0 [(0, .int p0)] [] k_0
  refine r_iload_n G dX6_highestBend_0 0 rfl rfl ?_
  refine r_if_eq G 9 dX6_highestBend_1 (by decide) (fun hc => ?_) (fun hc => ?_)
  · replace h := h.1 hc
    refine r_bipush G (22 : Int32) dX6_highestBend_9 kb_22 ?_
    exact r_iretR G E dX6_highestBend_11 h
  · replace h := h.2 hc
    refine r_iload_n G dX6_highestBend_4 0 rfl rfl ?_
    refine r_iconst G (1 : Int32) dX6_highestBend_5 kc_1 ?_
    refine r_icmp_ne G 12 dX6_highestBend_6 (by decide) (fun hc => ?_) (fun hc => ?_)
    · replace h := h.2 hc
      refine r_iload_n G dX6_highestBend_12 0 rfl rfl ?_
      refine r_iconst G (2 : Int32) dX6_highestBend_13 kc_2 ?_
      refine r_icmp_eq G 22 dX6_highestBend_14 (by decide) (fun hc => ?_) (fun hc => ?_)
      · replace h := h.1 hc
        refine r_bipush G (7 : Int32) dX6_highestBend_22 kb_7 ?_
        refine r_goto G 28 dX6_highestBend_24 (by decide) ?_
        exact r_iretR G E dX6_highestBend_28 h
      · replace h := h.2 hc
        refine r_iload_n G dX6_highestBend_17 0 rfl rfl ?_
        refine r_iconst G (3 : Int32) dX6_highestBend_18 kc_3 ?_
        refine r_icmp_ne G 27 dX6_highestBend_19 (by decide) (fun hc => ?_) (fun hc => ?_)
        · replace h := h.2 hc
          refine r_iconst G (1 : Int32) dX6_highestBend_27 kc_1 ?_
          exact r_iretR G E dX6_highestBend_28 h
        · replace h := h.1 hc
          refine r_bipush G (7 : Int32) dX6_highestBend_22 kb_7 ?_
          refine r_goto G 28 dX6_highestBend_24 (by decide) ?_
          exact r_iretR G E dX6_highestBend_28 h
    · replace h := h.1 hc
      refine r_bipush G (22 : Int32) dX6_highestBend_9 kb_22 ?_
      exact r_iretR G E dX6_highestBend_11 h
abbrev rm_X6_isValue : Room := { frames := 0, cells := 0, slots := 0, locals := 0 }
def wp_X6_isValue (p0 : Int32) (Q : Int32 → Prop) : Prop :=
  ((p0 < 0 → Q (0 : Int32)) ∧ (¬ p0 < 0 → (((23 : Int32) ≤ p0 → Q (0 : Int32)) ∧ (¬ (23 : Int32) ≤ p0 → Q (1 : Int32)))))
theorem hd_X6_isValue : yX6_isValue.cls ≠ "java/lang/invoke/MethodHandle" ∧ yX6_isValue.cls ≠ "java/lang/invoke/VarHandle" ∧ (parseMethodDescriptor yX6_isValue.desc).map (fun d => d.parameters.length) = some 1 := by decide +kernel
theorem hdv_X6_isValue : yX6_isValue.cls = RX6 ∧ yX6_isValue.cls ≠ "java/lang/invoke/MethodHandle" ∧ yX6_isValue.cls ≠ "java/lang/invoke/VarHandle" ∧ (parseMethodDescriptor yX6_isValue.desc).map (fun d => d.parameters.length) = some 1 := ⟨rfl, hd_X6_isValue⟩
set_option maxHeartbeats 4000000 in
set_option maxRecDepth 100000 in
theorem c_X6_isValue (l : Launch) (D : va_G)  (p0 : Int32) (Q : Int32 → Prop) (h : wp_X6_isValue p0 Q) : Met l yX6_isValue wsX6_isValue rm_X6_isValue (k_PR D [] wE k_0 [.int p0]) (vp_Si (fun r => (r = 0 ∨ r = 1) ∧ Q r)) 0 0 (fun _ => False) := by
  refine k_metR (by decide) rfl (Nat.le_of_ble_eq_true rfl) ?_
  intro Γ G E
  unfold wp_X6_isValue at h
  show k_J Γ rm_X6_isValue 1 true wE 0 [(0, .int p0)] [] k_0
  refine r_iload_n G dX6_isValue_0 0 rfl rfl ?_
  refine r_if_lt G 14 dX6_isValue_1 (by decide) (fun hc => ?_) (fun hc => ?_)
  · replace h := h.1 hc
    refine r_iconst G (0 : Int32) dX6_isValue_14 kc_0 ?_
    exact r_zretR G E kz_0 dX6_isValue_15 ⟨kzo_0, h⟩
  · replace h := h.2 hc
    refine r_iload_n G dX6_isValue_4 0 rfl rfl ?_
    refine r_bipush G (23 : Int32) dX6_isValue_5 kb_23 ?_
    refine r_icmp_ge G 14 dX6_isValue_7 (by decide) (fun hc => ?_) (fun hc => ?_)
    · replace h := h.1 hc
      refine r_iconst G (0 : Int32) dX6_isValue_14 kc_0 ?_
      exact r_zretR G E kz_0 dX6_isValue_15 ⟨kzo_0, h⟩
    · replace h := h.2 hc
      refine r_iconst G (1 : Int32) dX6_isValue_10 kc_1 ?_
      refine r_goto G 15 dX6_isValue_11 (by decide) ?_
      exact r_zretR G E kz_1 dX6_isValue_15 ⟨kzo_1, h⟩
abbrev rm_X7_leastOf : Room := { frames := 0, cells := 0, slots := 0, locals := 0 }
def wp_X7_leastOf (p0 : Int32) (Q : Int32 → Prop) : Prop :=
  ((p0 = (98 : Int32) → Q (3 : Int32)) ∧ (¬ p0 = (98 : Int32) → ((p0 = (99 : Int32) → Q (0 : Int32)) ∧ (¬ p0 = (99 : Int32) → ((p0 = (100 : Int32) → Q (2 : Int32)) ∧ (¬ p0 = (100 : Int32) → ((p0 = (101 : Int32) → Q (0 : Int32)) ∧ (¬ p0 = (101 : Int32) → ((p0 = (102 : Int32) → Q (1 : Int32)) ∧ (¬ p0 = (102 : Int32) → ((p0 = (103 : Int32) → Q (0 : Int32)) ∧ (¬ p0 = (103 : Int32) → ((p0 = (104 : Int32) → Q (0 : Int32)) ∧ (¬ p0 = (104 : Int32) → ((p0 = (105 : Int32) → Q (0 : Int32)) ∧ (¬ p0 = (105 : Int32) → ((p0 = (106 : Int32) → Q (0 : Int32)) ∧ (¬ p0 = (106 : Int32) → ((p0 = (107 : Int32) → Q (0 : Int32)) ∧ (¬ p0 = (107 : Int32) → ((p0 = (108 : Int32) → Q (0 : Int32)) ∧ (¬ p0 = (108 : Int32) → ((p0 = (109 : Int32) → Q (0 : Int32)) ∧ (¬ p0 = (109 : Int32) → ((p0 = (110 : Int32) → Q (0 : Int32)) ∧ (¬ p0 = (110 : Int32) → ((p0 = (111 : Int32) → Q (2 : Int32)) ∧ (¬ p0 = (111 : Int32) → ((p0 = (112 : Int32) → Q (0 : Int32)) ∧ (¬ p0 = (112 : Int32) → ((p0 = (113 : Int32) → Q (0 : Int32)) ∧ (¬ p0 = (113 : Int32) → ((p0 = (114 : Int32) → Q (0 : Int32)) ∧ (¬ p0 = (114 : Int32) → ((p0 = (115 : Int32) → Q (2 : Int32)) ∧ (¬ p0 = (115 : Int32) → ((p0 = (116 : Int32) → Q (3 : Int32)) ∧ (¬ p0 = (116 : Int32) → ((p0 = (117 : Int32) → Q (0 : Int32)) ∧ (¬ p0 = (117 : Int32) → ((p0 = (118 : Int32) → Q (0 : Int32)) ∧ (¬ p0 = (118 : Int32) → ((p0 = (119 : Int32) → Q (2 : Int32)) ∧ (¬ p0 = (119 : Int32) → Q (0 : Int32)))))))))))))))))))))))))))))))))))))))))))))
theorem hd_X7_leastOf : yX7_leastOf.cls ≠ "java/lang/invoke/MethodHandle" ∧ yX7_leastOf.cls ≠ "java/lang/invoke/VarHandle" ∧ (parseMethodDescriptor yX7_leastOf.desc).map (fun d => d.parameters.length) = some 1 := by decide +kernel
theorem hdv_X7_leastOf : yX7_leastOf.cls = RX7 ∧ yX7_leastOf.cls ≠ "java/lang/invoke/MethodHandle" ∧ yX7_leastOf.cls ≠ "java/lang/invoke/VarHandle" ∧ (parseMethodDescriptor yX7_leastOf.desc).map (fun d => d.parameters.length) = some 1 := ⟨rfl, hd_X7_leastOf⟩
set_option maxHeartbeats 4000000 in
set_option maxRecDepth 100000 in
theorem c_X7_leastOf (l : Launch) (D : va_G)  (p0 : Int32) (Q : Int32 → Prop) (h : wp_X7_leastOf p0 Q) : Met l yX7_leastOf wsX7_leastOf rm_X7_leastOf (k_PR D [] wE k_0 [.int p0]) (vp_Si Q) 0 0 (fun _ => False) := by
  refine k_metR (by decide) rfl (Nat.le_of_ble_eq_true rfl) ?_
  intro Γ G E
  unfold wp_X7_leastOf at h
  show k_J Γ rm_X7_leastOf 1 true wE 0 [(0, .int p0)] [] k_0
  refine r_iload_n G dX7_leastOf_0 0 rfl rfl ?_
  rcases Classical.em (p0 = (98 : Int32)) with hs_0 | hs_0
  · replace h := h.1 hs_0
    refine r_tableIn G 108 dX7_leastOf_1 98 (khit hs_0 kt_98) (by decide) (by decide) (off := 107) rfl (by decide) ?_
    refine r_iconst G (3 : Int32) dX7_leastOf_108 kc_3 ?_
    exact r_iretR G E dX7_leastOf_109 h
  replace h := h.2 hs_0
  rcases Classical.em (p0 = (99 : Int32)) with hs_1 | hs_1
  · replace h := h.1 hs_1
    refine r_tableIn G 110 dX7_leastOf_1 99 (khit hs_1 kt_99) (by decide) (by decide) (off := 109) rfl (by decide) ?_
    refine r_iconst G (0 : Int32) dX7_leastOf_110 kc_0 ?_
    exact r_iretR G E dX7_leastOf_111 h
  replace h := h.2 hs_1
  rcases Classical.em (p0 = (100 : Int32)) with hs_2 | hs_2
  · replace h := h.1 hs_2
    refine r_tableIn G 106 dX7_leastOf_1 100 (khit hs_2 kt_100) (by decide) (by decide) (off := 105) rfl (by decide) ?_
    refine r_iconst G (2 : Int32) dX7_leastOf_106 kc_2 ?_
    exact r_iretR G E dX7_leastOf_107 h
  replace h := h.2 hs_2
  rcases Classical.em (p0 = (101 : Int32)) with hs_3 | hs_3
  · replace h := h.1 hs_3
    refine r_tableIn G 110 dX7_leastOf_1 101 (khit hs_3 kt_101) (by decide) (by decide) (off := 109) rfl (by decide) ?_
    refine r_iconst G (0 : Int32) dX7_leastOf_110 kc_0 ?_
    exact r_iretR G E dX7_leastOf_111 h
  replace h := h.2 hs_3
  rcases Classical.em (p0 = (102 : Int32)) with hs_4 | hs_4
  · replace h := h.1 hs_4
    refine r_tableIn G 104 dX7_leastOf_1 102 (khit hs_4 kt_102) (by decide) (by decide) (off := 103) rfl (by decide) ?_
    refine r_iconst G (1 : Int32) dX7_leastOf_104 kc_1 ?_
    exact r_iretR G E dX7_leastOf_105 h
  replace h := h.2 hs_4
  rcases Classical.em (p0 = (103 : Int32)) with hs_5 | hs_5
  · replace h := h.1 hs_5
    refine r_tableIn G 110 dX7_leastOf_1 103 (khit hs_5 kt_103) (by decide) (by decide) (off := 109) rfl (by decide) ?_
    refine r_iconst G (0 : Int32) dX7_leastOf_110 kc_0 ?_
    exact r_iretR G E dX7_leastOf_111 h
  replace h := h.2 hs_5
  rcases Classical.em (p0 = (104 : Int32)) with hs_6 | hs_6
  · replace h := h.1 hs_6
    refine r_tableIn G 110 dX7_leastOf_1 104 (khit hs_6 kt_104) (by decide) (by decide) (off := 109) rfl (by decide) ?_
    refine r_iconst G (0 : Int32) dX7_leastOf_110 kc_0 ?_
    exact r_iretR G E dX7_leastOf_111 h
  replace h := h.2 hs_6
  rcases Classical.em (p0 = (105 : Int32)) with hs_7 | hs_7
  · replace h := h.1 hs_7
    refine r_tableIn G 110 dX7_leastOf_1 105 (khit hs_7 kt_105) (by decide) (by decide) (off := 109) rfl (by decide) ?_
    refine r_iconst G (0 : Int32) dX7_leastOf_110 kc_0 ?_
    exact r_iretR G E dX7_leastOf_111 h
  replace h := h.2 hs_7
  rcases Classical.em (p0 = (106 : Int32)) with hs_8 | hs_8
  · replace h := h.1 hs_8
    refine r_tableIn G 110 dX7_leastOf_1 106 (khit hs_8 kt_106) (by decide) (by decide) (off := 109) rfl (by decide) ?_
    refine r_iconst G (0 : Int32) dX7_leastOf_110 kc_0 ?_
    exact r_iretR G E dX7_leastOf_111 h
  replace h := h.2 hs_8
  rcases Classical.em (p0 = (107 : Int32)) with hs_9 | hs_9
  · replace h := h.1 hs_9
    refine r_tableIn G 110 dX7_leastOf_1 107 (khit hs_9 kt_107) (by decide) (by decide) (off := 109) rfl (by decide) ?_
    refine r_iconst G (0 : Int32) dX7_leastOf_110 kc_0 ?_
    exact r_iretR G E dX7_leastOf_111 h
  replace h := h.2 hs_9
  rcases Classical.em (p0 = (108 : Int32)) with hs_10 | hs_10
  · replace h := h.1 hs_10
    refine r_tableIn G 110 dX7_leastOf_1 108 (khit hs_10 kt_108) (by decide) (by decide) (off := 109) rfl (by decide) ?_
    refine r_iconst G (0 : Int32) dX7_leastOf_110 kc_0 ?_
    exact r_iretR G E dX7_leastOf_111 h
  replace h := h.2 hs_10
  rcases Classical.em (p0 = (109 : Int32)) with hs_11 | hs_11
  · replace h := h.1 hs_11
    refine r_tableIn G 110 dX7_leastOf_1 109 (khit hs_11 kt_109) (by decide) (by decide) (off := 109) rfl (by decide) ?_
    refine r_iconst G (0 : Int32) dX7_leastOf_110 kc_0 ?_
    exact r_iretR G E dX7_leastOf_111 h
  replace h := h.2 hs_11
  rcases Classical.em (p0 = (110 : Int32)) with hs_12 | hs_12
  · replace h := h.1 hs_12
    refine r_tableIn G 110 dX7_leastOf_1 110 (khit hs_12 kt_110) (by decide) (by decide) (off := 109) rfl (by decide) ?_
    refine r_iconst G (0 : Int32) dX7_leastOf_110 kc_0 ?_
    exact r_iretR G E dX7_leastOf_111 h
  replace h := h.2 hs_12
  rcases Classical.em (p0 = (111 : Int32)) with hs_13 | hs_13
  · replace h := h.1 hs_13
    refine r_tableIn G 106 dX7_leastOf_1 111 (khit hs_13 kt_111) (by decide) (by decide) (off := 105) rfl (by decide) ?_
    refine r_iconst G (2 : Int32) dX7_leastOf_106 kc_2 ?_
    exact r_iretR G E dX7_leastOf_107 h
  replace h := h.2 hs_13
  rcases Classical.em (p0 = (112 : Int32)) with hs_14 | hs_14
  · replace h := h.1 hs_14
    refine r_tableIn G 110 dX7_leastOf_1 112 (khit hs_14 kt_112) (by decide) (by decide) (off := 109) rfl (by decide) ?_
    refine r_iconst G (0 : Int32) dX7_leastOf_110 kc_0 ?_
    exact r_iretR G E dX7_leastOf_111 h
  replace h := h.2 hs_14
  rcases Classical.em (p0 = (113 : Int32)) with hs_15 | hs_15
  · replace h := h.1 hs_15
    refine r_tableIn G 110 dX7_leastOf_1 113 (khit hs_15 kt_113) (by decide) (by decide) (off := 109) rfl (by decide) ?_
    refine r_iconst G (0 : Int32) dX7_leastOf_110 kc_0 ?_
    exact r_iretR G E dX7_leastOf_111 h
  replace h := h.2 hs_15
  rcases Classical.em (p0 = (114 : Int32)) with hs_16 | hs_16
  · replace h := h.1 hs_16
    refine r_tableIn G 110 dX7_leastOf_1 114 (khit hs_16 kt_114) (by decide) (by decide) (off := 109) rfl (by decide) ?_
    refine r_iconst G (0 : Int32) dX7_leastOf_110 kc_0 ?_
    exact r_iretR G E dX7_leastOf_111 h
  replace h := h.2 hs_16
  rcases Classical.em (p0 = (115 : Int32)) with hs_17 | hs_17
  · replace h := h.1 hs_17
    refine r_tableIn G 106 dX7_leastOf_1 115 (khit hs_17 kt_115) (by decide) (by decide) (off := 105) rfl (by decide) ?_
    refine r_iconst G (2 : Int32) dX7_leastOf_106 kc_2 ?_
    exact r_iretR G E dX7_leastOf_107 h
  replace h := h.2 hs_17
  rcases Classical.em (p0 = (116 : Int32)) with hs_18 | hs_18
  · replace h := h.1 hs_18
    refine r_tableIn G 108 dX7_leastOf_1 116 (khit hs_18 kt_116) (by decide) (by decide) (off := 107) rfl (by decide) ?_
    refine r_iconst G (3 : Int32) dX7_leastOf_108 kc_3 ?_
    exact r_iretR G E dX7_leastOf_109 h
  replace h := h.2 hs_18
  rcases Classical.em (p0 = (117 : Int32)) with hs_19 | hs_19
  · replace h := h.1 hs_19
    refine r_tableIn G 110 dX7_leastOf_1 117 (khit hs_19 kt_117) (by decide) (by decide) (off := 109) rfl (by decide) ?_
    refine r_iconst G (0 : Int32) dX7_leastOf_110 kc_0 ?_
    exact r_iretR G E dX7_leastOf_111 h
  replace h := h.2 hs_19
  rcases Classical.em (p0 = (118 : Int32)) with hs_20 | hs_20
  · replace h := h.1 hs_20
    refine r_tableIn G 110 dX7_leastOf_1 118 (khit hs_20 kt_118) (by decide) (by decide) (off := 109) rfl (by decide) ?_
    refine r_iconst G (0 : Int32) dX7_leastOf_110 kc_0 ?_
    exact r_iretR G E dX7_leastOf_111 h
  replace h := h.2 hs_20
  rcases Classical.em (p0 = (119 : Int32)) with hs_21 | hs_21
  · replace h := h.1 hs_21
    refine r_tableIn G 106 dX7_leastOf_1 119 (khit hs_21 kt_119) (by decide) (by decide) (off := 105) rfl (by decide) ?_
    refine r_iconst G (2 : Int32) dX7_leastOf_106 kc_2 ?_
    exact r_iretR G E dX7_leastOf_107 h
  replace h := h.2 hs_21
  refine r_tableOut G 110 dX7_leastOf_1 (by have z0 := lv_neT hs_0 kt_98; have z1 := lv_neT hs_1 kt_99; have z2 := lv_neT hs_2 kt_100; have z3 := lv_neT hs_3 kt_101; have z4 := lv_neT hs_4 kt_102; have z5 := lv_neT hs_5 kt_103; have z6 := lv_neT hs_6 kt_104; have z7 := lv_neT hs_7 kt_105; have z8 := lv_neT hs_8 kt_106; have z9 := lv_neT hs_9 kt_107; have z10 := lv_neT hs_10 kt_108; have z11 := lv_neT hs_11 kt_109; have z12 := lv_neT hs_12 kt_110; have z13 := lv_neT hs_13 kt_111; have z14 := lv_neT hs_14 kt_112; have z15 := lv_neT hs_15 kt_113; have z16 := lv_neT hs_16 kt_114; have z17 := lv_neT hs_17 kt_115; have z18 := lv_neT hs_18 kt_116; have z19 := lv_neT hs_19 kt_117; have z20 := lv_neT hs_20 kt_118; have z21 := lv_neT hs_21 kt_119; omega) (by decide) ?_
  refine r_iconst G (0 : Int32) dX7_leastOf_110 kc_0 ?_
  exact r_iretR G E dX7_leastOf_111 h
abbrev rm_X7_in : Room := { frames := 0, cells := 0, slots := 0, locals := 0 }
def wp_X7_in (p0 p1 p2 : Int32) (Q : Int32 → Prop) : Prop :=
  ((p0 < p1 → Q (0 : Int32)) ∧ (¬ p0 < p1 → ((p2 < p0 → Q (0 : Int32)) ∧ (¬ p2 < p0 → Q (1 : Int32)))))
theorem hd_X7_in : yX7_in.cls ≠ "java/lang/invoke/MethodHandle" ∧ yX7_in.cls ≠ "java/lang/invoke/VarHandle" ∧ (parseMethodDescriptor yX7_in.desc).map (fun d => d.parameters.length) = some 3 := by decide +kernel
theorem hdv_X7_in : yX7_in.cls = RX7 ∧ yX7_in.cls ≠ "java/lang/invoke/MethodHandle" ∧ yX7_in.cls ≠ "java/lang/invoke/VarHandle" ∧ (parseMethodDescriptor yX7_in.desc).map (fun d => d.parameters.length) = some 3 := ⟨rfl, hd_X7_in⟩
set_option maxHeartbeats 4000000 in
set_option maxRecDepth 100000 in
theorem c_X7_in (l : Launch) (D : va_G)  (p0 p1 p2 : Int32) (Q : Int32 → Prop) (h : wp_X7_in p0 p1 p2 Q) : Met l yX7_in wsX7_in rm_X7_in (k_PR D [] wE k_0 [.int p0, .int p1, .int p2]) (vp_Si (fun r => (r = 0 ∨ r = 1) ∧ Q r)) 0 0 (fun _ => False) := by
  refine k_metR (by decide) rfl (Nat.le_of_ble_eq_true rfl) ?_
  intro Γ G E
  unfold wp_X7_in at h
  show k_J Γ rm_X7_in 3 true wE 0 [(0, .int p0), (1, .int p1), (2, .int p2)] [] k_0
  refine r_iload_n G dX7_in_0 0 rfl rfl ?_
  refine r_iload_n G dX7_in_1 1 rfl rfl ?_
  refine r_icmp_lt G 14 dX7_in_2 (by decide) (fun hc => ?_) (fun hc => ?_)
  · replace h := h.1 hc
    refine r_iconst G (0 : Int32) dX7_in_14 kc_0 ?_
    exact r_zretR G E kz_0 dX7_in_15 ⟨kzo_0, h⟩
  · replace h := h.2 hc
    refine r_iload_n G dX7_in_5 0 rfl rfl ?_
    refine r_iload_n G dX7_in_6 2 rfl rfl ?_
    refine r_icmp_gt G 14 dX7_in_7 (by decide) (fun hc => ?_) (fun hc => ?_)
    · replace h := h.1 hc
      refine r_iconst G (0 : Int32) dX7_in_14 kc_0 ?_
      exact r_zretR G E kz_0 dX7_in_15 ⟨kzo_0, h⟩
    · replace h := h.2 hc
      refine r_iconst G (1 : Int32) dX7_in_10 kc_1 ?_
      refine r_goto G 15 dX7_in_11 (by decide) ?_
      exact r_zretR G E kz_1 dX7_in_15 ⟨kzo_1, h⟩
abbrev rm_X7_isMember : Room := { frames := 1, cells := 0, slots := 0, locals := 22 }
def wp_X7_isMember (p0 : Int32) (Q : Int32 → Prop) : Prop :=
  wp_X7_in p0 (1 : Int32) (7 : Int32) (fun (r_4 : Int32) => Q r_4)
theorem hd_X7_isMember : yX7_isMember.cls ≠ "java/lang/invoke/MethodHandle" ∧ yX7_isMember.cls ≠ "java/lang/invoke/VarHandle" ∧ (parseMethodDescriptor yX7_isMember.desc).map (fun d => d.parameters.length) = some 1 := by decide +kernel
theorem hdv_X7_isMember : yX7_isMember.cls = RX7 ∧ yX7_isMember.cls ≠ "java/lang/invoke/MethodHandle" ∧ yX7_isMember.cls ≠ "java/lang/invoke/VarHandle" ∧ (parseMethodDescriptor yX7_isMember.desc).map (fun d => d.parameters.length) = some 1 := ⟨rfl, hd_X7_isMember⟩
set_option maxHeartbeats 4000000 in
set_option maxRecDepth 100000 in
theorem c_X7_isMember (l : Launch) (D : va_G)  (p0 : Int32) (Q : Int32 → Prop) (h : wp_X7_isMember p0 Q) : Met l yX7_isMember wsX7_isMember rm_X7_isMember (k_PR D [] wE k_0 [.int p0]) (vp_Si (fun r => (r = 0 ∨ r = 1) ∧ Q r)) 0 0 (fun _ => False) := by
  refine k_metR (by decide) rfl (Nat.le_of_ble_eq_true rfl) ?_
  intro Γ G E
  unfold wp_X7_isMember at h
  show k_J Γ rm_X7_isMember 1 true wE 0 [(0, .int p0)] [] k_0
  refine r_iload_n G dX7_isMember_0 0 rfl rfl ?_
  refine r_iconst G (1 : Int32) dX7_isMember_1 kc_1 ?_
  refine r_bipush G (7 : Int32) dX7_isMember_2 kb_7 ?_
  refine r_cSR G [.int p0, .int (1 : Int32), .int (7 : Int32)] [] (c_X7_in (k_l Γ) (k_D Γ) _ _ _ _ h) (va_cwS 3 G.2.2.2.2.1 gX7_isMember_X7_in rfl rfl rfl hd_X7_in ⟨Nat.le_of_ble_eq_true rfl, Nat.le_of_ble_eq_true rfl⟩) [] rfl (fun _ _ => k_E0) rfl rfl (Nat.le_of_ble_eq_true rfl) dX7_isMember_4 (fun r_4 h => ?_)
  have hz_4 := h.1
  replace h := h.2
  exact r_zretR G E (kz_of hz_4) dX7_isMember_7 ⟨hz_4, h⟩
abbrev rm_X7_power : Room := { frames := 0, cells := 0, slots := 0, locals := 0 }
def wp_X7_power (p0 p1 p2 : Int32) (Q : Int32 → Prop) : Prop :=
  (k_lp2 (fun (B_5 : Int32 → Int32 → Prop) (x3_5 : Int32) (x4_5 : Int32) => ((p1 ≤ x4_5 → Q x3_5) ∧ (¬ p1 ≤ x4_5 → (¬ p2 = 0 ∧ B_5 (k_rem (x3_5 * p0) p2) (x4_5 + (1 : Int32)))))) (1 : Int32) (0 : Int32))
theorem hd_X7_power : yX7_power.cls ≠ "java/lang/invoke/MethodHandle" ∧ yX7_power.cls ≠ "java/lang/invoke/VarHandle" ∧ (parseMethodDescriptor yX7_power.desc).map (fun d => d.parameters.length) = some 3 := by decide +kernel
theorem hdv_X7_power : yX7_power.cls = RX7 ∧ yX7_power.cls ≠ "java/lang/invoke/MethodHandle" ∧ yX7_power.cls ≠ "java/lang/invoke/VarHandle" ∧ (parseMethodDescriptor yX7_power.desc).map (fun d => d.parameters.length) = some 3 := ⟨rfl, hd_X7_power⟩
set_option maxHeartbeats 4000000 in
set_option maxRecDepth 100000 in
theorem c_X7_power (l : Launch) (D : va_G)  (p0 p1 p2 : Int32) (Q : Int32 → Prop) (h : wp_X7_power p0 p1 p2 Q) : Met l yX7_power wsX7_power rm_X7_power (k_PR D [] wE k_0 [.int p0, .int p1, .int p2]) (vp_Si Q) 0 0 (fun _ => False) := by
  refine k_metR (by decide) rfl (Nat.le_of_ble_eq_true rfl) ?_
  intro Γ G E
  unfold wp_X7_power at h
  show k_J Γ rm_X7_power 5 true wE 0 [(0, .int p0), (1, .int p1), (2, .int p2)] [] k_0
  refine r_iconst G (1 : Int32) dX7_power_0 kc_1 ?_
  refine r_istore_n (lv' := [(3, .int (1 : Int32)), (0, .int p0), (1, .int p1), (2, .int p2)]) G dX7_power_1 rfl (by decide) rfl ?_
  refine r_iconst G (0 : Int32) dX7_power_2 kc_0 ?_
  refine r_istore (lv' := [(4, .int (0 : Int32)), (3, .int (1 : Int32)), (0, .int p0), (1, .int p1), (2, .int p2)]) G dX7_power_3 (by decide) rfl ?_
  obtain ⟨I_5, n_5, h, hI_5⟩ := h
  have key_5 : ∀ (n : Nat) (x3_5 : Int32) (x4_5 : Int32), I_5 n x3_5 x4_5 → k_J Γ rm_X7_power 5 true wE 5 [(0, .int p0), (1, .int p1), (2, .int p2), (3, .int x3_5), (4, .int x4_5)] [] k_0 := by
    intro n
    induction n using Nat.strongRecOn with
    | ind n ih_5 =>
      intro x3_5 x4_5 h
      replace h := hI_5 n x3_5 x4_5 h
      refine r_iload G dX7_power_5 4 rfl ?_
      refine r_iload_n G dX7_power_7 1 rfl rfl ?_
      refine r_icmp_ge G 23 dX7_power_8 (by decide) (fun hc => ?_) (fun hc => ?_)
      · replace h := h.1 hc
        refine r_iload_n G dX7_power_23 3 rfl rfl ?_
        exact r_iretR G E dX7_power_24 h
      · replace h := h.2 hc
        refine r_iload_n G dX7_power_11 3 rfl rfl ?_
        refine r_iload_n G dX7_power_12 0 rfl rfl ?_
        refine r_imul G dX7_power_13 ?_
        refine r_iload_n G dX7_power_14 2 rfl rfl ?_
        refine r_irem G h.1 dX7_power_15 ?_
        replace h := h.2
        refine r_istore_n (lv' := [(3, .int (k_rem (x3_5 * p0) p2)), (0, .int p0), (1, .int p1), (2, .int p2), (4, .int x4_5)]) G dX7_power_16 rfl (by decide) rfl ?_
        refine r_iinc (lv' := [(4, .int (x4_5 + (1 : Int32))), (3, .int (k_rem (x3_5 * p0) p2)), (0, .int p0), (1, .int p1), (2, .int p2)]) G 4 dX7_power_17 kc_1 rfl (by decide) rfl ?_
        refine r_goto G 5 dX7_power_20 (by decide) ?_
        obtain ⟨m_5, hm_5, h⟩ := h
        exact r_sub [2, 3, 4, 1, 0] rfl (ih_5 m_5 hm_5 _ _ h)
  exact r_sub [2, 3, 4, 1, 0] rfl (key_5 n_5 _ _ h)
abbrev rm_X7_sealOf : Room := { frames := 1, cells := 0, slots := 0, locals := 24 }
def wp_X7_sealOf (p0 : Int32) (Q : Int32 → Prop) : Prop :=
  wp_X7_power (4 : Int32) p0 (47 : Int32) (fun (r_4 : Int32) => Q r_4)
theorem hd_X7_sealOf : yX7_sealOf.cls ≠ "java/lang/invoke/MethodHandle" ∧ yX7_sealOf.cls ≠ "java/lang/invoke/VarHandle" ∧ (parseMethodDescriptor yX7_sealOf.desc).map (fun d => d.parameters.length) = some 1 := by decide +kernel
theorem hdv_X7_sealOf : yX7_sealOf.cls = RX7 ∧ yX7_sealOf.cls ≠ "java/lang/invoke/MethodHandle" ∧ yX7_sealOf.cls ≠ "java/lang/invoke/VarHandle" ∧ (parseMethodDescriptor yX7_sealOf.desc).map (fun d => d.parameters.length) = some 1 := ⟨rfl, hd_X7_sealOf⟩
set_option maxHeartbeats 4000000 in
set_option maxRecDepth 100000 in
theorem c_X7_sealOf (l : Launch) (D : va_G)  (p0 : Int32) (Q : Int32 → Prop) (h : wp_X7_sealOf p0 Q) : Met l yX7_sealOf wsX7_sealOf rm_X7_sealOf (k_PR D [] wE k_0 [.int p0]) (vp_Si Q) 0 0 (fun _ => False) := by
  refine k_metR (by decide) rfl (Nat.le_of_ble_eq_true rfl) ?_
  intro Γ G E
  unfold wp_X7_sealOf at h
  show k_J Γ rm_X7_sealOf 1 true wE 0 [(0, .int p0)] [] k_0
  refine r_iconst G (4 : Int32) dX7_sealOf_0 kc_4 ?_
  refine r_iload_n G dX7_sealOf_1 0 rfl rfl ?_
  refine r_bipush G (47 : Int32) dX7_sealOf_2 kb_47 ?_
  refine r_cSR G [.int (4 : Int32), .int p0, .int (47 : Int32)] [] (c_X7_power (k_l Γ) (k_D Γ) _ _ _ _ h) (va_cwS 3 G.2.2.2.2.1 gX7_sealOf_X7_power rfl rfl rfl hd_X7_power ⟨Nat.le_of_ble_eq_true rfl, Nat.le_of_ble_eq_true rfl⟩) [] rfl (fun _ _ => k_E0) rfl rfl (Nat.le_of_ble_eq_true rfl) dX7_sealOf_4 (fun r_4 h => ?_)
  exact r_iretR G E dX7_sealOf_7 h
