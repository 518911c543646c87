abbrev rm_X7_bits : Room := { frames := 0, cells := 0, slots := 0, locals := 0 }
def wp_X7_bits (p0 : Int32) (Q : Int32 → Prop) : Prop :=
  (k_lp2 (fun (B_4 : Int32 → Int32 → Prop) (x1_4 : Int32) (x2_4 : Int32) => (((8 : Int32) ≤ x2_4 → Q x1_4) ∧ (¬ (8 : Int32) ≤ x2_4 → B_4 (x1_4 + ((p0 >>> (x2_4 &&& 31)) &&& (1 : Int32))) (x2_4 + (1 : Int32))))) (0 : Int32) (0 : Int32))
theorem hd_X7_bits : yX7_bits.cls ≠ "java/lang/invoke/MethodHandle" ∧ yX7_bits.cls ≠ "java/lang/invoke/VarHandle" ∧ (parseMethodDescriptor yX7_bits.desc).map (fun d => d.parameters.length) = some 1 := by decide +kernel
theorem hdv_X7_bits : yX7_bits.cls = RX7 ∧ yX7_bits.cls ≠ "java/lang/invoke/MethodHandle" ∧ yX7_bits.cls ≠ "java/lang/invoke/VarHandle" ∧ (parseMethodDescriptor yX7_bits.desc).map (fun d => d.parameters.length) = some 1 := ⟨rfl, hd_X7_bits⟩
set_option maxHeartbeats 4000000 in
set_option maxRecDepth 100000 in
theorem c_X7_bits (l : Launch) (D : va_G)  (p0 : Int32) (Q : Int32 → Prop) (h : wp_X7_bits p0 Q) : Met l yX7_bits wsX7_bits rm_X7_bits (k_PR D [] wE k_0 [.int p0]) (vp_Si Q) 0 0 (fun _ => False) := by
  refine k_metR (by decide) rfl (Nat.le_of_ble_eq_true rfl) ?_
  intro Γ G E
  unfold wp_X7_bits at h
  show k_J Γ rm_X7_bits 3 true wE 0 [(0, .int p0)] [] k_0
  refine r_iconst G (0 : Int32) dX7_bits_0 kc_0 ?_
  refine r_istore_n (lv' := [(1, .int (0 : Int32)), (0, .int p0)]) G dX7_bits_1 rfl (by decide) rfl ?_
  refine r_iconst G (0 : Int32) dX7_bits_2 kc_0 ?_
  refine r_istore_n (lv' := [(2, .int (0 : Int32)), (1, .int (0 : Int32)), (0, .int p0)]) G dX7_bits_3 rfl (by decide) rfl ?_
  obtain ⟨I_4, n_4, h, hI_4⟩ := h
  have key_4 : ∀ (n : Nat) (x1_4 : Int32) (x2_4 : Int32), I_4 n x1_4 x2_4 → k_J Γ rm_X7_bits 3 true wE 4 [(0, .int p0), (1, .int x1_4), (2, .int x2_4)] [] k_0 := by
    intro n
    induction n using Nat.strongRecOn with
    | ind n ih_4 =>
      intro x1_4 x2_4 h
      replace h := hI_4 n x1_4 x2_4 h
      refine r_iload_n G dX7_bits_4 2 rfl rfl ?_
      refine r_bipush G (8 : Int32) dX7_bits_5 kb_8 ?_
      refine r_icmp_ge G 24 dX7_bits_7 (by decide) (fun hc => ?_) (fun hc => ?_)
      · replace h := h.1 hc
        refine r_iload_n G dX7_bits_24 1 rfl rfl ?_
        exact r_iretR G E dX7_bits_25 h
      · replace h := h.2 hc
        refine r_iload_n G dX7_bits_10 1 rfl rfl ?_
        refine r_iload_n G dX7_bits_11 0 rfl rfl ?_
        refine r_iload_n G dX7_bits_12 2 rfl rfl ?_
        refine r_ishr G dX7_bits_13 ?_
        refine r_iconst G (1 : Int32) dX7_bits_14 kc_1 ?_
        refine r_iand G dX7_bits_15 ?_
        refine r_iadd G dX7_bits_16 ?_
        refine r_istore_n (lv' := [(1, .int (x1_4 + ((p0 >>> (x2_4 &&& 31)) &&& (1 : Int32)))), (0, .int p0), (2, .int x2_4)]) G dX7_bits_17 rfl (by decide) rfl ?_
        refine r_iinc (lv' := [(2, .int (x2_4 + (1 : Int32))), (1, .int (x1_4 + ((p0 >>> (x2_4 &&& 31)) &&& (1 : Int32)))), (0, .int p0)]) G 2 dX7_bits_18 kc_1 rfl (by decide) rfl ?_
        refine r_goto G 4 dX7_bits_21 (by decide) ?_
        obtain ⟨m_4, hm_4, h⟩ := h
        exact r_sub [2, 1, 0] rfl (ih_4 m_4 hm_4 _ _ h)
  exact r_sub [2, 1, 0] rfl (key_4 n_4 _ _ h)
abbrev rm_X7_bentAt : Room := { frames := 0, cells := 0, slots := 0, locals := 0 }
def wp_X7_bentAt (p0 p1 : Int32) (Q : Int32 → Prop) : Prop :=
  Q (((48 : Int32) + ((8 : Int32) * p1)) + p0)
theorem hd_X7_bentAt : yX7_bentAt.cls ≠ "java/lang/invoke/MethodHandle" ∧ yX7_bentAt.cls ≠ "java/lang/invoke/VarHandle" ∧ (parseMethodDescriptor yX7_bentAt.desc).map (fun d => d.parameters.length) = some 2 := by decide +kernel
theorem hdv_X7_bentAt : yX7_bentAt.cls = RX7 ∧ yX7_bentAt.cls ≠ "java/lang/invoke/MethodHandle" ∧ yX7_bentAt.cls ≠ "java/lang/invoke/VarHandle" ∧ (parseMethodDescriptor yX7_bentAt.desc).map (fun d => d.parameters.length) = some 2 := ⟨rfl, hd_X7_bentAt⟩
set_option maxHeartbeats 4000000 in
set_option maxRecDepth 100000 in
theorem c_X7_bentAt (l : Launch) (D : va_G)  (p0 p1 : Int32) (Q : Int32 → Prop) (h : wp_X7_bentAt p0 p1 Q) : Met l yX7_bentAt wsX7_bentAt rm_X7_bentAt (k_PR D [] wE k_0 [.int p0, .int p1]) (vp_Si Q) 0 0 (fun _ => False) := by
  refine k_metR (by decide) rfl (Nat.le_of_ble_eq_true rfl) ?_
  intro Γ G E
  unfold wp_X7_bentAt at h
  show k_J Γ rm_X7_bentAt 2 true wE 0 [(0, .int p0), (1, .int p1)] [] k_0
  refine r_bipush G (48 : Int32) dX7_bentAt_0 kb_48 ?_
  refine r_bipush G (8 : Int32) dX7_bentAt_2 kb_8 ?_
  refine r_iload_n G dX7_bentAt_4 1 rfl rfl ?_
  refine r_imul G dX7_bentAt_5 ?_
  refine r_iadd G dX7_bentAt_6 ?_
  refine r_iload_n G dX7_bentAt_7 0 rfl rfl ?_
  refine r_iadd G dX7_bentAt_8 ?_
  exact r_iretR G E dX7_bentAt_9 h
abbrev rm_X7_mod : Room := { frames := 0, cells := 0, slots := 0, locals := 0 }
def wp_X7_mod (p0 : Int32) (Q : Int32 → Prop) : Prop :=
  ((0 ≤ (k_rem p0 (23 : Int32)) → Q (k_rem p0 (23 : Int32))) ∧ (¬ 0 ≤ (k_rem p0 (23 : Int32)) → Q ((k_rem p0 (23 : Int32)) + (23 : Int32))))
theorem hd_X7_mod : yX7_mod.cls ≠ "java/lang/invoke/MethodHandle" ∧ yX7_mod.cls ≠ "java/lang/invoke/VarHandle" ∧ (parseMethodDescriptor yX7_mod.desc).map (fun d => d.parameters.length) = some 1 := by decide +kernel
theorem hdv_X7_mod : yX7_mod.cls = RX7 ∧ yX7_mod.cls ≠ "java/lang/invoke/MethodHandle" ∧ yX7_mod.cls ≠ "java/lang/invoke/VarHandle" ∧ (parseMethodDescriptor yX7_mod.desc).map (fun d => d.parameters.length) = some 1 := ⟨rfl, hd_X7_mod⟩
set_option maxHeartbeats 4000000 in
set_option maxRecDepth 100000 in
theorem c_X7_mod (l : Launch) (D : va_G)  (p0 : Int32) (Q : Int32 → Prop) (h : wp_X7_mod p0 Q) : Met l yX7_mod wsX7_mod rm_X7_mod (k_PR D [] wE k_0 [.int p0]) (vp_Si Q) 0 0 (fun _ => False) := by
  refine k_metR (by decide) rfl (Nat.le_of_ble_eq_true rfl) ?_
  intro Γ G E
  unfold wp_X7_mod at h
  show k_J Γ rm_X7_mod 2 true wE 0 [(0, .int p0)] [] k_0
  refine r_iload_n G dX7_mod_0 0 rfl rfl ?_
  refine r_bipush G (23 : Int32) dX7_mod_1 kb_23 ?_
  refine r_irem G kne_23 dX7_mod_3 ?_
  refine r_istore_n (lv' := [(1, .int (k_rem p0 (23 : Int32))), (0, .int p0)]) G dX7_mod_4 rfl (by decide) rfl ?_
  refine r_iload_n G dX7_mod_5 0 rfl rfl ?_
  refine r_if_ge G 16 dX7_mod_6 (by decide) (fun hc => ?_) (fun hc => ?_)
  · replace h := h.1 hc
    refine r_iload_n G dX7_mod_16 0 rfl rfl ?_
    exact r_iretR G E dX7_mod_17 h
  · replace h := h.2 hc
    refine r_iload_n G dX7_mod_9 0 rfl rfl ?_
    refine r_bipush G (23 : Int32) dX7_mod_10 kb_23 ?_
    refine r_iadd G dX7_mod_12 ?_
    refine r_goto G 17 dX7_mod_13 (by decide) ?_
    exact r_iretR G E dX7_mod_17 h
abbrev rm_X7_has : Room := { frames := 0, cells := 0, slots := 0, locals := 0 }
def wp_X7_has (p0 p1 : Int32) (Q : Int32 → Prop) : Prop :=
  ((((p0 >>> (p1 &&& 31)) &&& (1 : Int32)) = (1 : Int32) → Q (1 : Int32)) ∧ (¬ ((p0 >>> (p1 &&& 31)) &&& (1 : Int32)) = (1 : Int32) → Q (0 : Int32)))
theorem hd_X7_has : yX7_has.cls ≠ "java/lang/invoke/MethodHandle" ∧ yX7_has.cls ≠ "java/lang/invoke/VarHandle" ∧ (parseMethodDescriptor yX7_has.desc).map (fun d => d.parameters.length) = some 2 := by decide +kernel
theorem hdv_X7_has : yX7_has.cls = RX7 ∧ yX7_has.cls ≠ "java/lang/invoke/MethodHandle" ∧ yX7_has.cls ≠ "java/lang/invoke/VarHandle" ∧ (parseMethodDescriptor yX7_has.desc).map (fun d => d.parameters.length) = some 2 := ⟨rfl, hd_X7_has⟩
set_option maxHeartbeats 4000000 in
set_option maxRecDepth 100000 in
theorem c_X7_has (l : Launch) (D : va_G)  (p0 p1 : Int32) (Q : Int32 → Prop) (h : wp_X7_has p0 p1 Q) : Met l yX7_has wsX7_has rm_X7_has (k_PR D [] wE k_0 [.int p0, .int p1]) (vp_Si (fun r => (r = 0 ∨ r = 1) ∧ Q r)) 0 0 (fun _ => False) := by
  refine k_metR (by decide) rfl (Nat.le_of_ble_eq_true rfl) ?_
  intro Γ G E
  unfold wp_X7_has at h
  show k_J Γ rm_X7_has 2 true wE 0 [(0, .int p0), (1, .int p1)] [] k_0
  refine r_iload_n G dX7_has_0 0 rfl rfl ?_
  refine r_iload_n G dX7_has_1 1 rfl rfl ?_
  refine r_ishr G dX7_has_2 ?_
  refine r_iconst G (1 : Int32) dX7_has_3 kc_1 ?_
  refine r_iand G dX7_has_4 ?_
  refine r_iconst G (1 : Int32) dX7_has_5 kc_1 ?_
  refine r_icmp_ne G 13 dX7_has_6 (by decide) (fun hc => ?_) (fun hc => ?_)
  · replace h := h.2 hc
    refine r_iconst G (0 : Int32) dX7_has_13 kc_0 ?_
    exact r_zretR G E kz_0 dX7_has_14 ⟨kzo_0, h⟩
  · replace h := h.1 hc
    refine r_iconst G (1 : Int32) dX7_has_9 kc_1 ?_
    refine r_goto G 14 dX7_has_10 (by decide) ?_
    exact r_zretR G E kz_1 dX7_has_14 ⟨kzo_1, h⟩
abbrev rm_X7_firstOf : Room := { frames := 1, cells := 0, slots := 0, locals := 22 }
def wp_X7_firstOf (p0 p1 : Int32) (Q : Int32 → Prop) : Prop :=
  (k_lp2 (fun (B_4 : Int32 → Int32 → Prop) (x2_4 : Int32) (x3_4 : Int32) => (((7 : Int32) < x3_4 → Q x2_4) ∧ (¬ (7 : Int32) < x3_4 → wp_X7_has p0 x3_4 (fun (r_13 : Int32) => ((r_13 = 0 → B_4 (x2_4 ||| (0 : Int32)) (x3_4 + (1 : Int32))) ∧ (¬ r_13 = 0 → wp_X7_bits x2_4 (fun (r_20 : Int32) => ((p1 ≤ r_20 → B_4 (x2_4 ||| (0 : Int32)) (x3_4 + (1 : Int32))) ∧ (¬ p1 ≤ r_20 → B_4 (x2_4 ||| ((1 : Int32) <<< (x3_4 &&& 31))) (x3_4 + (1 : Int32))))))))))) (0 : Int32) (1 : Int32))
theorem hd_X7_firstOf : yX7_firstOf.cls ≠ "java/lang/invoke/MethodHandle" ∧ yX7_firstOf.cls ≠ "java/lang/invoke/VarHandle" ∧ (parseMethodDescriptor yX7_firstOf.desc).map (fun d => d.parameters.length) = some 2 := by decide +kernel
theorem hdv_X7_firstOf : yX7_firstOf.cls = RX7 ∧ yX7_firstOf.cls ≠ "java/lang/invoke/MethodHandle" ∧ yX7_firstOf.cls ≠ "java/lang/invoke/VarHandle" ∧ (parseMethodDescriptor yX7_firstOf.desc).map (fun d => d.parameters.length) = some 2 := ⟨rfl, hd_X7_firstOf⟩
set_option maxHeartbeats 4000000 in
set_option maxRecDepth 100000 in
theorem c_X7_firstOf (l : Launch) (D : va_G)  (p0 p1 : Int32) (Q : Int32 → Prop) (h : wp_X7_firstOf p0 p1 Q) : Met l yX7_firstOf wsX7_firstOf rm_X7_firstOf (k_PR D [] wE k_0 [.int p0, .int p1]) (vp_Si Q) 0 0 (fun _ => False) := by
  refine k_metR (by decide) rfl (Nat.le_of_ble_eq_true rfl) ?_
  intro Γ G E
  unfold wp_X7_firstOf at h
  show k_J Γ rm_X7_firstOf 4 true wE 0 [(0, .int p0), (1, .int p1)] [] k_0
  refine r_iconst G (0 : Int32) dX7_firstOf_0 kc_0 ?_
  refine r_istore_n (lv' := [(2, .int (0 : Int32)), (0, .int p0), (1, .int p1)]) G dX7_firstOf_1 rfl (by decide) rfl ?_
  refine r_iconst G (1 : Int32) dX7_firstOf_2 kc_1 ?_
  refine r_istore_n (lv' := [(3, .int (1 : Int32)), (2, .int (0 : Int32)), (0, .int p0), (1, .int p1)]) G dX7_firstOf_3 rfl (by decide) rfl ?_
  obtain ⟨I_4, n_4, h, hI_4⟩ := h
  have key_4 : ∀ (n : Nat) (x2_4 : Int32) (x3_4 : Int32), I_4 n x2_4 x3_4 → k_J Γ rm_X7_firstOf 4 true wE 4 [(0, .int p0), (1, .int p1), (2, .int x2_4), (3, .int x3_4)] [] k_0 := by
    intro n
    induction n using Nat.strongRecOn with
    | ind n ih_4 =>
      intro x2_4 x3_4 h
      replace h := hI_4 n x2_4 x3_4 h
      refine r_iload_n G dX7_firstOf_4 3 rfl rfl ?_
      refine r_bipush G (7 : Int32) dX7_firstOf_5 kb_7 ?_
      refine r_icmp_gt G 42 dX7_firstOf_7 (by decide) (fun hc => ?_) (fun hc => ?_)
      · replace h := h.1 hc
        refine r_iload_n G dX7_firstOf_42 2 rfl rfl ?_
        exact r_iretR G E dX7_firstOf_43 h
      · replace h := h.2 hc
        refine r_iload_n G dX7_firstOf_10 2 rfl rfl ?_
        refine r_iload_n G dX7_firstOf_11 0 rfl rfl ?_
        refine r_iload_n G dX7_firstOf_12 3 rfl rfl ?_
        refine r_cSR G [.int p0, .int x3_4] [.int x2_4] (c_X7_has (k_l Γ) (k_D Γ) _ _ _ h) (va_cwS 2 G.2.2.2.2.1 gX7_firstOf_X7_has rfl rfl rfl hd_X7_has ⟨Nat.le_of_ble_eq_true rfl, Nat.le_of_ble_eq_true rfl⟩) [] rfl (fun _ _ => k_E0) rfl rfl (Nat.le_of_ble_eq_true rfl) dX7_firstOf_13 (fun r_13 h => ?_)
        have hz_13 := h.1
        replace h := h.2
        refine r_if_eq G 33 dX7_firstOf_16 (by decide) (fun hc => ?_) (fun hc => ?_)
        · replace h := h.1 hc
          refine r_iconst G (0 : Int32) dX7_firstOf_33 kc_0 ?_
          refine r_ior G dX7_firstOf_34 ?_
          refine r_istore_n (lv' := [(2, .int (x2_4 ||| (0 : Int32))), (0, .int p0), (1, .int p1), (3, .int x3_4)]) G dX7_firstOf_35 rfl (by decide) rfl ?_
          refine r_iinc (lv' := [(3, .int (x3_4 + (1 : Int32))), (2, .int (x2_4 ||| (0 : Int32))), (0, .int p0), (1, .int p1)]) G 3 dX7_firstOf_36 kc_1 rfl (by decide) rfl ?_
          refine r_goto G 4 dX7_firstOf_39 (by decide) ?_
          obtain ⟨m_4, hm_4, h⟩ := h
          exact r_sub [2, 3, 1, 0] rfl (ih_4 m_4 hm_4 _ _ h)
        · replace h := h.2 hc
          refine r_iload_n G dX7_firstOf_19 2 rfl rfl ?_
          refine r_cSR G [.int x2_4] [.int x2_4] (c_X7_bits (k_l Γ) (k_D Γ) _ _ h) (va_cwS 1 G.2.2.2.2.1 gX7_firstOf_X7_bits rfl rfl rfl hd_X7_bits ⟨Nat.le_of_ble_eq_true rfl, Nat.le_of_ble_eq_true rfl⟩) [] rfl (fun _ _ => k_E0) rfl rfl (Nat.le_of_ble_eq_true rfl) dX7_firstOf_20 (fun r_20 h => ?_)
          refine r_iload_n G dX7_firstOf_23 1 rfl rfl ?_
          refine r_icmp_ge G 33 dX7_firstOf_24 (by decide) (fun hc => ?_) (fun hc => ?_)
          · replace h := h.1 hc
            refine r_iconst G (0 : Int32) dX7_firstOf_33 kc_0 ?_
            refine r_ior G dX7_firstOf_34 ?_
            refine r_istore_n (lv' := [(2, .int (x2_4 ||| (0 : Int32))), (0, .int p0), (1, .int p1), (3, .int x3_4)]) G dX7_firstOf_35 rfl (by decide) rfl ?_
            refine r_iinc (lv' := [(3, .int (x3_4 + (1 : Int32))), (2, .int (x2_4 ||| (0 : Int32))), (0, .int p0), (1, .int p1)]) G 3 dX7_firstOf_36 kc_1 rfl (by decide) rfl ?_
            refine r_goto G 4 dX7_firstOf_39 (by decide) ?_
            obtain ⟨m_4, hm_4, h⟩ := h
            exact r_sub [2, 3, 1, 0] rfl (ih_4 m_4 hm_4 _ _ h)
          · replace h := h.2 hc
            refine r_iconst G (1 : Int32) dX7_firstOf_27 kc_1 ?_
            refine r_iload_n G dX7_firstOf_28 3 rfl rfl ?_
            refine r_ishl G dX7_firstOf_29 ?_
            refine r_goto G 34 dX7_firstOf_30 (by decide) ?_
            refine r_ior G dX7_firstOf_34 ?_
            refine r_istore_n (lv' := [(2, .int (x2_4 ||| ((1 : Int32) <<< (x3_4 &&& 31)))), (0, .int p0), (1, .int p1), (3, .int x3_4)]) G dX7_firstOf_35 rfl (by decide) rfl ?_
            refine r_iinc (lv' := [(3, .int (x3_4 + (1 : Int32))), (2, .int (x2_4 ||| ((1 : Int32) <<< (x3_4 &&& 31)))), (0, .int p0), (1, .int p1)]) G 3 dX7_firstOf_36 kc_1 rfl (by decide) rfl ?_
            refine r_goto G 4 dX7_firstOf_39 (by decide) ?_
            obtain ⟨m_4, hm_4, h⟩ := h
            exact r_sub [2, 3, 1, 0] rfl (ih_4 m_4 hm_4 _ _ h)
  exact r_sub [2, 3, 1, 0] rfl (key_4 n_4 _ _ h)
abbrev rm_X7_inverse : Room := { frames := 1, cells := 0, slots := 0, locals := 24 }
def wp_X7_inverse (p0 : Int32) (Q : Int32 → Prop) : Prop :=
  wp_X7_mod p0 (fun (r_1 : Int32) => wp_X7_power r_1 (21 : Int32) (23 : Int32) (fun (r_8 : Int32) => Q r_8))
theorem hd_X7_inverse : yX7_inverse.cls ≠ "java/lang/invoke/MethodHandle" ∧ yX7_inverse.cls ≠ "java/lang/invoke/VarHandle" ∧ (parseMethodDescriptor yX7_inverse.desc).map (fun d => d.parameters.length) = some 1 := by decide +kernel
theorem hdv_X7_inverse : yX7_inverse.cls = RX7 ∧ yX7_inverse.cls ≠ "java/lang/invoke/MethodHandle" ∧ yX7_inverse.cls ≠ "java/lang/invoke/VarHandle" ∧ (parseMethodDescriptor yX7_inverse.desc).map (fun d => d.parameters.length) = some 1 := ⟨rfl, hd_X7_inverse⟩
set_option maxHeartbeats 4000000 in
set_option maxRecDepth 100000 in
theorem c_X7_inverse (l : Launch) (D : va_G)  (p0 : Int32) (Q : Int32 → Prop) (h : wp_X7_inverse p0 Q) : Met l yX7_inverse wsX7_inverse rm_X7_inverse (k_PR D [] wE k_0 [.int p0]) (vp_Si Q) 0 0 (fun _ => False) := by
  refine k_metR (by decide) rfl (Nat.le_of_ble_eq_true rfl) ?_
  intro Γ G E
  unfold wp_X7_inverse at h
  show k_J Γ rm_X7_inverse 1 true wE 0 [(0, .int p0)] [] k_0
  refine r_iload_n G dX7_inverse_0 0 rfl rfl ?_
  refine r_cSR G [.int p0] [] (c_X7_mod (k_l Γ) (k_D Γ) _ _ h) (va_cwS 1 G.2.2.2.2.1 gX7_inverse_X7_mod rfl rfl rfl hd_X7_mod ⟨Nat.le_of_ble_eq_true rfl, Nat.le_of_ble_eq_true rfl⟩) [] rfl (fun _ _ => k_E0) rfl rfl (Nat.le_of_ble_eq_true rfl) dX7_inverse_1 (fun r_1 h => ?_)
  refine r_bipush G (21 : Int32) dX7_inverse_4 kb_21 ?_
  refine r_bipush G (23 : Int32) dX7_inverse_6 kb_23 ?_
  refine r_cSR G [.int r_1, .int (21 : Int32), .int (23 : Int32)] [] (c_X7_power (k_l Γ) (k_D Γ) _ _ _ _ h) (va_cwS 3 G.2.2.2.2.1 gX7_inverse_X7_power rfl rfl rfl hd_X7_power ⟨Nat.le_of_ble_eq_true rfl, Nat.le_of_ble_eq_true rfl⟩) [] rfl (fun _ _ => k_E0) rfl rfl (Nat.le_of_ble_eq_true rfl) dX7_inverse_8 (fun r_8 h => ?_)
  exact r_iretR G E dX7_inverse_11 h
abbrev rm_X7_weight : Room := { frames := 2, cells := 0, slots := 0, locals := 44 }
def wp_X7_weight (p0 p1 p2 : Int32) (Q : Int32 → Prop) : Prop :=
  (k_lp2 (fun (B_5 : Int32 → Int32 → Prop) (x3_5 : Int32) (x4_5 : Int32) => (((7 : Int32) < x4_5 → Q x3_5) ∧ (¬ (7 : Int32) < x4_5 → wp_X7_has p1 x4_5 (fun (r_15 : Int32) => ((r_15 = 0 → B_5 x3_5 (x4_5 + (1 : Int32))) ∧ (¬ r_15 = 0 → ((x4_5 = p0 → B_5 x3_5 (x4_5 + (1 : Int32))) ∧ (¬ x4_5 = p0 → wp_X7_mod (p2 - x4_5) (fun (r_32 : Int32) => wp_X7_inverse (p0 - x4_5) (fun (r_40 : Int32) => wp_X7_mod ((x3_5 * r_32) * r_40) (fun (r_44 : Int32) => B_5 r_44 (x4_5 + (1 : Int32))))))))))))) (1 : Int32) (1 : Int32))
theorem hd_X7_weight : yX7_weight.cls ≠ "java/lang/invoke/MethodHandle" ∧ yX7_weight.cls ≠ "java/lang/invoke/VarHandle" ∧ (parseMethodDescriptor yX7_weight.desc).map (fun d => d.parameters.length) = some 3 := by decide +kernel
theorem hdv_X7_weight : yX7_weight.cls = RX7 ∧ yX7_weight.cls ≠ "java/lang/invoke/MethodHandle" ∧ yX7_weight.cls ≠ "java/lang/invoke/VarHandle" ∧ (parseMethodDescriptor yX7_weight.desc).map (fun d => d.parameters.length) = some 3 := ⟨rfl, hd_X7_weight⟩
set_option maxHeartbeats 4000000 in
set_option maxRecDepth 100000 in
theorem c_X7_weight (l : Launch) (D : va_G)  (p0 p1 p2 : Int32) (Q : Int32 → Prop) (h : wp_X7_weight p0 p1 p2 Q) : Met l yX7_weight wsX7_weight rm_X7_weight (k_PR D [] wE k_0 [.int p0, .int p1, .int p2]) (vp_Si Q) 0 0 (fun _ => False) := by
  refine k_metR (by decide) rfl (Nat.le_of_ble_eq_true rfl) ?_
  intro Γ G E
  unfold wp_X7_weight at h
  show k_J Γ rm_X7_weight 5 true wE 0 [(0, .int p0), (1, .int p1), (2, .int p2)] [] k_0
  refine r_iconst G (1 : Int32) dX7_weight_0 kc_1 ?_
  refine r_istore_n (lv' := [(3, .int (1 : Int32)), (0, .int p0), (1, .int p1), (2, .int p2)]) G dX7_weight_1 rfl (by decide) rfl ?_
  refine r_iconst G (1 : Int32) dX7_weight_2 kc_1 ?_
  refine r_istore (lv' := [(4, .int (1 : Int32)), (3, .int (1 : Int32)), (0, .int p0), (1, .int p1), (2, .int p2)]) G dX7_weight_3 (by decide) rfl ?_
  obtain ⟨I_5, n_5, h, hI_5⟩ := h
  have key_5 : ∀ (n : Nat) (x3_5 : Int32) (x4_5 : Int32), I_5 n x3_5 x4_5 → k_J Γ rm_X7_weight 5 true wE 5 [(0, .int p0), (1, .int p1), (2, .int p2), (3, .int x3_5), (4, .int x4_5)] [] k_0 := by
    intro n
    induction n using Nat.strongRecOn with
    | ind n ih_5 =>
      intro x3_5 x4_5 h
      replace h := hI_5 n x3_5 x4_5 h
      refine r_iload G dX7_weight_5 4 rfl ?_
      refine r_bipush G (7 : Int32) dX7_weight_7 kb_7 ?_
      refine r_icmp_gt G 54 dX7_weight_9 (by decide) (fun hc => ?_) (fun hc => ?_)
      · replace h := h.1 hc
        refine r_iload_n G dX7_weight_54 3 rfl rfl ?_
        exact r_iretR G E dX7_weight_55 h
      · replace h := h.2 hc
        refine r_iload_n G dX7_weight_12 1 rfl rfl ?_
        refine r_iload G dX7_weight_13 4 rfl ?_
        refine r_cSR G [.int p1, .int x4_5] [] (c_X7_has (k_l Γ) (k_D Γ) _ _ _ h) (va_cwS 2 G.2.2.2.2.1 gX7_weight_X7_has rfl rfl rfl hd_X7_has ⟨Nat.le_of_ble_eq_true rfl, Nat.le_of_ble_eq_true rfl⟩) [] rfl (fun _ _ => k_E0) rfl rfl (Nat.le_of_ble_eq_true rfl) dX7_weight_15 (fun r_15 h => ?_)
        have hz_15 := h.1
        replace h := h.2
        refine r_if_eq G 48 dX7_weight_18 (by decide) (fun hc => ?_) (fun hc => ?_)
        · replace h := h.1 hc
          refine r_iinc (lv' := [(4, .int (x4_5 + (1 : Int32))), (0, .int p0), (1, .int p1), (2, .int p2), (3, .int x3_5)]) G 4 dX7_weight_48 kc_1 rfl (by decide) rfl ?_
          refine r_goto G 5 dX7_weight_51 (by decide) ?_
          obtain ⟨m_5, hm_5, h⟩ := h
          exact r_sub [1, 2, 3, 4, 0] rfl (ih_5 m_5 hm_5 _ _ h)
        · replace h := h.2 hc
          refine r_iload G dX7_weight_21 4 rfl ?_
          refine r_iload_n G dX7_weight_23 0 rfl rfl ?_
          refine r_icmp_eq G 48 dX7_weight_24 (by decide) (fun hc => ?_) (fun hc => ?_)
          · replace h := h.1 hc
            refine r_iinc (lv' := [(4, .int (x4_5 + (1 : Int32))), (0, .int p0), (1, .int p1), (2, .int p2), (3, .int x3_5)]) G 4 dX7_weight_48 kc_1 rfl (by decide) rfl ?_
            refine r_goto G 5 dX7_weight_51 (by decide) ?_
            obtain ⟨m_5, hm_5, h⟩ := h
            exact r_sub [1, 2, 3, 4, 0] rfl (ih_5 m_5 hm_5 _ _ h)
          · replace h := h.2 hc
            refine r_iload_n G dX7_weight_27 3 rfl rfl ?_
            refine r_iload_n G dX7_weight_28 2 rfl rfl ?_
            refine r_iload G dX7_weight_29 4 rfl ?_
            refine r_isub G dX7_weight_31 ?_
            refine r_cSR G [.int (p2 - x4_5)] [.int x3_5] (c_X7_mod (k_l Γ) (k_D Γ) _ _ h) (va_cwS 1 G.2.2.2.2.1 gX7_weight_X7_mod rfl rfl rfl hd_X7_mod ⟨Nat.le_of_ble_eq_true rfl, Nat.le_of_ble_eq_true rfl⟩) [] rfl (fun _ _ => k_E0) rfl rfl (Nat.le_of_ble_eq_true rfl) dX7_weight_32 (fun r_32 h => ?_)
            refine r_imul G dX7_weight_35 ?_
            refine r_iload_n G dX7_weight_36 0 rfl rfl ?_
            refine r_iload G dX7_weight_37 4 rfl ?_
            refine r_isub G dX7_weight_39 ?_
            refine r_cSR G [.int (p0 - x4_5)] [.int (x3_5 * r_32)] (c_X7_inverse (k_l Γ) (k_D Γ) _ _ h) (va_cwS 1 G.2.2.2.2.1 gX7_weight_X7_inverse rfl rfl rfl hd_X7_inverse ⟨Nat.le_of_ble_eq_true rfl, Nat.le_of_ble_eq_true rfl⟩) [] rfl (fun _ _ => k_E0) rfl rfl (Nat.le_of_ble_eq_true rfl) dX7_weight_40 (fun r_40 h => ?_)
            refine r_imul G dX7_weight_43 ?_
            refine r_cSR G [.int ((x3_5 * r_32) * r_40)] [] (c_X7_mod (k_l Γ) (k_D Γ) _ _ h) (va_cwS 1 G.2.2.2.2.1 gX7_weight_X7_mod rfl rfl rfl hd_X7_mod ⟨Nat.le_of_ble_eq_true rfl, Nat.le_of_ble_eq_true rfl⟩) [] rfl (fun _ _ => k_E0) rfl rfl (Nat.le_of_ble_eq_true rfl) dX7_weight_44 (fun r_44 h => ?_)
            refine r_istore_n (lv' := [(3, .int r_44), (0, .int p0), (1, .int p1), (2, .int p2), (4, .int x4_5)]) G dX7_weight_47 rfl (by decide) rfl ?_
            refine r_iinc (lv' := [(4, .int (x4_5 + (1 : Int32))), (3, .int r_44), (0, .int p0), (1, .int p1), (2, .int p2)]) G 4 dX7_weight_48 kc_1 rfl (by decide) rfl ?_
            refine r_goto G 5 dX7_weight_51 (by decide) ?_
            obtain ⟨m_5, hm_5, h⟩ := h
            exact r_sub [2, 3, 4, 1, 0] rfl (ih_5 m_5 hm_5 _ _ h)
  exact r_sub [2, 3, 4, 1, 0] rfl (key_5 n_5 _ _ h)
abbrev rm_X7_isValue : Room := { frames := 1, cells := 0, slots := 0, locals := 22 }
def wp_X7_isValue (p0 : Int32) (Q : Int32 → Prop) : Prop :=
  wp_X7_in p0 (0 : Int32) (22 : Int32) (fun (r_4 : Int32) => Q r_4)
theorem hd_X7_isValue : yX7_isValue.cls ≠ "java/lang/invoke/MethodHandle" ∧ yX7_isValue.cls ≠ "java/lang/invoke/VarHandle" ∧ (parseMethodDescriptor yX7_isValue.desc).map (fun d => d.parameters.length) = some 1 := by decide +kernel
theorem hdv_X7_isValue : yX7_isValue.cls = RX7 ∧ yX7_isValue.cls ≠ "java/lang/invoke/MethodHandle" ∧ yX7_isValue.cls ≠ "java/lang/invoke/VarHandle" ∧ (parseMethodDescriptor yX7_isValue.desc).map (fun d => d.parameters.length) = some 1 := ⟨rfl, hd_X7_isValue⟩
set_option maxHeartbeats 4000000 in
set_option maxRecDepth 100000 in
theorem c_X7_isValue (l : Launch) (D : va_G)  (p0 : Int32) (Q : Int32 → Prop) (h : wp_X7_isValue p0 Q) : Met l yX7_isValue wsX7_isValue rm_X7_isValue (k_PR D [] wE k_0 [.int p0]) (vp_Si (fun r => (r = 0 ∨ r = 1) ∧ Q r)) 0 0 (fun _ => False) := by
  refine k_metR (by decide) rfl (Nat.le_of_ble_eq_true rfl) ?_
  intro Γ G E
  unfold wp_X7_isValue at h
  show k_J Γ rm_X7_isValue 1 true wE 0 [(0, .int p0)] [] k_0
  refine r_iload_n G dX7_isValue_0 0 rfl rfl ?_
  refine r_iconst G (0 : Int32) dX7_isValue_1 kc_0 ?_
  refine r_bipush G (22 : Int32) dX7_isValue_2 kb_22 ?_
  refine r_cSR G [.int p0, .int (0 : Int32), .int (22 : Int32)] [] (c_X7_in (k_l Γ) (k_D Γ) _ _ _ _ h) (va_cwS 3 G.2.2.2.2.1 gX7_isValue_X7_in rfl rfl rfl hd_X7_in ⟨Nat.le_of_ble_eq_true rfl, Nat.le_of_ble_eq_true rfl⟩) [] rfl (fun _ _ => k_E0) rfl rfl (Nat.le_of_ble_eq_true rfl) dX7_isValue_4 (fun r_4 h => ?_)
  have hz_4 := h.1
  replace h := h.2
  exact r_zretR G E (kz_of hz_4) dX7_isValue_7 ⟨hz_4, h⟩
