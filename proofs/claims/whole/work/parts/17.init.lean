theorem ks_742 : (Int16.ofInt (742)).toInt32 = (742 : Int32) := by decide
abbrev rm_X1_init : Room := { frames := 1, cells := 3, slots := 72, locals := 12 }
theorem hd_X1_init : yX1_init.cls ≠ "java/lang/invoke/MethodHandle" ∧ yX1_init.cls ≠ "java/lang/invoke/VarHandle" ∧ (parseMethodDescriptor yX1_init.desc).map (fun d => d.parameters.length) = some 0 := by decide +kernel
def xw_X1 (cI : ClassId) (h0 : Nat) (b : Nat → Nat) : va_W := [(h0, .inr (1, [.ref (b 1), .ref (b 2), .ref (b 3), .int (0 : Int32)])), ((b 1), .inl (cI, 24, .inl (fun _ => 0))), ((b 2), .inl (cI, 24, .inl (fun _ => 0))), ((b 3), .inl (cI, 24, .inl (fun _ => 0)))]
set_option maxHeartbeats 4000000 in
set_option maxRecDepth 100000 in
theorem c_X1_init (l : Launch) (D : va_G) (cI : ClassId) (h0 : Nat) (sz : Nat) : Met l yX1_init wsX1_init rm_X1_init (k_PI D [(cI, .int)] h0 (.inr (1, [.null, .null, .null, .int 0])) sz) (k_QI D h0 (.inr (1, [.null, .null, .null, .int 0])) sz (xw_X1 cI h0)) 3 72 (va_A [(h0, .inr (1, [.null, .null, .null, .int 0]))] sz) := by
  refine k_metI (by decide) rfl rfl (by decide) ?_ sz
  intro Γ G E hA
  have inX1 : ∀ w ∈ wsX10, w ∈ wsX1_init := by decide +kernel
  have lk_9 := G.2.2.2.2.1 (.fieldLink RX1 9 "FreshShares$Loot" "members" "[I") (by decide +kernel)
  have lk_15 := G.2.2.2.2.1 (.fieldLink RX1 15 "FreshShares$Loot" "epochs" "[I") (by decide +kernel)
  have lk_18 := G.2.2.2.2.1 (.fieldLink RX1 18 "FreshShares$Loot" "shares" "[I") (by decide +kernel)
  have lk_21 := G.2.2.2.2.1 (.fieldLink RX1 21 "FreshShares$Loot" "size" "I") (by decide +kernel)
  refine b_aload_n G dX1_init_0 0 rfl rfl ?_
  refine b_obj G (G.2.2.2.2.1 (.methodLink RX1 3 objectInit) (by decide +kernel)) (G.2.2.2.2.1 (.instanceMethod objectInit) (by decide +kernel)) (G.2.2.2.2.1 (.code objectInit ⟨#[0xb1]⟩ 1 none) (by decide +kernel)) dX1_init_1 (by decide) (by decide) ?_
  refine b_aload_n G dX1_init_4 0 rfl rfl ?_
  refine b_bipush G (24 : Int32) dX1_init_5 kb_24 ?_
  refine b_newi G hA 0 rfl 24 (G.2.2.2.2.1 (.arrayClass .int) (by decide +kernel)) (by decide) (by decide) (by decide) (by decide) (by decide) dX1_init_7 (fun q1 => ?_)
  refine b_eq (ws' := [(h0, .inr (1, [.null, .null, .null, .int (0 : Int32)])), (q1, .inl (cI, 24, .inl (fun _ => 0)))]) rfl ?_
  refine b_putF (ws' := [(h0, .inr (1, [.ref q1, .null, .null, .int (0 : Int32)])), (q1, .inl (cI, 24, .inl (fun _ => 0)))]) G tyX1 tyX1_ok nmX1 inX1 0 0 rfl rfl (by decide) lk_9 rfl rfl E.2.2.2 rfl (ty := .array .int) (by decide +kernel) rfl rfl (Nat.le_of_ble_eq_true rfl) rfl dX1_init_9 ?_
  refine b_aload_n G dX1_init_12 0 rfl rfl ?_
  refine b_bipush G (24 : Int32) dX1_init_13 kb_24 ?_
  refine b_newi G hA 0 rfl 24 (G.2.2.2.2.1 (.arrayClass .int) (by decide +kernel)) (by decide) (by decide) (by decide) (by decide) (by decide) dX1_init_15 (fun q2 => ?_)
  refine b_eq (ws' := [(h0, .inr (1, [.ref q1, .null, .null, .int (0 : Int32)])), (q1, .inl (cI, 24, .inl (fun _ => 0))), (q2, .inl (cI, 24, .inl (fun _ => 0)))]) rfl ?_
  refine b_putF (ws' := [(h0, .inr (1, [.ref q1, .ref q2, .null, .int (0 : Int32)])), (q1, .inl (cI, 24, .inl (fun _ => 0))), (q2, .inl (cI, 24, .inl (fun _ => 0)))]) G tyX1 tyX1_ok nmX1 inX1 0 1 rfl rfl (by decide) lk_15 rfl rfl E.2.2.2 rfl (ty := .array .int) (by decide +kernel) rfl rfl (Nat.le_of_ble_eq_true rfl) rfl dX1_init_17 ?_
  refine b_aload_n G dX1_init_20 0 rfl rfl ?_
  refine b_bipush G (24 : Int32) dX1_init_21 kb_24 ?_
  refine b_newi G hA 0 rfl 24 (G.2.2.2.2.1 (.arrayClass .int) (by decide +kernel)) (by decide) (by decide) (by decide) (by decide) (by decide) dX1_init_23 (fun q3 => ?_)
  refine b_eq (ws' := [(h0, .inr (1, [.ref q1, .ref q2, .null, .int (0 : Int32)])), (q1, .inl (cI, 24, .inl (fun _ => 0))), (q2, .inl (cI, 24, .inl (fun _ => 0))), (q3, .inl (cI, 24, .inl (fun _ => 0)))]) rfl ?_
  refine b_putF (ws' := [(h0, .inr (1, [.ref q1, .ref q2, .ref q3, .int (0 : Int32)])), (q1, .inl (cI, 24, .inl (fun _ => 0))), (q2, .inl (cI, 24, .inl (fun _ => 0))), (q3, .inl (cI, 24, .inl (fun _ => 0)))]) G tyX1 tyX1_ok nmX1 inX1 0 2 rfl rfl (by decide) lk_18 rfl rfl E.2.2.2 rfl (ty := .array .int) (by decide +kernel) rfl rfl (Nat.le_of_ble_eq_true rfl) rfl dX1_init_25 ?_
  refine b_aload_n G dX1_init_28 0 rfl rfl ?_
  refine b_iconst G (0 : Int32) dX1_init_29 kc_0 ?_
  refine b_put (ws' := [(h0, .inr (1, [.ref q1, .ref q2, .ref q3, .int (0 : Int32)])), (q1, .inl (cI, 24, .inl (fun _ => 0))), (q2, .inl (cI, 24, .inl (fun _ => 0))), (q3, .inl (cI, 24, .inl (fun _ => 0)))]) G tyX1 tyX1_ok nmX1 inX1 0 3 rfl rfl (by decide) lk_21 rfl rfl (ty := .int) (by decide +kernel) rfl rfl (Nat.le_of_ble_eq_true rfl) rfl dX1_init_30 ?_
  exact b_vret G E (fun i => [h0, q1, q2, q3].getD i 0) [0, 1, 2, 3] (by decide) rfl rfl dX1_init_33
abbrev rm_X0_init : Room := { frames := 2, cells := 9, slots := 369, locals := 32 }
theorem hd_X0_init : yX0_init.cls ≠ "java/lang/invoke/MethodHandle" ∧ yX0_init.cls ≠ "java/lang/invoke/VarHandle" ∧ (parseMethodDescriptor yX0_init.desc).map (fun d => d.parameters.length) = some 0 := by decide +kernel
def xw_X0 (cI : ClassId) (h0 : Nat) (b : Nat → Nat) : va_W := [(h0, .inr (0, [.ref (b 1), .ref (b 2), .ref (b 3), .ref (b 4), .ref (b 5), .ref (b 6), .int (0 : Int32), .int (0 : Int32), .int (-1 : Int32), .int (0 : Int32), .int (0 : Int32), .int (0 : Int32)])), ((b 1), .inl (cI, 40, .inl (fun _ => 0))), ((b 2), .inl (cI, 40, .inl (upd (upd (upd (upd (upd (upd (upd (fun _ => 0) (9 : Int32).toNatClampNeg (1 : Int32)) (14 : Int32).toNatClampNeg (1 : Int32)) (19 : Int32).toNatClampNeg (1 : Int32)) (24 : Int32).toNatClampNeg (1 : Int32)) (29 : Int32).toNatClampNeg (1 : Int32)) (34 : Int32).toNatClampNeg (1 : Int32)) (39 : Int32).toNatClampNeg (1 : Int32)))), ((b 3), .inl (cI, 8, .inl (fun _ => 0))), ((b 4), .inl (cI, 5, .inl (fun _ => 0))), ((b 5), .inl (cI, 200, .inl (fun _ => 0))), ((b 6), .inr (1, [.ref (b 7), .ref (b 8), .ref (b 9), .int (0 : Int32)])), ((b 7), .inl (cI, 24, .inl (fun _ => 0))), ((b 8), .inl (cI, 24, .inl (fun _ => 0))), ((b 9), .inl (cI, 24, .inl (fun _ => 0)))]
set_option maxHeartbeats 4000000 in
set_option maxRecDepth 100000 in
theorem c_X0_init (l : Launch) (D : va_G) (cI : ClassId) (h0 : Nat) (sz : Nat) : Met l yX0_init wsX0_init rm_X0_init (k_PI D [(cI, .int)] h0 (.inr (0, [.null, .null, .null, .null, .null, .null, .int 0, .int 0, .int 0, .int 0, .int 0, .int 0])) sz) (k_QI D h0 (.inr (0, [.null, .null, .null, .null, .null, .null, .int 0, .int 0, .int 0, .int 0, .int 0, .int 0])) sz (xw_X0 cI h0)) 9 369 (va_A [(h0, .inr (0, [.null, .null, .null, .null, .null, .null, .int 0, .int 0, .int 0, .int 0, .int 0, .int 0]))] sz) := by
  refine k_metI (by decide) rfl rfl (by decide) ?_ sz
  intro Γ G E hA
  have inX0 : ∀ w ∈ wsX00, w ∈ wsX0_init := by decide +kernel
  have inX1 : ∀ w ∈ wsX10, w ∈ wsX0_init := by decide +kernel
  have lk_9 := G.2.2.2.2.1 (.fieldLink RX0 9 "FreshShares$Circle" "rows" "[I") (by decide +kernel)
  have lk_15 := G.2.2.2.2.1 (.fieldLink RX0 15 "FreshShares$Circle" "bends" "[I") (by decide +kernel)
  have lk_18 := G.2.2.2.2.1 (.fieldLink RX0 18 "FreshShares$Circle" "shares" "[I") (by decide +kernel)
  have lk_21 := G.2.2.2.2.1 (.fieldLink RX0 21 "FreshShares$Circle" "seals" "[I") (by decide +kernel)
  have lk_24 := G.2.2.2.2.1 (.fieldLink RX0 24 "FreshShares$Circle" "thresholds" "[I") (by decide +kernel)
  have lk_30 := G.2.2.2.2.1 (.fieldLink RX0 30 "FreshShares$Circle" "stolen" "LFreshShares$Loot;") (by decide +kernel)
  have lk_34 := G.2.2.2.2.1 (.fieldLink RX0 34 "FreshShares$Circle" "holders" "I") (by decide +kernel)
  have lk_38 := G.2.2.2.2.1 (.fieldLink RX0 38 "FreshShares$Circle" "threshold" "I") (by decide +kernel)
  have lk_41 := G.2.2.2.2.1 (.fieldLink RX0 41 "FreshShares$Circle" "epoch" "I") (by decide +kernel)
  have lk_44 := G.2.2.2.2.1 (.fieldLink RX0 44 "FreshShares$Circle" "liars" "I") (by decide +kernel)
  have lk_47 := G.2.2.2.2.1 (.fieldLink RX0 47 "FreshShares$Circle" "struck" "I") (by decide +kernel)
  have lk_50 := G.2.2.2.2.1 (.fieldLink RX0 50 "FreshShares$Circle" "ordersDone" "I") (by decide +kernel)
  refine b_aload_n G dX0_init_0 0 rfl rfl ?_
  refine b_obj G (G.2.2.2.2.1 (.methodLink RX0 3 objectInit) (by decide +kernel)) (G.2.2.2.2.1 (.instanceMethod objectInit) (by decide +kernel)) (G.2.2.2.2.1 (.code objectInit ⟨#[0xb1]⟩ 1 none) (by decide +kernel)) dX0_init_1 (by decide) (by decide) ?_
  refine b_aload_n G dX0_init_4 0 rfl rfl ?_
  refine b_bipush G (40 : Int32) dX0_init_5 kb_40 ?_
  refine b_newi G hA 0 rfl 40 (G.2.2.2.2.1 (.arrayClass .int) (by decide +kernel)) (by decide) (by decide) (by decide) (by decide) (by decide) dX0_init_7 (fun q1 => ?_)
  refine b_eq (ws' := [(h0, .inr (0, [.null, .null, .null, .null, .null, .null, .int (0 : Int32), .int (0 : Int32), .int (0 : Int32), .int (0 : Int32), .int (0 : Int32), .int (0 : Int32)])), (q1, .inl (cI, 40, .inl (fun _ => 0)))]) rfl ?_
  refine b_putF (ws' := [(h0, .inr (0, [.ref q1, .null, .null, .null, .null, .null, .int (0 : Int32), .int (0 : Int32), .int (0 : Int32), .int (0 : Int32), .int (0 : Int32), .int (0 : Int32)])), (q1, .inl (cI, 40, .inl (fun _ => 0)))]) G tyX0 tyX0_ok nmX0 inX0 0 0 rfl rfl (by decide) lk_9 rfl rfl E.2.2.2 rfl (ty := .array .int) (by decide +kernel) rfl rfl (Nat.le_of_ble_eq_true rfl) rfl dX0_init_9 ?_
  refine b_aload_n G dX0_init_12 0 rfl rfl ?_
  refine b_bipush G (40 : Int32) dX0_init_13 kb_40 ?_
  refine b_newi G hA 0 rfl 40 (G.2.2.2.2.1 (.arrayClass .int) (by decide +kernel)) (by decide) (by decide) (by decide) (by decide) (by decide) dX0_init_15 (fun q2 => ?_)
  refine b_eq (ws' := [(h0, .inr (0, [.ref q1, .null, .null, .null, .null, .null, .int (0 : Int32), .int (0 : Int32), .int (0 : Int32), .int (0 : Int32), .int (0 : Int32), .int (0 : Int32)])), (q1, .inl (cI, 40, .inl (fun _ => 0))), (q2, .inl (cI, 40, .inl (fun _ => 0)))]) rfl ?_
  refine b_putF (ws' := [(h0, .inr (0, [.ref q1, .ref q2, .null, .null, .null, .null, .int (0 : Int32), .int (0 : Int32), .int (0 : Int32), .int (0 : Int32), .int (0 : Int32), .int (0 : Int32)])), (q1, .inl (cI, 40, .inl (fun _ => 0))), (q2, .inl (cI, 40, .inl (fun _ => 0)))]) G tyX0 tyX0_ok nmX0 inX0 0 1 rfl rfl (by decide) lk_15 rfl rfl E.2.2.2 rfl (ty := .array .int) (by decide +kernel) rfl rfl (Nat.le_of_ble_eq_true rfl) rfl dX0_init_17 ?_
  refine b_aload_n G dX0_init_20 0 rfl rfl ?_
  refine b_bipush G (8 : Int32) dX0_init_21 kb_8 ?_
  refine b_newi G hA 0 rfl 8 (G.2.2.2.2.1 (.arrayClass .int) (by decide +kernel)) (by decide) (by decide) (by decide) (by decide) (by decide) dX0_init_23 (fun q3 => ?_)
  refine b_eq (ws' := [(h0, .inr (0, [.ref q1, .ref q2, .null, .null, .null, .null, .int (0 : Int32), .int (0 : Int32), .int (0 : Int32), .int (0 : Int32), .int (0 : Int32), .int (0 : Int32)])), (q1, .inl (cI, 40, .inl (fun _ => 0))), (q2, .inl (cI, 40, .inl (fun _ => 0))), (q3, .inl (cI, 8, .inl (fun _ => 0)))]) rfl ?_
  refine b_putF (ws' := [(h0, .inr (0, [.ref q1, .ref q2, .ref q3, .null, .null, .null, .int (0 : Int32), .int (0 : Int32), .int (0 : Int32), .int (0 : Int32), .int (0 : Int32), .int (0 : Int32)])), (q1, .inl (cI, 40, .inl (fun _ => 0))), (q2, .inl (cI, 40, .inl (fun _ => 0))), (q3, .inl (cI, 8, .inl (fun _ => 0)))]) G tyX0 tyX0_ok nmX0 inX0 0 2 rfl rfl (by decide) lk_18 rfl rfl E.2.2.2 rfl (ty := .array .int) (by decide +kernel) rfl rfl (Nat.le_of_ble_eq_true rfl) rfl dX0_init_25 ?_
  refine b_aload_n G dX0_init_28 0 rfl rfl ?_
  refine b_iconst G (5 : Int32) dX0_init_29 kc_5 ?_
  refine b_newi G hA 0 rfl 5 (G.2.2.2.2.1 (.arrayClass .int) (by decide +kernel)) (by decide) (by decide) (by decide) (by decide) (by decide) dX0_init_30 (fun q4 => ?_)
  refine b_eq (ws' := [(h0, .inr (0, [.ref q1, .ref q2, .ref q3, .null, .null, .null, .int (0 : Int32), .int (0 : Int32), .int (0 : Int32), .int (0 : Int32), .int (0 : Int32), .int (0 : Int32)])), (q1, .inl (cI, 40, .inl (fun _ => 0))), (q2, .inl (cI, 40, .inl (fun _ => 0))), (q3, .inl (cI, 8, .inl (fun _ => 0))), (q4, .inl (cI, 5, .inl (fun _ => 0)))]) rfl ?_
  refine b_putF (ws' := [(h0, .inr (0, [.ref q1, .ref q2, .ref q3, .ref q4, .null, .null, .int (0 : Int32), .int (0 : Int32), .int (0 : Int32), .int (0 : Int32), .int (0 : Int32), .int (0 : Int32)])), (q1, .inl (cI, 40, .inl (fun _ => 0))), (q2, .inl (cI, 40, .inl (fun _ => 0))), (q3, .inl (cI, 8, .inl (fun _ => 0))), (q4, .inl (cI, 5, .inl (fun _ => 0)))]) G tyX0 tyX0_ok nmX0 inX0 0 3 rfl rfl (by decide) lk_21 rfl rfl E.2.2.2 rfl (ty := .array .int) (by decide +kernel) rfl rfl (Nat.le_of_ble_eq_true rfl) rfl dX0_init_32 ?_
  refine b_aload_n G dX0_init_35 0 rfl rfl ?_
  refine b_sipush G (200 : Int32) dX0_init_36 ks_200 ?_
  refine b_newi G hA 0 rfl 200 (G.2.2.2.2.1 (.arrayClass .int) (by decide +kernel)) (by decide) (by decide) (by decide) (by decide) (by decide) dX0_init_39 (fun q5 => ?_)
  refine b_eq (ws' := [(h0, .inr (0, [.ref q1, .ref q2, .ref q3, .ref q4, .null, .null, .int (0 : Int32), .int (0 : Int32), .int (0 : Int32), .int (0 : Int32), .int (0 : Int32), .int (0 : Int32)])), (q1, .inl (cI, 40, .inl (fun _ => 0))), (q2, .inl (cI, 40, .inl (fun _ => 0))), (q3, .inl (cI, 8, .inl (fun _ => 0))), (q4, .inl (cI, 5, .inl (fun _ => 0))), (q5, .inl (cI, 200, .inl (fun _ => 0)))]) rfl ?_
  refine b_putF (ws' := [(h0, .inr (0, [.ref q1, .ref q2, .ref q3, .ref q4, .ref q5, .null, .int (0 : Int32), .int (0 : Int32), .int (0 : Int32), .int (0 : Int32), .int (0 : Int32), .int (0 : Int32)])), (q1, .inl (cI, 40, .inl (fun _ => 0))), (q2, .inl (cI, 40, .inl (fun _ => 0))), (q3, .inl (cI, 8, .inl (fun _ => 0))), (q4, .inl (cI, 5, .inl (fun _ => 0))), (q5, .inl (cI, 200, .inl (fun _ => 0)))]) G tyX0 tyX0_ok nmX0 inX0 0 4 rfl rfl (by decide) lk_24 rfl rfl E.2.2.2 rfl (ty := .array .int) (by decide +kernel) rfl rfl (Nat.le_of_ble_eq_true rfl) rfl dX0_init_41 ?_
  refine b_aload_n G dX0_init_44 0 rfl rfl ?_
  refine b_new (ci := 1) G hA inX1 tyX1 tyX1_ok (G.2.2.2.2.1 (.classLink RX0 27 RX1) (by decide +kernel)) (G.2.2.2.2.1 (.instantiable RX1 4) (by decide +kernel)) (G.2.2.2.2.1 (.initialized RX1) (by decide +kernel)) rfl [.null, .null, .null, .int 0] (by decide) (by decide) (by decide) dX0_init_45 (fun q6 => ?_)
  refine b_eq (ws' := [(h0, .inr (0, [.ref q1, .ref q2, .ref q3, .ref q4, .ref q5, .null, .int (0 : Int32), .int (0 : Int32), .int (0 : Int32), .int (0 : Int32), .int (0 : Int32), .int (0 : Int32)])), (q1, .inl (cI, 40, .inl (fun _ => 0))), (q2, .inl (cI, 40, .inl (fun _ => 0))), (q3, .inl (cI, 8, .inl (fun _ => 0))), (q4, .inl (cI, 5, .inl (fun _ => 0))), (q5, .inl (cI, 200, .inl (fun _ => 0))), (q6, .inr (1, [.null, .null, .null, .int (0 : Int32)]))]) rfl ?_
  refine b_dup G rfl dX0_init_48 ?_
  refine b_init G hA [.ref q6, .ref h0] (c_X1_init (k_l Γ) (k_D Γ) cI q6) (cwI 0 G.2.2.2.2.1 gX0_init_X1_init rfl rfl rfl (G.2.2.2.2.1 (.initialized RX1) (by decide +kernel)) (G.2.2.2.2.1 (.methodLink RX0 29 yX1_init) (by decide +kernel)) (G.2.2.2.2.1 (.instanceMethod yX1_init) (by decide +kernel)) rfl hd_X1_init ⟨by decide, by decide⟩) [0] rfl 6 rfl [(h0, .inr (0, [.ref q1, .ref q2, .ref q3, .ref q4, .ref q5, .null, .int (0 : Int32), .int (0 : Int32), .int (0 : Int32), .int (0 : Int32), .int (0 : Int32), .int (0 : Int32)])), (q1, .inl (cI, 40, .inl (fun _ => 0))), (q2, .inl (cI, 40, .inl (fun _ => 0))), (q3, .inl (cI, 8, .inl (fun _ => 0))), (q4, .inl (cI, 5, .inl (fun _ => 0))), (q5, .inl (cI, 200, .inl (fun _ => 0)))] [0, 1, 2, 3, 4, 5] rfl (by decide) (by decide) (Nat.le_of_ble_eq_true rfl) ⟨by decide, by decide⟩ dX0_init_49 (fun b7 => ?_)
  refine b_eq (ws' := [(h0, .inr (0, [.ref q1, .ref q2, .ref q3, .ref q4, .ref q5, .null, .int (0 : Int32), .int (0 : Int32), .int (0 : Int32), .int (0 : Int32), .int (0 : Int32), .int (0 : Int32)])), (q1, .inl (cI, 40, .inl (fun _ => 0))), (q2, .inl (cI, 40, .inl (fun _ => 0))), (q3, .inl (cI, 8, .inl (fun _ => 0))), (q4, .inl (cI, 5, .inl (fun _ => 0))), (q5, .inl (cI, 200, .inl (fun _ => 0))), (q6, .inr (1, [.ref (b7 1), .ref (b7 2), .ref (b7 3), .int (0 : Int32)])), ((b7 1), .inl (cI, 24, .inl (fun _ => 0))), ((b7 2), .inl (cI, 24, .inl (fun _ => 0))), ((b7 3), .inl (cI, 24, .inl (fun _ => 0)))]) rfl ?_
  refine b_putF (ws' := [(h0, .inr (0, [.ref q1, .ref q2, .ref q3, .ref q4, .ref q5, .ref q6, .int (0 : Int32), .int (0 : Int32), .int (0 : Int32), .int (0 : Int32), .int (0 : Int32), .int (0 : Int32)])), (q1, .inl (cI, 40, .inl (fun _ => 0))), (q2, .inl (cI, 40, .inl (fun _ => 0))), (q3, .inl (cI, 8, .inl (fun _ => 0))), (q4, .inl (cI, 5, .inl (fun _ => 0))), (q5, .inl (cI, 200, .inl (fun _ => 0))), (q6, .inr (1, [.ref (b7 1), .ref (b7 2), .ref (b7 3), .int (0 : Int32)])), ((b7 1), .inl (cI, 24, .inl (fun _ => 0))), ((b7 2), .inl (cI, 24, .inl (fun _ => 0))), ((b7 3), .inl (cI, 24, .inl (fun _ => 0)))]) G tyX0 tyX0_ok nmX0 inX0 0 5 rfl rfl (by decide) lk_30 rfl rfl E.2.2.2 rfl (ty := .object "FreshShares$Loot") (by decide +kernel) rfl rfl (Nat.le_of_ble_eq_true rfl) rfl dX0_init_52 ?_
  refine b_aload_n G dX0_init_55 0 rfl rfl ?_
  refine b_iconst G (0 : Int32) dX0_init_56 kc_0 ?_
  refine b_put (ws' := [(h0, .inr (0, [.ref q1, .ref q2, .ref q3, .ref q4, .ref q5, .ref q6, .int (0 : Int32), .int (0 : Int32), .int (0 : Int32), .int (0 : Int32), .int (0 : Int32), .int (0 : Int32)])), (q1, .inl (cI, 40, .inl (fun _ => 0))), (q2, .inl (cI, 40, .inl (fun _ => 0))), (q3, .inl (cI, 8, .inl (fun _ => 0))), (q4, .inl (cI, 5, .inl (fun _ => 0))), (q5, .inl (cI, 200, .inl (fun _ => 0))), (q6, .inr (1, [.ref (b7 1), .ref (b7 2), .ref (b7 3), .int (0 : Int32)])), ((b7 1), .inl (cI, 24, .inl (fun _ => 0))), ((b7 2), .inl (cI, 24, .inl (fun _ => 0))), ((b7 3), .inl (cI, 24, .inl (fun _ => 0)))]) G tyX0 tyX0_ok nmX0 inX0 0 6 rfl rfl (by decide) lk_34 rfl rfl (ty := .int) (by decide +kernel) rfl rfl (Nat.le_of_ble_eq_true rfl) rfl dX0_init_57 ?_
  refine b_aload_n G dX0_init_60 0 rfl rfl ?_
  refine b_iconst G (0 : Int32) dX0_init_61 kc_0 ?_
  refine b_put (ws' := [(h0, .inr (0, [.ref q1, .ref q2, .ref q3, .ref q4, .ref q5, .ref q6, .int (0 : Int32), .int (0 : Int32), .int (0 : Int32), .int (0 : Int32), .int (0 : Int32), .int (0 : Int32)])), (q1, .inl (cI, 40, .inl (fun _ => 0))), (q2, .inl (cI, 40, .inl (fun _ => 0))), (q3, .inl (cI, 8, .inl (fun _ => 0))), (q4, .inl (cI, 5, .inl (fun _ => 0))), (q5, .inl (cI, 200, .inl (fun _ => 0))), (q6, .inr (1, [.ref (b7 1), .ref (b7 2), .ref (b7 3), .int (0 : Int32)])), ((b7 1), .inl (cI, 24, .inl (fun _ => 0))), ((b7 2), .inl (cI, 24, .inl (fun _ => 0))), ((b7 3), .inl (cI, 24, .inl (fun _ => 0)))]) G tyX0 tyX0_ok nmX0 inX0 0 7 rfl rfl (by decide) lk_38 rfl rfl (ty := .int) (by decide +kernel) rfl rfl (Nat.le_of_ble_eq_true rfl) rfl dX0_init_62 ?_
  refine b_aload_n G dX0_init_65 0 rfl rfl ?_
  refine b_iconst G (-1 : Int32) dX0_init_66 kc_m1 ?_
  refine b_put (ws' := [(h0, .inr (0, [.ref q1, .ref q2, .ref q3, .ref q4, .ref q5, .ref q6, .int (0 : Int32), .int (0 : Int32), .int (-1 : Int32), .int (0 : Int32), .int (0 : Int32), .int (0 : Int32)])), (q1, .inl (cI, 40, .inl (fun _ => 0))), (q2, .inl (cI, 40, .inl (fun _ => 0))), (q3, .inl (cI, 8, .inl (fun _ => 0))), (q4, .inl (cI, 5, .inl (fun _ => 0))), (q5, .inl (cI, 200, .inl (fun _ => 0))), (q6, .inr (1, [.ref (b7 1), .ref (b7 2), .ref (b7 3), .int (0 : Int32)])), ((b7 1), .inl (cI, 24, .inl (fun _ => 0))), ((b7 2), .inl (cI, 24, .inl (fun _ => 0))), ((b7 3), .inl (cI, 24, .inl (fun _ => 0)))]) G tyX0 tyX0_ok nmX0 inX0 0 8 rfl rfl (by decide) lk_41 rfl rfl (ty := .int) (by decide +kernel) rfl rfl (Nat.le_of_ble_eq_true rfl) rfl dX0_init_67 ?_
  refine b_aload_n G dX0_init_70 0 rfl rfl ?_
  refine b_iconst G (0 : Int32) dX0_init_71 kc_0 ?_
  refine b_put (ws' := [(h0, .inr (0, [.ref q1, .ref q2, .ref q3, .ref q4, .ref q5, .ref q6, .int (0 : Int32), .int (0 : Int32), .int (-1 : Int32), .int (0 : Int32), .int (0 : Int32), .int (0 : Int32)])), (q1, .inl (cI, 40, .inl (fun _ => 0))), (q2, .inl (cI, 40, .inl (fun _ => 0))), (q3, .inl (cI, 8, .inl (fun _ => 0))), (q4, .inl (cI, 5, .inl (fun _ => 0))), (q5, .inl (cI, 200, .inl (fun _ => 0))), (q6, .inr (1, [.ref (b7 1), .ref (b7 2), .ref (b7 3), .int (0 : Int32)])), ((b7 1), .inl (cI, 24, .inl (fun _ => 0))), ((b7 2), .inl (cI, 24, .inl (fun _ => 0))), ((b7 3), .inl (cI, 24, .inl (fun _ => 0)))]) G tyX0 tyX0_ok nmX0 inX0 0 9 rfl rfl (by decide) lk_44 rfl rfl (ty := .int) (by decide +kernel) rfl rfl (Nat.le_of_ble_eq_true rfl) rfl dX0_init_72 ?_
  refine b_aload_n G dX0_init_75 0 rfl rfl ?_
  refine b_iconst G (0 : Int32) dX0_init_76 kc_0 ?_
  refine b_put (ws' := [(h0, .inr (0, [.ref q1, .ref q2, .ref q3, .ref q4, .ref q5, .ref q6, .int (0 : Int32), .int (0 : Int32), .int (-1 : Int32), .int (0 : Int32), .int (0 : Int32), .int (0 : Int32)])), (q1, .inl (cI, 40, .inl (fun _ => 0))), (q2, .inl (cI, 40, .inl (fun _ => 0))), (q3, .inl (cI, 8, .inl (fun _ => 0))), (q4, .inl (cI, 5, .inl (fun _ => 0))), (q5, .inl (cI, 200, .inl (fun _ => 0))), (q6, .inr (1, [.ref (b7 1), .ref (b7 2), .ref (b7 3), .int (0 : Int32)])), ((b7 1), .inl (cI, 24, .inl (fun _ => 0))), ((b7 2), .inl (cI, 24, .inl (fun _ => 0))), ((b7 3), .inl (cI, 24, .inl (fun _ => 0)))]) G tyX0 tyX0_ok nmX0 inX0 0 10 rfl rfl (by decide) lk_47 rfl rfl (ty := .int) (by decide +kernel) rfl rfl (Nat.le_of_ble_eq_true rfl) rfl dX0_init_77 ?_
  refine b_aload_n G dX0_init_80 0 rfl rfl ?_
  refine b_iconst G (0 : Int32) dX0_init_81 kc_0 ?_
  refine b_put (ws' := [(h0, .inr (0, [.ref q1, .ref q2, .ref q3, .ref q4, .ref q5, .ref q6, .int (0 : Int32), .int (0 : Int32), .int (-1 : Int32), .int (0 : Int32), .int (0 : Int32), .int (0 : Int32)])), (q1, .inl (cI, 40, .inl (fun _ => 0))), (q2, .inl (cI, 40, .inl (fun _ => 0))), (q3, .inl (cI, 8, .inl (fun _ => 0))), (q4, .inl (cI, 5, .inl (fun _ => 0))), (q5, .inl (cI, 200, .inl (fun _ => 0))), (q6, .inr (1, [.ref (b7 1), .ref (b7 2), .ref (b7 3), .int (0 : Int32)])), ((b7 1), .inl (cI, 24, .inl (fun _ => 0))), ((b7 2), .inl (cI, 24, .inl (fun _ => 0))), ((b7 3), .inl (cI, 24, .inl (fun _ => 0)))]) G tyX0 tyX0_ok nmX0 inX0 0 11 rfl rfl (by decide) lk_50 rfl rfl (ty := .int) (by decide +kernel) rfl rfl (Nat.le_of_ble_eq_true rfl) rfl dX0_init_82 ?_
  refine b_iconst G (1 : Int32) dX0_init_85 kc_1 ?_
  refine b_istore_n (lv' := [(1, .int (1 : Int32)), (0, .ref h0)]) G dX0_init_86 rfl (by decide) rfl ?_
  refine b_iload_n G dX0_init_87 0 rfl rfl ?_
  refine b_bipush G (7 : Int32) dX0_init_88 kb_7 ?_
  refine b_icmp_gt_f G 110 dX0_init_90 (by decide) (by decide) ?_
  refine b_aload_n G dX0_init_93 1 rfl rfl ?_
  refine b_get G inX0 0 1 rfl rfl (by decide) lk_15 rfl rfl dX0_init_94 ?_
  refine b_iload_n G dX0_init_97 0 rfl rfl ?_
  refine b_iconst G (5 : Int32) dX0_init_98 kc_5 ?_
  refine b_imul G dX0_init_99 ?_
  refine b_top (5 : Int32) (by decide) ?_
  refine b_iconst G (4 : Int32) dX0_init_100 kc_4 ?_
  refine b_iadd G dX0_init_101 ?_
  refine b_top (9 : Int32) (by decide) ?_
  refine b_iconst G (1 : Int32) dX0_init_102 kc_1 ?_
  refine b_iast (ws' := [(h0, .inr (0, [.ref q1, .ref q2, .ref q3, .ref q4, .ref q5, .ref q6, .int (0 : Int32), .int (0 : Int32), .int (-1 : Int32), .int (0 : Int32), .int (0 : Int32), .int (0 : Int32)])), (q1, .inl (cI, 40, .inl (fun _ => 0))), (q2, .inl (cI, 40, .inl (upd (fun _ => 0) (9 : Int32).toNatClampNeg (1 : Int32)))), (q3, .inl (cI, 8, .inl (fun _ => 0))), (q4, .inl (cI, 5, .inl (fun _ => 0))), (q5, .inl (cI, 200, .inl (fun _ => 0))), (q6, .inr (1, [.ref (b7 1), .ref (b7 2), .ref (b7 3), .int (0 : Int32)])), ((b7 1), .inl (cI, 24, .inl (fun _ => 0))), ((b7 2), .inl (cI, 24, .inl (fun _ => 0))), ((b7 3), .inl (cI, 24, .inl (fun _ => 0)))]) G 2 0 rfl rfl (by unfold vp_in; decide) rfl dX0_init_103 ?_
  refine b_iinc (lv' := [(1, .int (2 : Int32)), (0, .ref h0)]) G 0 dX0_init_104 kc_1 rfl (by decide) rfl ?_
  refine b_goto G 87 dX0_init_107 (by decide) ?_
  refine b_iload_n G dX0_init_87 0 rfl rfl ?_
  refine b_bipush G (7 : Int32) dX0_init_88 kb_7 ?_
  refine b_icmp_gt_f G 110 dX0_init_90 (by decide) (by decide) ?_
  refine b_aload_n G dX0_init_93 1 rfl rfl ?_
  refine b_get G inX0 0 1 rfl rfl (by decide) lk_15 rfl rfl dX0_init_94 ?_
  refine b_iload_n G dX0_init_97 0 rfl rfl ?_
  refine b_iconst G (5 : Int32) dX0_init_98 kc_5 ?_
  refine b_imul G dX0_init_99 ?_
  refine b_top (10 : Int32) (by decide) ?_
  refine b_iconst G (4 : Int32) dX0_init_100 kc_4 ?_
  refine b_iadd G dX0_init_101 ?_
  refine b_top (14 : Int32) (by decide) ?_
  refine b_iconst G (1 : Int32) dX0_init_102 kc_1 ?_
  refine b_iast (ws' := [(h0, .inr (0, [.ref q1, .ref q2, .ref q3, .ref q4, .ref q5, .ref q6, .int (0 : Int32), .int (0 : Int32), .int (-1 : Int32), .int (0 : Int32), .int (0 : Int32), .int (0 : Int32)])), (q1, .inl (cI, 40, .inl (fun _ => 0))), (q2, .inl (cI, 40, .inl (upd (upd (fun _ => 0) (9 : Int32).toNatClampNeg (1 : Int32)) (14 : Int32).toNatClampNeg (1 : Int32)))), (q3, .inl (cI, 8, .inl (fun _ => 0))), (q4, .inl (cI, 5, .inl (fun _ => 0))), (q5, .inl (cI, 200, .inl (fun _ => 0))), (q6, .inr (1, [.ref (b7 1), .ref (b7 2), .ref (b7 3), .int (0 : Int32)])), ((b7 1), .inl (cI, 24, .inl (fun _ => 0))), ((b7 2), .inl (cI, 24, .inl (fun _ => 0))), ((b7 3), .inl (cI, 24, .inl (fun _ => 0)))]) G 2 0 rfl rfl (by unfold vp_in; decide) rfl dX0_init_103 ?_
  refine b_iinc (lv' := [(1, .int (3 : Int32)), (0, .ref h0)]) G 0 dX0_init_104 kc_1 rfl (by decide) rfl ?_
  refine b_goto G 87 dX0_init_107 (by decide) ?_
  refine b_iload_n G dX0_init_87 0 rfl rfl ?_
  refine b_bipush G (7 : Int32) dX0_init_88 kb_7 ?_
  refine b_icmp_gt_f G 110 dX0_init_90 (by decide) (by decide) ?_
  refine b_aload_n G dX0_init_93 1 rfl rfl ?_
  refine b_get G inX0 0 1 rfl rfl (by decide) lk_15 rfl rfl dX0_init_94 ?_
  refine b_iload_n G dX0_init_97 0 rfl rfl ?_
  refine b_iconst G (5 : Int32) dX0_init_98 kc_5 ?_
  refine b_imul G dX0_init_99 ?_
  refine b_top (15 : Int32) (by decide) ?_
  refine b_iconst G (4 : Int32) dX0_init_100 kc_4 ?_
  refine b_iadd G dX0_init_101 ?_
  refine b_top (19 : Int32) (by decide) ?_
  refine b_iconst G (1 : Int32) dX0_init_102 kc_1 ?_
  refine b_iast (ws' := [(h0, .inr (0, [.ref q1, .ref q2, .ref q3, .ref q4, .ref q5, .ref q6, .int (0 : Int32), .int (0 : Int32), .int (-1 : Int32), .int (0 : Int32), .int (0 : Int32), .int (0 : Int32)])), (q1, .inl (cI, 40, .inl (fun _ => 0))), (q2, .inl (cI, 40, .inl (upd (upd (upd (fun _ => 0) (9 : Int32).toNatClampNeg (1 : Int32)) (14 : Int32).toNatClampNeg (1 : Int32)) (19 : Int32).toNatClampNeg (1 : Int32)))), (q3, .inl (cI, 8, .inl (fun _ => 0))), (q4, .inl (cI, 5, .inl (fun _ => 0))), (q5, .inl (cI, 200, .inl (fun _ => 0))), (q6, .inr (1, [.ref (b7 1), .ref (b7 2), .ref (b7 3), .int (0 : Int32)])), ((b7 1), .inl (cI, 24, .inl (fun _ => 0))), ((b7 2), .inl (cI, 24, .inl (fun _ => 0))), ((b7 3), .inl (cI, 24, .inl (fun _ => 0)))]) G 2 0 rfl rfl (by unfold vp_in; decide) rfl dX0_init_103 ?_
  refine b_iinc (lv' := [(1, .int (4 : Int32)), (0, .ref h0)]) G 0 dX0_init_104 kc_1 rfl (by decide) rfl ?_
  refine b_goto G 87 dX0_init_107 (by decide) ?_
  refine b_iload_n G dX0_init_87 0 rfl rfl ?_
  refine b_bipush G (7 : Int32) dX0_init_88 kb_7 ?_
  refine b_icmp_gt_f G 110 dX0_init_90 (by decide) (by decide) ?_
  refine b_aload_n G dX0_init_93 1 rfl rfl ?_
  refine b_get G inX0 0 1 rfl rfl (by decide) lk_15 rfl rfl dX0_init_94 ?_
  refine b_iload_n G dX0_init_97 0 rfl rfl ?_
  refine b_iconst G (5 : Int32) dX0_init_98 kc_5 ?_
  refine b_imul G dX0_init_99 ?_
  refine b_top (20 : Int32) (by decide) ?_
  refine b_iconst G (4 : Int32) dX0_init_100 kc_4 ?_
  refine b_iadd G dX0_init_101 ?_
  refine b_top (24 : Int32) (by decide) ?_
  refine b_iconst G (1 : Int32) dX0_init_102 kc_1 ?_
  refine b_iast (ws' := [(h0, .inr (0, [.ref q1, .ref q2, .ref q3, .ref q4, .ref q5, .ref q6, .int (0 : Int32), .int (0 : Int32), .int (-1 : Int32), .int (0 : Int32), .int (0 : Int32), .int (0 : Int32)])), (q1, .inl (cI, 40, .inl (fun _ => 0))), (q2, .inl (cI, 40, .inl (upd (upd (upd (upd (fun _ => 0) (9 : Int32).toNatClampNeg (1 : Int32)) (14 : Int32).toNatClampNeg (1 : Int32)) (19 : Int32).toNatClampNeg (1 : Int32)) (24 : Int32).toNatClampNeg (1 : Int32)))), (q3, .inl (cI, 8, .inl (fun _ => 0))), (q4, .inl (cI, 5, .inl (fun _ => 0))), (q5, .inl (cI, 200, .inl (fun _ => 0))), (q6, .inr (1, [.ref (b7 1), .ref (b7 2), .ref (b7 3), .int (0 : Int32)])), ((b7 1), .inl (cI, 24, .inl (fun _ => 0))), ((b7 2), .inl (cI, 24, .inl (fun _ => 0))), ((b7 3), .inl (cI, 24, .inl (fun _ => 0)))]) G 2 0 rfl rfl (by unfold vp_in; decide) rfl dX0_init_103 ?_
  refine b_iinc (lv' := [(1, .int (5 : Int32)), (0, .ref h0)]) G 0 dX0_init_104 kc_1 rfl (by decide) rfl ?_
  refine b_goto G 87 dX0_init_107 (by decide) ?_
  refine b_iload_n G dX0_init_87 0 rfl rfl ?_
  refine b_bipush G (7 : Int32) dX0_init_88 kb_7 ?_
  refine b_icmp_gt_f G 110 dX0_init_90 (by decide) (by decide) ?_
  refine b_aload_n G dX0_init_93 1 rfl rfl ?_
  refine b_get G inX0 0 1 rfl rfl (by decide) lk_15 rfl rfl dX0_init_94 ?_
  refine b_iload_n G dX0_init_97 0 rfl rfl ?_
  refine b_iconst G (5 : Int32) dX0_init_98 kc_5 ?_
  refine b_imul G dX0_init_99 ?_
  refine b_top (25 : Int32) (by decide) ?_
  refine b_iconst G (4 : Int32) dX0_init_100 kc_4 ?_
  refine b_iadd G dX0_init_101 ?_
  refine b_top (29 : Int32) (by decide) ?_
  refine b_iconst G (1 : Int32) dX0_init_102 kc_1 ?_
  refine b_iast (ws' := [(h0, .inr (0, [.ref q1, .ref q2, .ref q3, .ref q4, .ref q5, .ref q6, .int (0 : Int32), .int (0 : Int32), .int (-1 : Int32), .int (0 : Int32), .int (0 : Int32), .int (0 : Int32)])), (q1, .inl (cI, 40, .inl (fun _ => 0))), (q2, .inl (cI, 40, .inl (upd (upd (upd (upd (upd (fun _ => 0) (9 : Int32).toNatClampNeg (1 : Int32)) (14 : Int32).toNatClampNeg (1 : Int32)) (19 : Int32).toNatClampNeg (1 : Int32)) (24 : Int32).toNatClampNeg (1 : Int32)) (29 : Int32).toNatClampNeg (1 : Int32)))), (q3, .inl (cI, 8, .inl (fun _ => 0))), (q4, .inl (cI, 5, .inl (fun _ => 0))), (q5, .inl (cI, 200, .inl (fun _ => 0))), (q6, .inr (1, [.ref (b7 1), .ref (b7 2), .ref (b7 3), .int (0 : Int32)])), ((b7 1), .inl (cI, 24, .inl (fun _ => 0))), ((b7 2), .inl (cI, 24, .inl (fun _ => 0))), ((b7 3), .inl (cI, 24, .inl (fun _ => 0)))]) G 2 0 rfl rfl (by unfold vp_in; decide) rfl dX0_init_103 ?_
  refine b_iinc (lv' := [(1, .int (6 : Int32)), (0, .ref h0)]) G 0 dX0_init_104 kc_1 rfl (by decide) rfl ?_
  refine b_goto G 87 dX0_init_107 (by decide) ?_
  refine b_iload_n G dX0_init_87 0 rfl rfl ?_
  refine b_bipush G (7 : Int32) dX0_init_88 kb_7 ?_
  refine b_icmp_gt_f G 110 dX0_init_90 (by decide) (by decide) ?_
  refine b_aload_n G dX0_init_93 1 rfl rfl ?_
  refine b_get G inX0 0 1 rfl rfl (by decide) lk_15 rfl rfl dX0_init_94 ?_
  refine b_iload_n G dX0_init_97 0 rfl rfl ?_
  refine b_iconst G (5 : Int32) dX0_init_98 kc_5 ?_
  refine b_imul G dX0_init_99 ?_
  refine b_top (30 : Int32) (by decide) ?_
  refine b_iconst G (4 : Int32) dX0_init_100 kc_4 ?_
  refine b_iadd G dX0_init_101 ?_
  refine b_top (34 : Int32) (by decide) ?_
  refine b_iconst G (1 : Int32) dX0_init_102 kc_1 ?_
  refine b_iast (ws' := [(h0, .inr (0, [.ref q1, .ref q2, .ref q3, .ref q4, .ref q5, .ref q6, .int (0 : Int32), .int (0 : Int32), .int (-1 : Int32), .int (0 : Int32), .int (0 : Int32), .int (0 : Int32)])), (q1, .inl (cI, 40, .inl (fun _ => 0))), (q2, .inl (cI, 40, .inl (upd (upd (upd (upd (upd (upd (fun _ => 0) (9 : Int32).toNatClampNeg (1 : Int32)) (14 : Int32).toNatClampNeg (1 : Int32)) (19 : Int32).toNatClampNeg (1 : Int32)) (24 : Int32).toNatClampNeg (1 : Int32)) (29 : Int32).toNatClampNeg (1 : Int32)) (34 : Int32).toNatClampNeg (1 : Int32)))), (q3, .inl (cI, 8, .inl (fun _ => 0))), (q4, .inl (cI, 5, .inl (fun _ => 0))), (q5, .inl (cI, 200, .inl (fun _ => 0))), (q6, .inr (1, [.ref (b7 1), .ref (b7 2), .ref (b7 3), .int (0 : Int32)])), ((b7 1), .inl (cI, 24, .inl (fun _ => 0))), ((b7 2), .inl (cI, 24, .inl (fun _ => 0))), ((b7 3), .inl (cI, 24, .inl (fun _ => 0)))]) G 2 0 rfl rfl (by unfold vp_in; decide) rfl dX0_init_103 ?_
  refine b_iinc (lv' := [(1, .int (7 : Int32)), (0, .ref h0)]) G 0 dX0_init_104 kc_1 rfl (by decide) rfl ?_
  refine b_goto G 87 dX0_init_107 (by decide) ?_
  refine b_iload_n G dX0_init_87 0 rfl rfl ?_
  refine b_bipush G (7 : Int32) dX0_init_88 kb_7 ?_
  refine b_icmp_gt_f G 110 dX0_init_90 (by decide) (by decide) ?_
  refine b_aload_n G dX0_init_93 1 rfl rfl ?_
  refine b_get G inX0 0 1 rfl rfl (by decide) lk_15 rfl rfl dX0_init_94 ?_
  refine b_iload_n G dX0_init_97 0 rfl rfl ?_
  refine b_iconst G (5 : Int32) dX0_init_98 kc_5 ?_
  refine b_imul G dX0_init_99 ?_
  refine b_top (35 : Int32) (by decide) ?_
  refine b_iconst G (4 : Int32) dX0_init_100 kc_4 ?_
  refine b_iadd G dX0_init_101 ?_
  refine b_top (39 : Int32) (by decide) ?_
  refine b_iconst G (1 : Int32) dX0_init_102 kc_1 ?_
  refine b_iast (ws' := [(h0, .inr (0, [.ref q1, .ref q2, .ref q3, .ref q4, .ref q5, .ref q6, .int (0 : Int32), .int (0 : Int32), .int (-1 : Int32), .int (0 : Int32), .int (0 : Int32), .int (0 : Int32)])), (q1, .inl (cI, 40, .inl (fun _ => 0))), (q2, .inl (cI, 40, .inl (upd (upd (upd (upd (upd (upd (upd (fun _ => 0) (9 : Int32).toNatClampNeg (1 : Int32)) (14 : Int32).toNatClampNeg (1 : Int32)) (19 : Int32).toNatClampNeg (1 : Int32)) (24 : Int32).toNatClampNeg (1 : Int32)) (29 : Int32).toNatClampNeg (1 : Int32)) (34 : Int32).toNatClampNeg (1 : Int32)) (39 : Int32).toNatClampNeg (1 : Int32)))), (q3, .inl (cI, 8, .inl (fun _ => 0))), (q4, .inl (cI, 5, .inl (fun _ => 0))), (q5, .inl (cI, 200, .inl (fun _ => 0))), (q6, .inr (1, [.ref (b7 1), .ref (b7 2), .ref (b7 3), .int (0 : Int32)])), ((b7 1), .inl (cI, 24, .inl (fun _ => 0))), ((b7 2), .inl (cI, 24, .inl (fun _ => 0))), ((b7 3), .inl (cI, 24, .inl (fun _ => 0)))]) G 2 0 rfl rfl (by unfold vp_in; decide) rfl dX0_init_103 ?_
  refine b_iinc (lv' := [(1, .int (8 : Int32)), (0, .ref h0)]) G 0 dX0_init_104 kc_1 rfl (by decide) rfl ?_
  refine b_goto G 87 dX0_init_107 (by decide) ?_
  refine b_iload_n G dX0_init_87 0 rfl rfl ?_
  refine b_bipush G (7 : Int32) dX0_init_88 kb_7 ?_
  refine b_icmp_gt_t G 110 dX0_init_90 (by decide) (by decide) ?_
  exact b_vret G E (fun i => [h0, q1, q2, q3, q4, q5, q6, (b7 1), (b7 2), (b7 3)].getD i 0) [0, 1, 2, 3, 4, 5, 6, 7, 8, 9] (by decide) rfl rfl dX0_init_110
abbrev rm_X3_init : Room := { frames := 1, cells := 1, slots := 10, locals := 12 }
theorem hd_X3_init : yX3_init.cls ≠ "java/lang/invoke/MethodHandle" ∧ yX3_init.cls ≠ "java/lang/invoke/VarHandle" ∧ (parseMethodDescriptor yX3_init.desc).map (fun d => d.parameters.length) = some 0 := by decide +kernel
def xw_X3 (cI : ClassId) (h0 : Nat) (b : Nat → Nat) : va_W := [(h0, .inr (3, [.ref (b 1), .int (0 : Int32)])), ((b 1), .inl (cI, 10, .inl (fun _ => 0)))]
set_option maxHeartbeats 4000000 in
set_option maxRecDepth 100000 in
theorem c_X3_init (l : Launch) (D : va_G) (cI : ClassId) (h0 : Nat) (sz : Nat) : Met l yX3_init wsX3_init rm_X3_init (k_PI D [(cI, .int)] h0 (.inr (3, [.null, .int 0])) sz) (k_QI D h0 (.inr (3, [.null, .int 0])) sz (xw_X3 cI h0)) 1 10 (va_A [(h0, .inr (3, [.null, .int 0]))] sz) := by
  refine k_metI (by decide) rfl rfl (by decide) ?_ sz
  intro Γ G E hA
  have inX3 : ∀ w ∈ wsX30, w ∈ wsX3_init := by decide +kernel
  have lk_9 := G.2.2.2.2.1 (.fieldLink RX3 9 "FreshShares$Script" "signs" "[I") (by decide +kernel)
  have lk_15 := G.2.2.2.2.1 (.fieldLink RX3 15 "FreshShares$Script" "length" "I") (by decide +kernel)
  refine b_aload_n G dX3_init_0 0 rfl rfl ?_
  refine b_obj G (G.2.2.2.2.1 (.methodLink RX3 3 objectInit) (by decide +kernel)) (G.2.2.2.2.1 (.instanceMethod objectInit) (by decide +kernel)) (G.2.2.2.2.1 (.code objectInit ⟨#[0xb1]⟩ 1 none) (by decide +kernel)) dX3_init_1 (by decide) (by decide) ?_
  refine b_aload_n G dX3_init_4 0 rfl rfl ?_
  refine b_bipush G (10 : Int32) dX3_init_5 kb_10 ?_
  refine b_newi G hA 0 rfl 10 (G.2.2.2.2.1 (.arrayClass .int) (by decide +kernel)) (by decide) (by decide) (by decide) (by decide) (by decide) dX3_init_7 (fun q1 => ?_)
  refine b_eq (ws' := [(h0, .inr (3, [.null, .int (0 : Int32)])), (q1, .inl (cI, 10, .inl (fun _ => 0)))]) rfl ?_
  refine b_putF (ws' := [(h0, .inr (3, [.ref q1, .int (0 : Int32)])), (q1, .inl (cI, 10, .inl (fun _ => 0)))]) G tyX3 tyX3_ok nmX3 inX3 0 0 rfl rfl (by decide) lk_9 rfl rfl E.2.2.2 rfl (ty := .array .int) (by decide +kernel) rfl rfl (Nat.le_of_ble_eq_true rfl) rfl dX3_init_9 ?_
  refine b_aload_n G dX3_init_12 0 rfl rfl ?_
  refine b_iconst G (0 : Int32) dX3_init_13 kc_0 ?_
  refine b_put (ws' := [(h0, .inr (3, [.ref q1, .int (0 : Int32)])), (q1, .inl (cI, 10, .inl (fun _ => 0)))]) G tyX3 tyX3_ok nmX3 inX3 0 1 rfl rfl (by decide) lk_15 rfl rfl (ty := .int) (by decide +kernel) rfl rfl (Nat.le_of_ble_eq_true rfl) rfl dX3_init_14 ?_
  exact b_vret G E (fun i => [h0, q1].getD i 0) [0, 1] (by decide) rfl rfl dX3_init_17
abbrev rm_X2_init : Room := { frames := 3, cells := 14, slots := 442, locals := 53 }
theorem hd_X2_init : yX2_init.cls ≠ "java/lang/invoke/MethodHandle" ∧ yX2_init.cls ≠ "java/lang/invoke/VarHandle" ∧ (parseMethodDescriptor yX2_init.desc).map (fun d => d.parameters.length) = some 0 := by decide +kernel
def xw_X2 (cI : ClassId) (h0 : Nat) (b : Nat → Nat) : va_W := [(h0, .inr (2, [.ref (b 1), .ref (b 11), .ref (b 12), .ref (b 13), .ref (b 14), .int (0 : Int32)])), ((b 1), .inr (0, [.ref (b 2), .ref (b 3), .ref (b 4), .ref (b 5), .ref (b 6), .ref (b 7), .int (0 : Int32), .int (0 : Int32), .int (-1 : Int32), .int (0 : Int32), .int (0 : Int32), .int (0 : Int32)])), ((b 2), .inl (cI, 40, .inl (fun _ => 0))), ((b 3), .inl (cI, 40, .inl (upd (upd (upd (upd (upd (upd (upd (fun _ => 0) (9 : Int32).toNatClampNeg (1 : Int32)) (14 : Int32).toNatClampNeg (1 : Int32)) (19 : Int32).toNatClampNeg (1 : Int32)) (24 : Int32).toNatClampNeg (1 : Int32)) (29 : Int32).toNatClampNeg (1 : Int32)) (34 : Int32).toNatClampNeg (1 : Int32)) (39 : Int32).toNatClampNeg (1 : Int32)))), ((b 4), .inl (cI, 8, .inl (fun _ => 0))), ((b 5), .inl (cI, 5, .inl (fun _ => 0))), ((b 6), .inl (cI, 200, .inl (fun _ => 0))), ((b 7), .inr (1, [.ref (b 8), .ref (b 9), .ref (b 10), .int (0 : Int32)])), ((b 8), .inl (cI, 24, .inl (fun _ => 0))), ((b 9), .inl (cI, 24, .inl (fun _ => 0))), ((b 10), .inl (cI, 24, .inl (fun _ => 0))), ((b 11), .inl (cI, 8, .inl (fun _ => 0))), ((b 12), .inl (cI, 40, .inl (fun _ => 0))), ((b 13), .inl (cI, 5, .inl (fun _ => 0))), ((b 14), .inl (cI, 8, .inl (fun _ => 0)))]
set_option maxHeartbeats 4000000 in
set_option maxRecDepth 100000 in
theorem c_X2_init (l : Launch) (D : va_G) (cI : ClassId) (h0 : Nat) (sz : Nat) : Met l yX2_init wsX2_init rm_X2_init (k_PI D [(cI, .int)] h0 (.inr (2, [.null, .null, .null, .null, .null, .int 0])) sz) (k_QI D h0 (.inr (2, [.null, .null, .null, .null, .null, .int 0])) sz (xw_X2 cI h0)) 14 442 (va_A [(h0, .inr (2, [.null, .null, .null, .null, .null, .int 0]))] sz) := by
  refine k_metI (by decide) rfl rfl (by decide) ?_ sz
  intro Γ G E hA
  have inX0 : ∀ w ∈ wsX00, w ∈ wsX2_init := by decide +kernel
  have inX2 : ∀ w ∈ wsX20, w ∈ wsX2_init := by decide +kernel
  have lk_12 := G.2.2.2.2.1 (.fieldLink RX2 12 "FreshShares$Orders" "circle" "LFreshShares$Circle;") (by decide +kernel)
  have lk_18 := G.2.2.2.2.1 (.fieldLink RX2 18 "FreshShares$Orders" "told" "[I") (by decide +kernel)
  have lk_22 := G.2.2.2.2.1 (.fieldLink RX2 22 "FreshShares$Orders" "polynomials" "[I") (by decide +kernel)
  have lk_25 := G.2.2.2.2.1 (.fieldLink RX2 25 "FreshShares$Orders" "sealsSent" "[I") (by decide +kernel)
  have lk_28 := G.2.2.2.2.1 (.fieldLink RX2 28 "FreshShares$Orders" "factors" "[I") (by decide +kernel)
  have lk_31 := G.2.2.2.2.1 (.fieldLink RX2 31 "FreshShares$Orders" "taken" "I") (by decide +kernel)
  refine b_aload_n G dX2_init_0 0 rfl rfl ?_
  refine b_obj G (G.2.2.2.2.1 (.methodLink RX2 3 objectInit) (by decide +kernel)) (G.2.2.2.2.1 (.instanceMethod objectInit) (by decide +kernel)) (G.2.2.2.2.1 (.code objectInit ⟨#[0xb1]⟩ 1 none) (by decide +kernel)) dX2_init_1 (by decide) (by decide) ?_
  refine b_aload_n G dX2_init_4 0 rfl rfl ?_
  refine b_new (ci := 0) G hA inX0 tyX0 tyX0_ok (G.2.2.2.2.1 (.classLink RX2 9 RX0) (by decide +kernel)) (G.2.2.2.2.1 (.instantiable RX0 12) (by decide +kernel)) (G.2.2.2.2.1 (.initialized RX0) (by decide +kernel)) rfl [.null, .null, .null, .null, .null, .null, .int 0, .int 0, .int 0, .int 0, .int 0, .int 0] (by decide) (by decide) (by decide) dX2_init_5 (fun q1 => ?_)
  refine b_eq (ws' := [(h0, .inr (2, [.null, .null, .null, .null, .null, .int (0 : Int32)])), (q1, .inr (0, [.null, .null, .null, .null, .null, .null, .int (0 : Int32), .int (0 : Int32), .int (0 : Int32), .int (0 : Int32), .int (0 : Int32), .int (0 : Int32)]))]) rfl ?_
  refine b_dup G rfl dX2_init_8 ?_
  refine b_init G hA [.ref q1, .ref h0] (c_X0_init (k_l Γ) (k_D Γ) cI q1) (cwI 0 G.2.2.2.2.1 gX2_init_X0_init rfl rfl rfl (G.2.2.2.2.1 (.initialized RX0) (by decide +kernel)) (G.2.2.2.2.1 (.methodLink RX2 11 yX0_init) (by decide +kernel)) (G.2.2.2.2.1 (.instanceMethod yX0_init) (by decide +kernel)) rfl hd_X0_init ⟨by decide, by decide⟩) [0] rfl 1 rfl [(h0, .inr (2, [.null, .null, .null, .null, .null, .int (0 : Int32)]))] [0] rfl (by decide) (by decide) (Nat.le_of_ble_eq_true rfl) ⟨by decide, by decide⟩ dX2_init_9 (fun b2 => ?_)
  refine b_eq (ws' := [(h0, .inr (2, [.null, .null, .null, .null, .null, .int (0 : Int32)])), (q1, .inr (0, [.ref (b2 1), .ref (b2 2), .ref (b2 3), .ref (b2 4), .ref (b2 5), .ref (b2 6), .int (0 : Int32), .int (0 : Int32), .int (-1 : Int32), .int (0 : Int32), .int (0 : Int32), .int (0 : Int32)])), ((b2 1), .inl (cI, 40, .inl (fun _ => 0))), ((b2 2), .inl (cI, 40, .inl (upd (upd (upd (upd (upd (upd (upd (fun _ => 0) (9 : Int32).toNatClampNeg (1 : Int32)) (14 : Int32).toNatClampNeg (1 : Int32)) (19 : Int32).toNatClampNeg (1 : Int32)) (24 : Int32).toNatClampNeg (1 : Int32)) (29 : Int32).toNatClampNeg (1 : Int32)) (34 : Int32).toNatClampNeg (1 : Int32)) (39 : Int32).toNatClampNeg (1 : Int32)))), ((b2 3), .inl (cI, 8, .inl (fun _ => 0))), ((b2 4), .inl (cI, 5, .inl (fun _ => 0))), ((b2 5), .inl (cI, 200, .inl (fun _ => 0))), ((b2 6), .inr (1, [.ref (b2 7), .ref (b2 8), .ref (b2 9), .int (0 : Int32)])), ((b2 7), .inl (cI, 24, .inl (fun _ => 0))), ((b2 8), .inl (cI, 24, .inl (fun _ => 0))), ((b2 9), .inl (cI, 24, .inl (fun _ => 0)))]) rfl ?_
  refine b_putF (ws' := [(h0, .inr (2, [.ref q1, .null, .null, .null, .null, .int (0 : Int32)])), (q1, .inr (0, [.ref (b2 1), .ref (b2 2), .ref (b2 3), .ref (b2 4), .ref (b2 5), .ref (b2 6), .int (0 : Int32), .int (0 : Int32), .int (-1 : Int32), .int (0 : Int32), .int (0 : Int32), .int (0 : Int32)])), ((b2 1), .inl (cI, 40, .inl (fun _ => 0))), ((b2 2), .inl (cI, 40, .inl (upd (upd (upd (upd (upd (upd (upd (fun _ => 0) (9 : Int32).toNatClampNeg (1 : Int32)) (14 : Int32).toNatClampNeg (1 : Int32)) (19 : Int32).toNatClampNeg (1 : Int32)) (24 : Int32).toNatClampNeg (1 : Int32)) (29 : Int32).toNatClampNeg (1 : Int32)) (34 : Int32).toNatClampNeg (1 : Int32)) (39 : Int32).toNatClampNeg (1 : Int32)))), ((b2 3), .inl (cI, 8, .inl (fun _ => 0))), ((b2 4), .inl (cI, 5, .inl (fun _ => 0))), ((b2 5), .inl (cI, 200, .inl (fun _ => 0))), ((b2 6), .inr (1, [.ref (b2 7), .ref (b2 8), .ref (b2 9), .int (0 : Int32)])), ((b2 7), .inl (cI, 24, .inl (fun _ => 0))), ((b2 8), .inl (cI, 24, .inl (fun _ => 0))), ((b2 9), .inl (cI, 24, .inl (fun _ => 0)))]) G tyX2 tyX2_ok nmX2 inX2 0 0 rfl rfl (by decide) lk_12 rfl rfl E.2.2.2 rfl (ty := .object "FreshShares$Circle") (by decide +kernel) rfl rfl (Nat.le_of_ble_eq_true rfl) rfl dX2_init_12 ?_
  refine b_aload_n G dX2_init_15 0 rfl rfl ?_
  refine b_bipush G (8 : Int32) dX2_init_16 kb_8 ?_
  refine b_newi G hA 0 rfl 8 (G.2.2.2.2.1 (.arrayClass .int) (by decide +kernel)) (by decide) (by decide) (by decide) (by decide) (by decide) dX2_init_18 (fun q3 => ?_)
  refine b_eq (ws' := [(h0, .inr (2, [.ref q1, .null, .null, .null, .null, .int (0 : Int32)])), (q1, .inr (0, [.ref (b2 1), .ref (b2 2), .ref (b2 3), .ref (b2 4), .ref (b2 5), .ref (b2 6), .int (0 : Int32), .int (0 : Int32), .int (-1 : Int32), .int (0 : Int32), .int (0 : Int32), .int (0 : Int32)])), ((b2 1), .inl (cI, 40, .inl (fun _ => 0))), ((b2 2), .inl (cI, 40, .inl (upd (upd (upd (upd (upd (upd (upd (fun _ => 0) (9 : Int32).toNatClampNeg (1 : Int32)) (14 : Int32).toNatClampNeg (1 : Int32)) (19 : Int32).toNatClampNeg (1 : Int32)) (24 : Int32).toNatClampNeg (1 : Int32)) (29 : Int32).toNatClampNeg (1 : Int32)) (34 : Int32).toNatClampNeg (1 : Int32)) (39 : Int32).toNatClampNeg (1 : Int32)))), ((b2 3), .inl (cI, 8, .inl (fun _ => 0))), ((b2 4), .inl (cI, 5, .inl (fun _ => 0))), ((b2 5), .inl (cI, 200, .inl (fun _ => 0))), ((b2 6), .inr (1, [.ref (b2 7), .ref (b2 8), .ref (b2 9), .int (0 : Int32)])), ((b2 7), .inl (cI, 24, .inl (fun _ => 0))), ((b2 8), .inl (cI, 24, .inl (fun _ => 0))), ((b2 9), .inl (cI, 24, .inl (fun _ => 0))), (q3, .inl (cI, 8, .inl (fun _ => 0)))]) rfl ?_
  refine b_putF (ws' := [(h0, .inr (2, [.ref q1, .ref q3, .null, .null, .null, .int (0 : Int32)])), (q1, .inr (0, [.ref (b2 1), .ref (b2 2), .ref (b2 3), .ref (b2 4), .ref (b2 5), .ref (b2 6), .int (0 : Int32), .int (0 : Int32), .int (-1 : Int32), .int (0 : Int32), .int (0 : Int32), .int (0 : Int32)])), ((b2 1), .inl (cI, 40, .inl (fun _ => 0))), ((b2 2), .inl (cI, 40, .inl (upd (upd (upd (upd (upd (upd (upd (fun _ => 0) (9 : Int32).toNatClampNeg (1 : Int32)) (14 : Int32).toNatClampNeg (1 : Int32)) (19 : Int32).toNatClampNeg (1 : Int32)) (24 : Int32).toNatClampNeg (1 : Int32)) (29 : Int32).toNatClampNeg (1 : Int32)) (34 : Int32).toNatClampNeg (1 : Int32)) (39 : Int32).toNatClampNeg (1 : Int32)))), ((b2 3), .inl (cI, 8, .inl (fun _ => 0))), ((b2 4), .inl (cI, 5, .inl (fun _ => 0))), ((b2 5), .inl (cI, 200, .inl (fun _ => 0))), ((b2 6), .inr (1, [.ref (b2 7), .ref (b2 8), .ref (b2 9), .int (0 : Int32)])), ((b2 7), .inl (cI, 24, .inl (fun _ => 0))), ((b2 8), .inl (cI, 24, .inl (fun _ => 0))), ((b2 9), .inl (cI, 24, .inl (fun _ => 0))), (q3, .inl (cI, 8, .inl (fun _ => 0)))]) G tyX2 tyX2_ok nmX2 inX2 0 1 rfl rfl (by decide) lk_18 rfl rfl E.2.2.2 rfl (ty := .array .int) (by decide +kernel) rfl rfl (Nat.le_of_ble_eq_true rfl) rfl dX2_init_20 ?_
  refine b_aload_n G dX2_init_23 0 rfl rfl ?_
  refine b_bipush G (40 : Int32) dX2_init_24 kb_40 ?_
  refine b_newi G hA 0 rfl 40 (G.2.2.2.2.1 (.arrayClass .int) (by decide +kernel)) (by decide) (by decide) (by decide) (by decide) (by decide) dX2_init_26 (fun q4 => ?_)
  refine b_eq (ws' := [(h0, .inr (2, [.ref q1, .ref q3, .null, .null, .null, .int (0 : Int32)])), (q1, .inr (0, [.ref (b2 1), .ref (b2 2), .ref (b2 3), .ref (b2 4), .ref (b2 5), .ref (b2 6), .int (0 : Int32), .int (0 : Int32), .int (-1 : Int32), .int (0 : Int32), .int (0 : Int32), .int (0 : Int32)])), ((b2 1), .inl (cI, 40, .inl (fun _ => 0))), ((b2 2), .inl (cI, 40, .inl (upd (upd (upd (upd (upd (upd (upd (fun _ => 0) (9 : Int32).toNatClampNeg (1 : Int32)) (14 : Int32).toNatClampNeg (1 : Int32)) (19 : Int32).toNatClampNeg (1 : Int32)) (24 : Int32).toNatClampNeg (1 : Int32)) (29 : Int32).toNatClampNeg (1 : Int32)) (34 : Int32).toNatClampNeg (1 : Int32)) (39 : Int32).toNatClampNeg (1 : Int32)))), ((b2 3), .inl (cI, 8, .inl (fun _ => 0))), ((b2 4), .inl (cI, 5, .inl (fun _ => 0))), ((b2 5), .inl (cI, 200, .inl (fun _ => 0))), ((b2 6), .inr (1, [.ref (b2 7), .ref (b2 8), .ref (b2 9), .int (0 : Int32)])), ((b2 7), .inl (cI, 24, .inl (fun _ => 0))), ((b2 8), .inl (cI, 24, .inl (fun _ => 0))), ((b2 9), .inl (cI, 24, .inl (fun _ => 0))), (q3, .inl (cI, 8, .inl (fun _ => 0))), (q4, .inl (cI, 40, .inl (fun _ => 0)))]) rfl ?_
  refine b_putF (ws' := [(h0, .inr (2, [.ref q1, .ref q3, .ref q4, .null, .null, .int (0 : Int32)])), (q1, .inr (0, [.ref (b2 1), .ref (b2 2), .ref (b2 3), .ref (b2 4), .ref (b2 5), .ref (b2 6), .int (0 : Int32), .int (0 : Int32), .int (-1 : Int32), .int (0 : Int32), .int (0 : Int32), .int (0 : Int32)])), ((b2 1), .inl (cI, 40, .inl (fun _ => 0))), ((b2 2), .inl (cI, 40, .inl (upd (upd (upd (upd (upd (upd (upd (fun _ => 0) (9 : Int32).toNatClampNeg (1 : Int32)) (14 : Int32).toNatClampNeg (1 : Int32)) (19 : Int32).toNatClampNeg (1 : Int32)) (24 : Int32).toNatClampNeg (1 : Int32)) (29 : Int32).toNatClampNeg (1 : Int32)) (34 : Int32).toNatClampNeg (1 : Int32)) (39 : Int32).toNatClampNeg (1 : Int32)))), ((b2 3), .inl (cI, 8, .inl (fun _ => 0))), ((b2 4), .inl (cI, 5, .inl (fun _ => 0))), ((b2 5), .inl (cI, 200, .inl (fun _ => 0))), ((b2 6), .inr (1, [.ref (b2 7), .ref (b2 8), .ref (b2 9), .int (0 : Int32)])), ((b2 7), .inl (cI, 24, .inl (fun _ => 0))), ((b2 8), .inl (cI, 24, .inl (fun _ => 0))), ((b2 9), .inl (cI, 24, .inl (fun _ => 0))), (q3, .inl (cI, 8, .inl (fun _ => 0))), (q4, .inl (cI, 40, .inl (fun _ => 0)))]) G tyX2 tyX2_ok nmX2 inX2 0 2 rfl rfl (by decide) lk_22 rfl rfl E.2.2.2 rfl (ty := .array .int) (by decide +kernel) rfl rfl (Nat.le_of_ble_eq_true rfl) rfl dX2_init_28 ?_
  refine b_aload_n G dX2_init_31 0 rfl rfl ?_
  refine b_iconst G (5 : Int32) dX2_init_32 kc_5 ?_
  refine b_newi G hA 0 rfl 5 (G.2.2.2.2.1 (.arrayClass .int) (by decide +kernel)) (by decide) (by decide) (by decide) (by decide) (by decide) dX2_init_33 (fun q5 => ?_)
  refine b_eq (ws' := [(h0, .inr (2, [.ref q1, .ref q3, .ref q4, .null, .null, .int (0 : Int32)])), (q1, .inr (0, [.ref (b2 1), .ref (b2 2), .ref (b2 3), .ref (b2 4), .ref (b2 5), .ref (b2 6), .int (0 : Int32), .int (0 : Int32), .int (-1 : Int32), .int (0 : Int32), .int (0 : Int32), .int (0 : Int32)])), ((b2 1), .inl (cI, 40, .inl (fun _ => 0))), ((b2 2), .inl (cI, 40, .inl (upd (upd (upd (upd (upd (upd (upd (fun _ => 0) (9 : Int32).toNatClampNeg (1 : Int32)) (14 : Int32).toNatClampNeg (1 : Int32)) (19 : Int32).toNatClampNeg (1 : Int32)) (24 : Int32).toNatClampNeg (1 : Int32)) (29 : Int32).toNatClampNeg (1 : Int32)) (34 : Int32).toNatClampNeg (1 : Int32)) (39 : Int32).toNatClampNeg (1 : Int32)))), ((b2 3), .inl (cI, 8, .inl (fun _ => 0))), ((b2 4), .inl (cI, 5, .inl (fun _ => 0))), ((b2 5), .inl (cI, 200, .inl (fun _ => 0))), ((b2 6), .inr (1, [.ref (b2 7), .ref (b2 8), .ref (b2 9), .int (0 : Int32)])), ((b2 7), .inl (cI, 24, .inl (fun _ => 0))), ((b2 8), .inl (cI, 24, .inl (fun _ => 0))), ((b2 9), .inl (cI, 24, .inl (fun _ => 0))), (q3, .inl (cI, 8, .inl (fun _ => 0))), (q4, .inl (cI, 40, .inl (fun _ => 0))), (q5, .inl (cI, 5, .inl (fun _ => 0)))]) rfl ?_
  refine b_putF (ws' := [(h0, .inr (2, [.ref q1, .ref q3, .ref q4, .ref q5, .null, .int (0 : Int32)])), (q1, .inr (0, [.ref (b2 1), .ref (b2 2), .ref (b2 3), .ref (b2 4), .ref (b2 5), .ref (b2 6), .int (0 : Int32), .int (0 : Int32), .int (-1 : Int32), .int (0 : Int32), .int (0 : Int32), .int (0 : Int32)])), ((b2 1), .inl (cI, 40, .inl (fun _ => 0))), ((b2 2), .inl (cI, 40, .inl (upd (upd (upd (upd (upd (upd (upd (fun _ => 0) (9 : Int32).toNatClampNeg (1 : Int32)) (14 : Int32).toNatClampNeg (1 : Int32)) (19 : Int32).toNatClampNeg (1 : Int32)) (24 : Int32).toNatClampNeg (1 : Int32)) (29 : Int32).toNatClampNeg (1 : Int32)) (34 : Int32).toNatClampNeg (1 : Int32)) (39 : Int32).toNatClampNeg (1 : Int32)))), ((b2 3), .inl (cI, 8, .inl (fun _ => 0))), ((b2 4), .inl (cI, 5, .inl (fun _ => 0))), ((b2 5), .inl (cI, 200, .inl (fun _ => 0))), ((b2 6), .inr (1, [.ref (b2 7), .ref (b2 8), .ref (b2 9), .int (0 : Int32)])), ((b2 7), .inl (cI, 24, .inl (fun _ => 0))), ((b2 8), .inl (cI, 24, .inl (fun _ => 0))), ((b2 9), .inl (cI, 24, .inl (fun _ => 0))), (q3, .inl (cI, 8, .inl (fun _ => 0))), (q4, .inl (cI, 40, .inl (fun _ => 0))), (q5, .inl (cI, 5, .inl (fun _ => 0)))]) G tyX2 tyX2_ok nmX2 inX2 0 3 rfl rfl (by decide) lk_25 rfl rfl E.2.2.2 rfl (ty := .array .int) (by decide +kernel) rfl rfl (Nat.le_of_ble_eq_true rfl) rfl dX2_init_35 ?_
  refine b_aload_n G dX2_init_38 0 rfl rfl ?_
  refine b_bipush G (8 : Int32) dX2_init_39 kb_8 ?_
  refine b_newi G hA 0 rfl 8 (G.2.2.2.2.1 (.arrayClass .int) (by decide +kernel)) (by decide) (by decide) (by decide) (by decide) (by decide) dX2_init_41 (fun q6 => ?_)
  refine b_eq (ws' := [(h0, .inr (2, [.ref q1, .ref q3, .ref q4, .ref q5, .null, .int (0 : Int32)])), (q1, .inr (0, [.ref (b2 1), .ref (b2 2), .ref (b2 3), .ref (b2 4), .ref (b2 5), .ref (b2 6), .int (0 : Int32), .int (0 : Int32), .int (-1 : Int32), .int (0 : Int32), .int (0 : Int32), .int (0 : Int32)])), ((b2 1), .inl (cI, 40, .inl (fun _ => 0))), ((b2 2), .inl (cI, 40, .inl (upd (upd (upd (upd (upd (upd (upd (fun _ => 0) (9 : Int32).toNatClampNeg (1 : Int32)) (14 : Int32).toNatClampNeg (1 : Int32)) (19 : Int32).toNatClampNeg (1 : Int32)) (24 : Int32).toNatClampNeg (1 : Int32)) (29 : Int32).toNatClampNeg (1 : Int32)) (34 : Int32).toNatClampNeg (1 : Int32)) (39 : Int32).toNatClampNeg (1 : Int32)))), ((b2 3), .inl (cI, 8, .inl (fun _ => 0))), ((b2 4), .inl (cI, 5, .inl (fun _ => 0))), ((b2 5), .inl (cI, 200, .inl (fun _ => 0))), ((b2 6), .inr (1, [.ref (b2 7), .ref (b2 8), .ref (b2 9), .int (0 : Int32)])), ((b2 7), .inl (cI, 24, .inl (fun _ => 0))), ((b2 8), .inl (cI, 24, .inl (fun _ => 0))), ((b2 9), .inl (cI, 24, .inl (fun _ => 0))), (q3, .inl (cI, 8, .inl (fun _ => 0))), (q4, .inl (cI, 40, .inl (fun _ => 0))), (q5, .inl (cI, 5, .inl (fun _ => 0))), (q6, .inl (cI, 8, .inl (fun _ => 0)))]) rfl ?_
  refine b_putF (ws' := [(h0, .inr (2, [.ref q1, .ref q3, .ref q4, .ref q5, .ref q6, .int (0 : Int32)])), (q1, .inr (0, [.ref (b2 1), .ref (b2 2), .ref (b2 3), .ref (b2 4), .ref (b2 5), .ref (b2 6), .int (0 : Int32), .int (0 : Int32), .int (-1 : Int32), .int (0 : Int32), .int (0 : Int32), .int (0 : Int32)])), ((b2 1), .inl (cI, 40, .inl (fun _ => 0))), ((b2 2), .inl (cI, 40, .inl (upd (upd (upd (upd (upd (upd (upd (fun _ => 0) (9 : Int32).toNatClampNeg (1 : Int32)) (14 : Int32).toNatClampNeg (1 : Int32)) (19 : Int32).toNatClampNeg (1 : Int32)) (24 : Int32).toNatClampNeg (1 : Int32)) (29 : Int32).toNatClampNeg (1 : Int32)) (34 : Int32).toNatClampNeg (1 : Int32)) (39 : Int32).toNatClampNeg (1 : Int32)))), ((b2 3), .inl (cI, 8, .inl (fun _ => 0))), ((b2 4), .inl (cI, 5, .inl (fun _ => 0))), ((b2 5), .inl (cI, 200, .inl (fun _ => 0))), ((b2 6), .inr (1, [.ref (b2 7), .ref (b2 8), .ref (b2 9), .int (0 : Int32)])), ((b2 7), .inl (cI, 24, .inl (fun _ => 0))), ((b2 8), .inl (cI, 24, .inl (fun _ => 0))), ((b2 9), .inl (cI, 24, .inl (fun _ => 0))), (q3, .inl (cI, 8, .inl (fun _ => 0))), (q4, .inl (cI, 40, .inl (fun _ => 0))), (q5, .inl (cI, 5, .inl (fun _ => 0))), (q6, .inl (cI, 8, .inl (fun _ => 0)))]) G tyX2 tyX2_ok nmX2 inX2 0 4 rfl rfl (by decide) lk_28 rfl rfl E.2.2.2 rfl (ty := .array .int) (by decide +kernel) rfl rfl (Nat.le_of_ble_eq_true rfl) rfl dX2_init_43 ?_
  refine b_aload_n G dX2_init_46 0 rfl rfl ?_
  refine b_iconst G (0 : Int32) dX2_init_47 kc_0 ?_
  refine b_put (ws' := [(h0, .inr (2, [.ref q1, .ref q3, .ref q4, .ref q5, .ref q6, .int (0 : Int32)])), (q1, .inr (0, [.ref (b2 1), .ref (b2 2), .ref (b2 3), .ref (b2 4), .ref (b2 5), .ref (b2 6), .int (0 : Int32), .int (0 : Int32), .int (-1 : Int32), .int (0 : Int32), .int (0 : Int32), .int (0 : Int32)])), ((b2 1), .inl (cI, 40, .inl (fun _ => 0))), ((b2 2), .inl (cI, 40, .inl (upd (upd (upd (upd (upd (upd (upd (fun _ => 0) (9 : Int32).toNatClampNeg (1 : Int32)) (14 : Int32).toNatClampNeg (1 : Int32)) (19 : Int32).toNatClampNeg (1 : Int32)) (24 : Int32).toNatClampNeg (1 : Int32)) (29 : Int32).toNatClampNeg (1 : Int32)) (34 : Int32).toNatClampNeg (1 : Int32)) (39 : Int32).toNatClampNeg (1 : Int32)))), ((b2 3), .inl (cI, 8, .inl (fun _ => 0))), ((b2 4), .inl (cI, 5, .inl (fun _ => 0))), ((b2 5), .inl (cI, 200, .inl (fun _ => 0))), ((b2 6), .inr (1, [.ref (b2 7), .ref (b2 8), .ref (b2 9), .int (0 : Int32)])), ((b2 7), .inl (cI, 24, .inl (fun _ => 0))), ((b2 8), .inl (cI, 24, .inl (fun _ => 0))), ((b2 9), .inl (cI, 24, .inl (fun _ => 0))), (q3, .inl (cI, 8, .inl (fun _ => 0))), (q4, .inl (cI, 40, .inl (fun _ => 0))), (q5, .inl (cI, 5, .inl (fun _ => 0))), (q6, .inl (cI, 8, .inl (fun _ => 0)))]) G tyX2 tyX2_ok nmX2 inX2 0 5 rfl rfl (by decide) lk_31 rfl rfl (ty := .int) (by decide +kernel) rfl rfl (Nat.le_of_ble_eq_true rfl) rfl dX2_init_48 ?_
  exact b_vret G E (fun i => [h0, q1, (b2 1), (b2 2), (b2 3), (b2 4), (b2 5), (b2 6), (b2 7), (b2 8), (b2 9), q3, q4, q5, q6].getD i 0) [0, 1, 2, 3, 4, 5, 6, 7, 8, 9, 10, 11, 12, 13, 14] (by decide) rfl rfl dX2_init_51
abbrev rm_X6_init : Room := { frames := 4, cells := 18, slots := 462, locals := 73 }
theorem hd_X6_init : yX6_init.cls ≠ "java/lang/invoke/MethodHandle" ∧ yX6_init.cls ≠ "java/lang/invoke/VarHandle" ∧ (parseMethodDescriptor yX6_init.desc).map (fun d => d.parameters.length) = some 0 := by decide +kernel
def xw_X6 (cI cO : ClassId) (h0 : Nat) (b : Nat → Nat) : va_W := [(h0, .inr (4, [.ref (b 1), .ref (b 3), .ref (b 4), .ref (b 18)])), ((b 1), .inr (3, [.ref (b 2), .int (0 : Int32)])), ((b 2), .inl (cI, 10, .inl (fun _ => 0))), ((b 3), .inr (2, [.ref (b 4), .ref (b 14), .ref (b 15), .ref (b 16), .ref (b 17), .int (0 : Int32)])), ((b 4), .inr (0, [.ref (b 5), .ref (b 6), .ref (b 7), .ref (b 8), .ref (b 9), .ref (b 10), .int (0 : Int32), .int (0 : Int32), .int (-1 : Int32), .int (0 : Int32), .int (0 : Int32), .int (0 : Int32)])), ((b 5), .inl (cI, 40, .inl (fun _ => 0))), ((b 6), .inl (cI, 40, .inl (upd (upd (upd (upd (upd (upd (upd (fun _ => 0) (9 : Int32).toNatClampNeg (1 : Int32)) (14 : Int32).toNatClampNeg (1 : Int32)) (19 : Int32).toNatClampNeg (1 : Int32)) (24 : Int32).toNatClampNeg (1 : Int32)) (29 : Int32).toNatClampNeg (1 : Int32)) (34 : Int32).toNatClampNeg (1 : Int32)) (39 : Int32).toNatClampNeg (1 : Int32)))), ((b 7), .inl (cI, 8, .inl (fun _ => 0))), ((b 8), .inl (cI, 5, .inl (fun _ => 0))), ((b 9), .inl (cI, 200, .inl (fun _ => 0))), ((b 10), .inr (1, [.ref (b 11), .ref (b 12), .ref (b 13), .int (0 : Int32)])), ((b 11), .inl (cI, 24, .inl (fun _ => 0))), ((b 12), .inl (cI, 24, .inl (fun _ => 0))), ((b 13), .inl (cI, 24, .inl (fun _ => 0))), ((b 14), .inl (cI, 8, .inl (fun _ => 0))), ((b 15), .inl (cI, 40, .inl (fun _ => 0))), ((b 16), .inl (cI, 5, .inl (fun _ => 0))), ((b 17), .inl (cI, 8, .inl (fun _ => 0))), ((b 18), .inl (cO, 2, .inr (.inr (.inr (.inr (fun _ => none))))))]
set_option maxHeartbeats 4000000 in
set_option maxRecDepth 100000 in
theorem c_X6_init (l : Launch) (D : va_G) (cI cO : ClassId) (h0 : Nat) (sz : Nat) : Met l yX6_init wsX6_init rm_X6_init (k_PI D [(cI, .int), (cO, .object "FreshShares$Circle")] h0 (.inr (4, [.null, .null, .null, .null])) sz) (k_QI D h0 (.inr (4, [.null, .null, .null, .null])) sz (xw_X6 cI cO h0)) 18 462 (va_A [(h0, .inr (4, [.null, .null, .null, .null]))] sz) := by
  refine k_metI (by decide) rfl rfl (by decide) ?_ sz
  intro Γ G E hA
  have inX2 : ∀ w ∈ wsX20, w ∈ wsX6_init := by decide +kernel
  have inX3 : ∀ w ∈ wsX30, w ∈ wsX6_init := by decide +kernel
  have inX6 : ∀ w ∈ wsX60, w ∈ wsX6_init := by decide +kernel
  have lk_10 := G.2.2.2.2.1 (.fieldLink RX6 10 "FreshShares" "script" "LFreshShares$Script;") (by decide +kernel)
  have lk_19 := G.2.2.2.2.1 (.fieldLink RX6 19 "FreshShares" "orders" "LFreshShares$Orders;") (by decide +kernel)
  have lk_27 := G.2.2.2.2.1 (.fieldLink RX6 27 "FreshShares" "circle" "LFreshShares$Circle;") (by decide +kernel)
  have lk_30 := G.2.2.2.2.1 (.fieldLink RX6 30 "FreshShares" "images" "[LFreshShares$Circle;") (by decide +kernel)
  refine b_aload_n G dX6_init_0 0 rfl rfl ?_
  refine b_obj G (G.2.2.2.2.1 (.methodLink RX6 1 objectInit) (by decide +kernel)) (G.2.2.2.2.1 (.instanceMethod objectInit) (by decide +kernel)) (G.2.2.2.2.1 (.code objectInit ⟨#[0xb1]⟩ 1 none) (by decide +kernel)) dX6_init_1 (by decide) (by decide) ?_
  refine b_aload_n G dX6_init_4 0 rfl rfl ?_
  refine b_new (ci := 3) G hA inX3 tyX3 tyX3_ok (G.2.2.2.2.1 (.classLink RX6 7 RX3) (by decide +kernel)) (G.2.2.2.2.1 (.instantiable RX3 2) (by decide +kernel)) (G.2.2.2.2.1 (.initialized RX3) (by decide +kernel)) rfl [.null, .int 0] (by decide) (by decide) (by decide) dX6_init_5 (fun q1 => ?_)
  refine b_eq (ws' := [(h0, .inr (4, [.null, .null, .null, .null])), (q1, .inr (3, [.null, .int (0 : Int32)]))]) rfl ?_
  refine b_dup G rfl dX6_init_8 ?_
  refine b_init G hA [.ref q1, .ref h0] (c_X3_init (k_l Γ) (k_D Γ) cI q1) (cwI 0 G.2.2.2.2.1 gX6_init_X3_init rfl rfl rfl (G.2.2.2.2.1 (.initialized RX3) (by decide +kernel)) (G.2.2.2.2.1 (.methodLink RX6 9 yX3_init) (by decide +kernel)) (G.2.2.2.2.1 (.instanceMethod yX3_init) (by decide +kernel)) rfl hd_X3_init ⟨by decide, by decide⟩) [0] rfl 1 rfl [(h0, .inr (4, [.null, .null, .null, .null]))] [0] rfl (by decide) (by decide) (Nat.le_of_ble_eq_true rfl) ⟨by decide, by decide⟩ dX6_init_9 (fun b2 => ?_)
  refine b_eq (ws' := [(h0, .inr (4, [.null, .null, .null, .null])), (q1, .inr (3, [.ref (b2 1), .int (0 : Int32)])), ((b2 1), .inl (cI, 10, .inl (fun _ => 0)))]) rfl ?_
  refine b_putF (ws' := [(h0, .inr (4, [.ref q1, .null, .null, .null])), (q1, .inr (3, [.ref (b2 1), .int (0 : Int32)])), ((b2 1), .inl (cI, 10, .inl (fun _ => 0)))]) G tyX6 tyX6_ok nmX6 inX6 0 0 rfl rfl (by decide) lk_10 rfl rfl E.2.2.2 rfl (ty := .object "FreshShares$Script") (by decide +kernel) rfl rfl (Nat.le_of_ble_eq_true rfl) rfl dX6_init_12 ?_
  refine b_aload_n G dX6_init_15 0 rfl rfl ?_
  refine b_new (ci := 2) G hA inX2 tyX2 tyX2_ok (G.2.2.2.2.1 (.classLink RX6 16 RX2) (by decide +kernel)) (G.2.2.2.2.1 (.instantiable RX2 6) (by decide +kernel)) (G.2.2.2.2.1 (.initialized RX2) (by decide +kernel)) rfl [.null, .null, .null, .null, .null, .int 0] (by decide) (by decide) (by decide) dX6_init_16 (fun q3 => ?_)
  refine b_eq (ws' := [(h0, .inr (4, [.ref q1, .null, .null, .null])), (q1, .inr (3, [.ref (b2 1), .int (0 : Int32)])), ((b2 1), .inl (cI, 10, .inl (fun _ => 0))), (q3, .inr (2, [.null, .null, .null, .null, .null, .int (0 : Int32)]))]) rfl ?_
  refine b_dup G rfl dX6_init_19 ?_
  refine b_init G hA [.ref q3, .ref h0] (c_X2_init (k_l Γ) (k_D Γ) cI q3) (cwI 0 G.2.2.2.2.1 gX6_init_X2_init rfl rfl rfl (G.2.2.2.2.1 (.initialized RX2) (by decide +kernel)) (G.2.2.2.2.1 (.methodLink RX6 18 yX2_init) (by decide +kernel)) (G.2.2.2.2.1 (.instanceMethod yX2_init) (by decide +kernel)) rfl hd_X2_init ⟨by decide, by decide⟩) [0] rfl 3 rfl [(h0, .inr (4, [.ref q1, .null, .null, .null])), (q1, .inr (3, [.ref (b2 1), .int (0 : Int32)])), ((b2 1), .inl (cI, 10, .inl (fun _ => 0)))] [0, 1, 2] rfl (by decide) (by decide) (Nat.le_of_ble_eq_true rfl) ⟨by decide, by decide⟩ dX6_init_20 (fun b4 => ?_)
  refine b_eq (ws' := [(h0, .inr (4, [.ref q1, .null, .null, .null])), (q1, .inr (3, [.ref (b2 1), .int (0 : Int32)])), ((b2 1), .inl (cI, 10, .inl (fun _ => 0))), (q3, .inr (2, [.ref (b4 1), .ref (b4 11), .ref (b4 12), .ref (b4 13), .ref (b4 14), .int (0 : Int32)])), ((b4 1), .inr (0, [.ref (b4 2), .ref (b4 3), .ref (b4 4), .ref (b4 5), .ref (b4 6), .ref (b4 7), .int (0 : Int32), .int (0 : Int32), .int (-1 : Int32), .int (0 : Int32), .int (0 : Int32), .int (0 : Int32)])), ((b4 2), .inl (cI, 40, .inl (fun _ => 0))), ((b4 3), .inl (cI, 40, .inl (upd (upd (upd (upd (upd (upd (upd (fun _ => 0) (9 : Int32).toNatClampNeg (1 : Int32)) (14 : Int32).toNatClampNeg (1 : Int32)) (19 : Int32).toNatClampNeg (1 : Int32)) (24 : Int32).toNatClampNeg (1 : Int32)) (29 : Int32).toNatClampNeg (1 : Int32)) (34 : Int32).toNatClampNeg (1 : Int32)) (39 : Int32).toNatClampNeg (1 : Int32)))), ((b4 4), .inl (cI, 8, .inl (fun _ => 0))), ((b4 5), .inl (cI, 5, .inl (fun _ => 0))), ((b4 6), .inl (cI, 200, .inl (fun _ => 0))), ((b4 7), .inr (1, [.ref (b4 8), .ref (b4 9), .ref (b4 10), .int (0 : Int32)])), ((b4 8), .inl (cI, 24, .inl (fun _ => 0))), ((b4 9), .inl (cI, 24, .inl (fun _ => 0))), ((b4 10), .inl (cI, 24, .inl (fun _ => 0))), ((b4 11), .inl (cI, 8, .inl (fun _ => 0))), ((b4 12), .inl (cI, 40, .inl (fun _ => 0))), ((b4 13), .inl (cI, 5, .inl (fun _ => 0))), ((b4 14), .inl (cI, 8, .inl (fun _ => 0)))]) rfl ?_
  refine b_putF (ws' := [(h0, .inr (4, [.ref q1, .ref q3, .null, .null])), (q1, .inr (3, [.ref (b2 1), .int (0 : Int32)])), ((b2 1), .inl (cI, 10, .inl (fun _ => 0))), (q3, .inr (2, [.ref (b4 1), .ref (b4 11), .ref (b4 12), .ref (b4 13), .ref (b4 14), .int (0 : Int32)])), ((b4 1), .inr (0, [.ref (b4 2), .ref (b4 3), .ref (b4 4), .ref (b4 5), .ref (b4 6), .ref (b4 7), .int (0 : Int32), .int (0 : Int32), .int (-1 : Int32), .int (0 : Int32), .int (0 : Int32), .int (0 : Int32)])), ((b4 2), .inl (cI, 40, .inl (fun _ => 0))), ((b4 3), .inl (cI, 40, .inl (upd (upd (upd (upd (upd (upd (upd (fun _ => 0) (9 : Int32).toNatClampNeg (1 : Int32)) (14 : Int32).toNatClampNeg (1 : Int32)) (19 : Int32).toNatClampNeg (1 : Int32)) (24 : Int32).toNatClampNeg (1 : Int32)) (29 : Int32).toNatClampNeg (1 : Int32)) (34 : Int32).toNatClampNeg (1 : Int32)) (39 : Int32).toNatClampNeg (1 : Int32)))), ((b4 4), .inl (cI, 8, .inl (fun _ => 0))), ((b4 5), .inl (cI, 5, .inl (fun _ => 0))), ((b4 6), .inl (cI, 200, .inl (fun _ => 0))), ((b4 7), .inr (1, [.ref (b4 8), .ref (b4 9), .ref (b4 10), .int (0 : Int32)])), ((b4 8), .inl (cI, 24, .inl (fun _ => 0))), ((b4 9), .inl (cI, 24, .inl (fun _ => 0))), ((b4 10), .inl (cI, 24, .inl (fun _ => 0))), ((b4 11), .inl (cI, 8, .inl (fun _ => 0))), ((b4 12), .inl (cI, 40, .inl (fun _ => 0))), ((b4 13), .inl (cI, 5, .inl (fun _ => 0))), ((b4 14), .inl (cI, 8, .inl (fun _ => 0)))]) G tyX6 tyX6_ok nmX6 inX6 0 1 rfl rfl (by decide) lk_19 rfl rfl E.2.2.2 rfl (ty := .object "FreshShares$Orders") (by decide +kernel) rfl rfl (Nat.le_of_ble_eq_true rfl) rfl dX6_init_23 ?_
  refine b_aload_n G dX6_init_26 0 rfl rfl ?_
  refine b_aload_n G dX6_init_27 0 rfl rfl ?_
  refine b_get G inX6 0 1 rfl rfl (by decide) lk_19 rfl rfl dX6_init_28 ?_
  refine b_getN G inX2 3 0 rfl rfl (by decide) (G.2.2.2.2.2.2.at 28 rfl rfl) rfl rfl dX6_init_31 ?_
  refine b_putF (ws' := [(h0, .inr (4, [.ref q1, .ref q3, .ref (b4 1), .null])), (q1, .inr (3, [.ref (b2 1), .int (0 : Int32)])), ((b2 1), .inl (cI, 10, .inl (fun _ => 0))), (q3, .inr (2, [.ref (b4 1), .ref (b4 11), .ref (b4 12), .ref (b4 13), .ref (b4 14), .int (0 : Int32)])), ((b4 1), .inr (0, [.ref (b4 2), .ref (b4 3), .ref (b4 4), .ref (b4 5), .ref (b4 6), .ref (b4 7), .int (0 : Int32), .int (0 : Int32), .int (-1 : Int32), .int (0 : Int32), .int (0 : Int32), .int (0 : Int32)])), ((b4 2), .inl (cI, 40, .inl (fun _ => 0))), ((b4 3), .inl (cI, 40, .inl (upd (upd (upd (upd (upd (upd (upd (fun _ => 0) (9 : Int32).toNatClampNeg (1 : Int32)) (14 : Int32).toNatClampNeg (1 : Int32)) (19 : Int32).toNatClampNeg (1 : Int32)) (24 : Int32).toNatClampNeg (1 : Int32)) (29 : Int32).toNatClampNeg (1 : Int32)) (34 : Int32).toNatClampNeg (1 : Int32)) (39 : Int32).toNatClampNeg (1 : Int32)))), ((b4 4), .inl (cI, 8, .inl (fun _ => 0))), ((b4 5), .inl (cI, 5, .inl (fun _ => 0))), ((b4 6), .inl (cI, 200, .inl (fun _ => 0))), ((b4 7), .inr (1, [.ref (b4 8), .ref (b4 9), .ref (b4 10), .int (0 : Int32)])), ((b4 8), .inl (cI, 24, .inl (fun _ => 0))), ((b4 9), .inl (cI, 24, .inl (fun _ => 0))), ((b4 10), .inl (cI, 24, .inl (fun _ => 0))), ((b4 11), .inl (cI, 8, .inl (fun _ => 0))), ((b4 12), .inl (cI, 40, .inl (fun _ => 0))), ((b4 13), .inl (cI, 5, .inl (fun _ => 0))), ((b4 14), .inl (cI, 8, .inl (fun _ => 0)))]) G tyX6 tyX6_ok nmX6 inX6 0 2 rfl rfl (by decide) lk_27 rfl rfl E.2.2.2 rfl (ty := .object "FreshShares$Circle") (by decide +kernel) rfl rfl (Nat.le_of_ble_eq_true rfl) rfl dX6_init_34 ?_
  refine b_aload_n G dX6_init_37 0 rfl rfl ?_
  refine b_iconst G (2 : Int32) dX6_init_38 kc_2 ?_
  refine b_newq G hA 1 rfl 2 (G.2.2.2.2.1 (.classLink RX6 28 RX0) (by decide +kernel)) G.2.2.2.2.2.2.2 (by decide) (by decide) (by decide) (by decide) (by decide) dX6_init_39 (fun q5 => ?_)
  refine b_eq (ws' := [(h0, .inr (4, [.ref q1, .ref q3, .ref (b4 1), .null])), (q1, .inr (3, [.ref (b2 1), .int (0 : Int32)])), ((b2 1), .inl (cI, 10, .inl (fun _ => 0))), (q3, .inr (2, [.ref (b4 1), .ref (b4 11), .ref (b4 12), .ref (b4 13), .ref (b4 14), .int (0 : Int32)])), ((b4 1), .inr (0, [.ref (b4 2), .ref (b4 3), .ref (b4 4), .ref (b4 5), .ref (b4 6), .ref (b4 7), .int (0 : Int32), .int (0 : Int32), .int (-1 : Int32), .int (0 : Int32), .int (0 : Int32), .int (0 : Int32)])), ((b4 2), .inl (cI, 40, .inl (fun _ => 0))), ((b4 3), .inl (cI, 40, .inl (upd (upd (upd (upd (upd (upd (upd (fun _ => 0) (9 : Int32).toNatClampNeg (1 : Int32)) (14 : Int32).toNatClampNeg (1 : Int32)) (19 : Int32).toNatClampNeg (1 : Int32)) (24 : Int32).toNatClampNeg (1 : Int32)) (29 : Int32).toNatClampNeg (1 : Int32)) (34 : Int32).toNatClampNeg (1 : Int32)) (39 : Int32).toNatClampNeg (1 : Int32)))), ((b4 4), .inl (cI, 8, .inl (fun _ => 0))), ((b4 5), .inl (cI, 5, .inl (fun _ => 0))), ((b4 6), .inl (cI, 200, .inl (fun _ => 0))), ((b4 7), .inr (1, [.ref (b4 8), .ref (b4 9), .ref (b4 10), .int (0 : Int32)])), ((b4 8), .inl (cI, 24, .inl (fun _ => 0))), ((b4 9), .inl (cI, 24, .inl (fun _ => 0))), ((b4 10), .inl (cI, 24, .inl (fun _ => 0))), ((b4 11), .inl (cI, 8, .inl (fun _ => 0))), ((b4 12), .inl (cI, 40, .inl (fun _ => 0))), ((b4 13), .inl (cI, 5, .inl (fun _ => 0))), ((b4 14), .inl (cI, 8, .inl (fun _ => 0))), (q5, .inl (cO, 2, .inr (.inr (.inr (.inr (fun _ => none))))))]) rfl ?_
  refine b_putF (ws' := [(h0, .inr (4, [.ref q1, .ref q3, .ref (b4 1), .ref q5])), (q1, .inr (3, [.ref (b2 1), .int (0 : Int32)])), ((b2 1), .inl (cI, 10, .inl (fun _ => 0))), (q3, .inr (2, [.ref (b4 1), .ref (b4 11), .ref (b4 12), .ref (b4 13), .ref (b4 14), .int (0 : Int32)])), ((b4 1), .inr (0, [.ref (b4 2), .ref (b4 3), .ref (b4 4), .ref (b4 5), .ref (b4 6), .ref (b4 7), .int (0 : Int32), .int (0 : Int32), .int (-1 : Int32), .int (0 : Int32), .int (0 : Int32), .int (0 : Int32)])), ((b4 2), .inl (cI, 40, .inl (fun _ => 0))), ((b4 3), .inl (cI, 40, .inl (upd (upd (upd (upd (upd (upd (upd (fun _ => 0) (9 : Int32).toNatClampNeg (1 : Int32)) (14 : Int32).toNatClampNeg (1 : Int32)) (19 : Int32).toNatClampNeg (1 : Int32)) (24 : Int32).toNatClampNeg (1 : Int32)) (29 : Int32).toNatClampNeg (1 : Int32)) (34 : Int32).toNatClampNeg (1 : Int32)) (39 : Int32).toNatClampNeg (1 : Int32)))), ((b4 4), .inl (cI, 8, .inl (fun _ => 0))), ((b4 5), .inl (cI, 5, .inl (fun _ => 0))), ((b4 6), .inl (cI, 200, .inl (fun _ => 0))), ((b4 7), .inr (1, [.ref (b4 8), .ref (b4 9), .ref (b4 10), .int (0 : Int32)])), ((b4 8), .inl (cI, 24, .inl (fun _ => 0))), ((b4 9), .inl (cI, 24, .inl (fun _ => 0))), ((b4 10), .inl (cI, 24, .inl (fun _ => 0))), ((b4 11), .inl (cI, 8, .inl (fun _ => 0))), ((b4 12), .inl (cI, 40, .inl (fun _ => 0))), ((b4 13), .inl (cI, 5, .inl (fun _ => 0))), ((b4 14), .inl (cI, 8, .inl (fun _ => 0))), (q5, .inl (cO, 2, .inr (.inr (.inr (.inr (fun _ => none))))))]) G tyX6 tyX6_ok nmX6 inX6 0 3 rfl rfl (by decide) lk_30 rfl rfl E.2.2.2 rfl (ty := .array (.object "FreshShares$Circle")) (by decide +kernel) rfl rfl (Nat.le_of_ble_eq_true rfl) rfl dX6_init_42 ?_
  exact b_vret G E (fun i => [h0, q1, (b2 1), q3, (b4 1), (b4 2), (b4 3), (b4 4), (b4 5), (b4 6), (b4 7), (b4 8), (b4 9), (b4 10), (b4 11), (b4 12), (b4 13), (b4 14), q5].getD i 0) [0, 1, 2, 3, 4, 5, 6, 7, 8, 9, 10, 11, 12, 13, 14, 15, 16, 17, 18] (by decide) rfl rfl dX6_init_45
abbrev rm_X7_init : Room := { frames := 1, cells := 7, slots := 1143, locals := 21 }
theorem hd_X7_init : yX7_init.cls ≠ "java/lang/invoke/MethodHandle" ∧ yX7_init.cls ≠ "java/lang/invoke/VarHandle" ∧ (parseMethodDescriptor yX7_init.desc).map (fun d => d.parameters.length) = some 0 := by decide +kernel
def xw_X7 (cI cZ : ClassId) (h0 : Nat) (b : Nat → Nat) : va_W := [(h0, .inr (5, [.ref (b 1), .ref (b 2), .int (0 : Int32), .ref (b 3), .int (0 : Int32), .ref (b 4), .ref (b 5), .ref (b 6), .ref (b 7)])), ((b 1), .inl (cI, 371, .inl (upd (upd (upd (upd (upd (upd (upd (upd (upd (upd (upd (upd (upd (upd (upd (upd (fun _ => 0) (41 : Int32).toNatClampNeg (-6 : Int32)) (81 : Int32).toNatClampNeg (1 : Int32)) (42 : Int32).toNatClampNeg (-6 : Int32)) (82 : Int32).toNatClampNeg (1 : Int32)) (43 : Int32).toNatClampNeg (-6 : Int32)) (83 : Int32).toNatClampNeg (1 : Int32)) (44 : Int32).toNatClampNeg (-6 : Int32)) (84 : Int32).toNatClampNeg (1 : Int32)) (45 : Int32).toNatClampNeg (-6 : Int32)) (85 : Int32).toNatClampNeg (1 : Int32)) (46 : Int32).toNatClampNeg (-6 : Int32)) (86 : Int32).toNatClampNeg (1 : Int32)) (47 : Int32).toNatClampNeg (-6 : Int32)) (87 : Int32).toNatClampNeg (1 : Int32)) (88 : Int32).toNatClampNeg (-6 : Int32)) (89 : Int32).toNatClampNeg (-6 : Int32)))), ((b 2), .inl (cI, 10, .inl (fun _ => 0))), ((b 3), .inl (cI, 5, .inl (fun _ => 0))), ((b 4), .inl (cI, 8, .inl (fun _ => 0))), ((b 5), .inl (cI, 5, .inl (fun _ => 0))), ((b 6), .inl (cI, 742, .inl (fun _ => 0))), ((b 7), .inl (cZ, 2, .inl (fun _ => 0)))]
set_option maxHeartbeats 4000000 in
set_option maxRecDepth 100000 in
theorem c_X7_init (l : Launch) (D : va_G) (cI cZ : ClassId) (h0 : Nat) (sz : Nat) : Met l yX7_init wsX7_init rm_X7_init (k_PI D [(cI, .int), (cZ, .boolean)] h0 (.inr (5, [.null, .null, .int 0, .null, .int 0, .null, .null, .null, .null])) sz) (k_QI D h0 (.inr (5, [.null, .null, .int 0, .null, .int 0, .null, .null, .null, .null])) sz (xw_X7 cI cZ h0)) 7 1143 (va_A [(h0, .inr (5, [.null, .null, .int 0, .null, .int 0, .null, .null, .null, .null]))] sz) := by
  refine k_metI (by decide) rfl rfl (by decide) ?_ sz
  intro Γ G E hA
  have inX7 : ∀ w ∈ wsX70, w ∈ wsX7_init := by decide +kernel
  have lk_7 := G.2.2.2.2.1 (.fieldLink RX7 7 "FreshSharesModel" "state" "[I") (by decide +kernel)
  have lk_13 := G.2.2.2.2.1 (.fieldLink RX7 13 "FreshSharesModel" "text" "[I") (by decide +kernel)
  have lk_16 := G.2.2.2.2.1 (.fieldLink RX7 16 "FreshSharesModel" "poly" "[I") (by decide +kernel)
  have lk_19 := G.2.2.2.2.1 (.fieldLink RX7 19 "FreshSharesModel" "added" "[I") (by decide +kernel)
  have lk_22 := G.2.2.2.2.1 (.fieldLink RX7 22 "FreshSharesModel" "sealed" "[I") (by decide +kernel)
  have lk_25 := G.2.2.2.2.1 (.fieldLink RX7 25 "FreshSharesModel" "images" "[I") (by decide +kernel)
  have lk_28 := G.2.2.2.2.1 (.fieldLink RX7 28 "FreshSharesModel" "isKept" "[Z") (by decide +kernel)
  refine b_aload_n G dX7_init_0 0 rfl rfl ?_
  refine b_obj G (G.2.2.2.2.1 (.methodLink RX7 1 objectInit) (by decide +kernel)) (G.2.2.2.2.1 (.instanceMethod objectInit) (by decide +kernel)) (G.2.2.2.2.1 (.code objectInit ⟨#[0xb1]⟩ 1 none) (by decide +kernel)) dX7_init_1 (by decide) (by decide) ?_
  refine b_aload_n G dX7_init_4 0 rfl rfl ?_
  refine b_sipush G (371 : Int32) dX7_init_5 ks_371 ?_
  refine b_newi G hA 0 rfl 371 (G.2.2.2.2.1 (.arrayClass .int) (by decide +kernel)) (by decide) (by decide) (by decide) (by decide) (by decide) dX7_init_8 (fun q1 => ?_)
  refine b_eq (ws' := [(h0, .inr (5, [.null, .null, .int (0 : Int32), .null, .int (0 : Int32), .null, .null, .null, .null])), (q1, .inl (cI, 371, .inl (fun _ => 0)))]) rfl ?_
  refine b_putF (ws' := [(h0, .inr (5, [.ref q1, .null, .int (0 : Int32), .null, .int (0 : Int32), .null, .null, .null, .null])), (q1, .inl (cI, 371, .inl (fun _ => 0)))]) G tyX7 tyX7_ok nmX7 inX7 0 0 rfl rfl (by decide) lk_7 rfl rfl E.2.2.2 rfl (ty := .array .int) (by decide +kernel) rfl rfl (Nat.le_of_ble_eq_true rfl) rfl dX7_init_10 ?_
  refine b_aload_n G dX7_init_13 0 rfl rfl ?_
  refine b_bipush G (10 : Int32) dX7_init_14 kb_10 ?_
  refine b_newi G hA 0 rfl 10 (G.2.2.2.2.1 (.arrayClass .int) (by decide +kernel)) (by decide) (by decide) (by decide) (by decide) (by decide) dX7_init_16 (fun q2 => ?_)
  refine b_eq (ws' := [(h0, .inr (5, [.ref q1, .null, .int (0 : Int32), .null, .int (0 : Int32), .null, .null, .null, .null])), (q1, .inl (cI, 371, .inl (fun _ => 0))), (q2, .inl (cI, 10, .inl (fun _ => 0)))]) rfl ?_
  refine b_putF (ws' := [(h0, .inr (5, [.ref q1, .ref q2, .int (0 : Int32), .null, .int (0 : Int32), .null, .null, .null, .null])), (q1, .inl (cI, 371, .inl (fun _ => 0))), (q2, .inl (cI, 10, .inl (fun _ => 0)))]) G tyX7 tyX7_ok nmX7 inX7 0 1 rfl rfl (by decide) lk_13 rfl rfl E.2.2.2 rfl (ty := .array .int) (by decide +kernel) rfl rfl (Nat.le_of_ble_eq_true rfl) rfl dX7_init_18 ?_
  refine b_aload_n G dX7_init_21 0 rfl rfl ?_
  refine b_iconst G (5 : Int32) dX7_init_22 kc_5 ?_
  refine b_newi G hA 0 rfl 5 (G.2.2.2.2.1 (.arrayClass .int) (by decide +kernel)) (by decide) (by decide) (by decide) (by decide) (by decide) dX7_init_23 (fun q3 => ?_)
  refine b_eq (ws' := [(h0, .inr (5, [.ref q1, .ref q2, .int (0 : Int32), .null, .int (0 : Int32), .null, .null, .null, .null])), (q1, .inl (cI, 371, .inl (fun _ => 0))), (q2, .inl (cI, 10, .inl (fun _ => 0))), (q3, .inl (cI, 5, .inl (fun _ => 0)))]) rfl ?_
  refine b_putF (ws' := [(h0, .inr (5, [.ref q1, .ref q2, .int (0 : Int32), .ref q3, .int (0 : Int32), .null, .null, .null, .null])), (q1, .inl (cI, 371, .inl (fun _ => 0))), (q2, .inl (cI, 10, .inl (fun _ => 0))), (q3, .inl (cI, 5, .inl (fun _ => 0)))]) G tyX7 tyX7_ok nmX7 inX7 0 3 rfl rfl (by decide) lk_16 rfl rfl E.2.2.2 rfl (ty := .array .int) (by decide +kernel) rfl rfl (Nat.le_of_ble_eq_true rfl) rfl dX7_init_25 ?_
  refine b_aload_n G dX7_init_28 0 rfl rfl ?_
  refine b_bipush G (8 : Int32) dX7_init_29 kb_8 ?_
  refine b_newi G hA 0 rfl 8 (G.2.2.2.2.1 (.arrayClass .int) (by decide +kernel)) (by decide) (by decide) (by decide) (by decide) (by decide) dX7_init_31 (fun q4 => ?_)
  refine b_eq (ws' := [(h0, .inr (5, [.ref q1, .ref q2, .int (0 : Int32), .ref q3, .int (0 : Int32), .null, .null, .null, .null])), (q1, .inl (cI, 371, .inl (fun _ => 0))), (q2, .inl (cI, 10, .inl (fun _ => 0))), (q3, .inl (cI, 5, .inl (fun _ => 0))), (q4, .inl (cI, 8, .inl (fun _ => 0)))]) rfl ?_
  refine b_putF (ws' := [(h0, .inr (5, [.ref q1, .ref q2, .int (0 : Int32), .ref q3, .int (0 : Int32), .ref q4, .null, .null, .null])), (q1, .inl (cI, 371, .inl (fun _ => 0))), (q2, .inl (cI, 10, .inl (fun _ => 0))), (q3, .inl (cI, 5, .inl (fun _ => 0))), (q4, .inl (cI, 8, .inl (fun _ => 0)))]) G tyX7 tyX7_ok nmX7 inX7 0 5 rfl rfl (by decide) lk_19 rfl rfl E.2.2.2 rfl (ty := .array .int) (by decide +kernel) rfl rfl (Nat.le_of_ble_eq_true rfl) rfl dX7_init_33 ?_
  refine b_aload_n G dX7_init_36 0 rfl rfl ?_
  refine b_iconst G (5 : Int32) dX7_init_37 kc_5 ?_
  refine b_newi G hA 0 rfl 5 (G.2.2.2.2.1 (.arrayClass .int) (by decide +kernel)) (by decide) (by decide) (by decide) (by decide) (by decide) dX7_init_38 (fun q5 => ?_)
  refine b_eq (ws' := [(h0, .inr (5, [.ref q1, .ref q2, .int (0 : Int32), .ref q3, .int (0 : Int32), .ref q4, .null, .null, .null])), (q1, .inl (cI, 371, .inl (fun _ => 0))), (q2, .inl (cI, 10, .inl (fun _ => 0))), (q3, .inl (cI, 5, .inl (fun _ => 0))), (q4, .inl (cI, 8, .inl (fun _ => 0))), (q5, .inl (cI, 5, .inl (fun _ => 0)))]) rfl ?_
  refine b_putF (ws' := [(h0, .inr (5, [.ref q1, .ref q2, .int (0 : Int32), .ref q3, .int (0 : Int32), .ref q4, .ref q5, .null, .null])), (q1, .inl (cI, 371, .inl (fun _ => 0))), (q2, .inl (cI, 10, .inl (fun _ => 0))), (q3, .inl (cI, 5, .inl (fun _ => 0))), (q4, .inl (cI, 8, .inl (fun _ => 0))), (q5, .inl (cI, 5, .inl (fun _ => 0)))]) G tyX7 tyX7_ok nmX7 inX7 0 6 rfl rfl (by decide) lk_22 rfl rfl E.2.2.2 rfl (ty := .array .int) (by decide +kernel) rfl rfl (Nat.le_of_ble_eq_true rfl) rfl dX7_init_40 ?_
  refine b_aload_n G dX7_init_43 0 rfl rfl ?_
  refine b_sipush G (742 : Int32) dX7_init_44 ks_742 ?_
  refine b_newi G hA 0 rfl 742 (G.2.2.2.2.1 (.arrayClass .int) (by decide +kernel)) (by decide) (by decide) (by decide) (by decide) (by decide) dX7_init_47 (fun q6 => ?_)
  refine b_eq (ws' := [(h0, .inr (5, [.ref q1, .ref q2, .int (0 : Int32), .ref q3, .int (0 : Int32), .ref q4, .ref q5, .null, .null])), (q1, .inl (cI, 371, .inl (fun _ => 0))), (q2, .inl (cI, 10, .inl (fun _ => 0))), (q3, .inl (cI, 5, .inl (fun _ => 0))), (q4, .inl (cI, 8, .inl (fun _ => 0))), (q5, .inl (cI, 5, .inl (fun _ => 0))), (q6, .inl (cI, 742, .inl (fun _ => 0)))]) rfl ?_
  refine b_putF (ws' := [(h0, .inr (5, [.ref q1, .ref q2, .int (0 : Int32), .ref q3, .int (0 : Int32), .ref q4, .ref q5, .ref q6, .null])), (q1, .inl (cI, 371, .inl (fun _ => 0))), (q2, .inl (cI, 10, .inl (fun _ => 0))), (q3, .inl (cI, 5, .inl (fun _ => 0))), (q4, .inl (cI, 8, .inl (fun _ => 0))), (q5, .inl (cI, 5, .inl (fun _ => 0))), (q6, .inl (cI, 742, .inl (fun _ => 0)))]) G tyX7 tyX7_ok nmX7 inX7 0 7 rfl rfl (by decide) lk_25 rfl rfl E.2.2.2 rfl (ty := .array .int) (by decide +kernel) rfl rfl (Nat.le_of_ble_eq_true rfl) rfl dX7_init_49 ?_
  refine b_aload_n G dX7_init_52 0 rfl rfl ?_
  refine b_iconst G (2 : Int32) dX7_init_53 kc_2 ?_
  refine b_newz G hA 1 rfl 2 (G.2.2.2.2.1 (.arrayClass .boolean) (by decide +kernel)) (by decide) (by decide) (by decide) (by decide) (by decide) dX7_init_54 (fun q7 => ?_)
  refine b_eq (ws' := [(h0, .inr (5, [.ref q1, .ref q2, .int (0 : Int32), .ref q3, .int (0 : Int32), .ref q4, .ref q5, .ref q6, .null])), (q1, .inl (cI, 371, .inl (fun _ => 0))), (q2, .inl (cI, 10, .inl (fun _ => 0))), (q3, .inl (cI, 5, .inl (fun _ => 0))), (q4, .inl (cI, 8, .inl (fun _ => 0))), (q5, .inl (cI, 5, .inl (fun _ => 0))), (q6, .inl (cI, 742, .inl (fun _ => 0))), (q7, .inl (cZ, 2, .inl (fun _ => 0)))]) rfl ?_
  refine b_putF (ws' := [(h0, .inr (5, [.ref q1, .ref q2, .int (0 : Int32), .ref q3, .int (0 : Int32), .ref q4, .ref q5, .ref q6, .ref q7])), (q1, .inl (cI, 371, .inl (fun _ => 0))), (q2, .inl (cI, 10, .inl (fun _ => 0))), (q3, .inl (cI, 5, .inl (fun _ => 0))), (q4, .inl (cI, 8, .inl (fun _ => 0))), (q5, .inl (cI, 5, .inl (fun _ => 0))), (q6, .inl (cI, 742, .inl (fun _ => 0))), (q7, .inl (cZ, 2, .inl (fun _ => 0)))]) G tyX7 tyX7_ok nmX7 inX7 0 8 rfl rfl (by decide) lk_28 rfl rfl E.2.2.2 rfl (ty := .array .boolean) (by decide +kernel) rfl rfl (Nat.le_of_ble_eq_true rfl) rfl dX7_init_56 ?_
  refine b_iconst G (1 : Int32) dX7_init_59 kc_1 ?_
  refine b_istore_n (lv' := [(1, .int (1 : Int32)), (0, .ref h0)]) G dX7_init_60 rfl (by decide) rfl ?_
  refine b_iload_n G dX7_init_61 0 rfl rfl ?_
  refine b_bipush G (7 : Int32) dX7_init_62 kb_7 ?_
  refine b_icmp_gt_f G 95 dX7_init_64 (by decide) (by decide) ?_
  refine b_aload_n G dX7_init_67 1 rfl rfl ?_
  refine b_get G inX7 0 0 rfl rfl (by decide) lk_7 rfl rfl dX7_init_68 ?_
  refine b_bipush G (40 : Int32) dX7_init_71 kb_40 ?_
  refine b_iload_n G dX7_init_73 0 rfl rfl ?_
  refine b_iadd G dX7_init_74 ?_
  refine b_top (41 : Int32) (by decide) ?_
  refine b_bipush G (-6 : Int32) dX7_init_75 kb_m6 ?_
  refine b_iast (ws' := [(h0, .inr (5, [.ref q1, .ref q2, .int (0 : Int32), .ref q3, .int (0 : Int32), .ref q4, .ref q5, .ref q6, .ref q7])), (q1, .inl (cI, 371, .inl (upd (fun _ => 0) (41 : Int32).toNatClampNeg (-6 : Int32)))), (q2, .inl (cI, 10, .inl (fun _ => 0))), (q3, .inl (cI, 5, .inl (fun _ => 0))), (q4, .inl (cI, 8, .inl (fun _ => 0))), (q5, .inl (cI, 5, .inl (fun _ => 0))), (q6, .inl (cI, 742, .inl (fun _ => 0))), (q7, .inl (cZ, 2, .inl (fun _ => 0)))]) G 1 0 rfl rfl (by unfold vp_in; decide) rfl dX7_init_77 ?_
  refine b_aload_n G dX7_init_78 1 rfl rfl ?_
  refine b_get G inX7 0 0 rfl rfl (by decide) lk_7 rfl rfl dX7_init_79 ?_
  refine b_iload_n G dX7_init_82 0 rfl rfl ?_
  refine b_iconst G (4 : Int32) dX7_init_83 kc_4 ?_
  refine b_cSR G [.int (1 : Int32), .int (4 : Int32)] [.ref q1] (c_X7_bentAt (k_l Γ) (k_D Γ) _ _ (fun r => r = (81 : Int32)) (by unfold wp_X7_bentAt; decide)) (va_cwS 2 G.2.2.2.2.1 gX7_init_X7_bentAt rfl rfl rfl hd_X7_bentAt ⟨by decide, by decide⟩) rfl rfl (Nat.le_of_ble_eq_true rfl) ⟨by decide, by decide⟩ dX7_init_84 (fun r hr => ?_)
  subst hr
  refine b_iconst G (1 : Int32) dX7_init_87 kc_1 ?_
  refine b_iast (ws' := [(h0, .inr (5, [.ref q1, .ref q2, .int (0 : Int32), .ref q3, .int (0 : Int32), .ref q4, .ref q5, .ref q6, .ref q7])), (q1, .inl (cI, 371, .inl (upd (upd (fun _ => 0) (41 : Int32).toNatClampNeg (-6 : Int32)) (81 : Int32).toNatClampNeg (1 : Int32)))), (q2, .inl (cI, 10, .inl (fun _ => 0))), (q3, .inl (cI, 5, .inl (fun _ => 0))), (q4, .inl (cI, 8, .inl (fun _ => 0))), (q5, .inl (cI, 5, .inl (fun _ => 0))), (q6, .inl (cI, 742, .inl (fun _ => 0))), (q7, .inl (cZ, 2, .inl (fun _ => 0)))]) G 1 0 rfl rfl (by unfold vp_in; decide) rfl dX7_init_88 ?_
  refine b_iinc (lv' := [(1, .int (2 : Int32)), (0, .ref h0)]) G 0 dX7_init_89 kc_1 rfl (by decide) rfl ?_
  refine b_goto G 61 dX7_init_92 (by decide) ?_
  refine b_iload_n G dX7_init_61 0 rfl rfl ?_
  refine b_bipush G (7 : Int32) dX7_init_62 kb_7 ?_
  refine b_icmp_gt_f G 95 dX7_init_64 (by decide) (by decide) ?_
  refine b_aload_n G dX7_init_67 1 rfl rfl ?_
  refine b_get G inX7 0 0 rfl rfl (by decide) lk_7 rfl rfl dX7_init_68 ?_
  refine b_bipush G (40 : Int32) dX7_init_71 kb_40 ?_
  refine b_iload_n G dX7_init_73 0 rfl rfl ?_
  refine b_iadd G dX7_init_74 ?_
  refine b_top (42 : Int32) (by decide) ?_
  refine b_bipush G (-6 : Int32) dX7_init_75 kb_m6 ?_
  refine b_iast (ws' := [(h0, .inr (5, [.ref q1, .ref q2, .int (0 : Int32), .ref q3, .int (0 : Int32), .ref q4, .ref q5, .ref q6, .ref q7])), (q1, .inl (cI, 371, .inl (upd (upd (upd (fun _ => 0) (41 : Int32).toNatClampNeg (-6 : Int32)) (81 : Int32).toNatClampNeg (1 : Int32)) (42 : Int32).toNatClampNeg (-6 : Int32)))), (q2, .inl (cI, 10, .inl (fun _ => 0))), (q3, .inl (cI, 5, .inl (fun _ => 0))), (q4, .inl (cI, 8, .inl (fun _ => 0))), (q5, .inl (cI, 5, .inl (fun _ => 0))), (q6, .inl (cI, 742, .inl (fun _ => 0))), (q7, .inl (cZ, 2, .inl (fun _ => 0)))]) G 1 0 rfl rfl (by unfold vp_in; decide) rfl dX7_init_77 ?_
  refine b_aload_n G dX7_init_78 1 rfl rfl ?_
  refine b_get G inX7 0 0 rfl rfl (by decide) lk_7 rfl rfl dX7_init_79 ?_
  refine b_iload_n G dX7_init_82 0 rfl rfl ?_
  refine b_iconst G (4 : Int32) dX7_init_83 kc_4 ?_
  refine b_cSR G [.int (2 : Int32), .int (4 : Int32)] [.ref q1] (c_X7_bentAt (k_l Γ) (k_D Γ) _ _ (fun r => r = (82 : Int32)) (by unfold wp_X7_bentAt; decide)) (va_cwS 2 G.2.2.2.2.1 gX7_init_X7_bentAt rfl rfl rfl hd_X7_bentAt ⟨by decide, by decide⟩) rfl rfl (Nat.le_of_ble_eq_true rfl) ⟨by decide, by decide⟩ dX7_init_84 (fun r hr => ?_)
  subst hr
  refine b_iconst G (1 : Int32) dX7_init_87 kc_1 ?_
  refine b_iast (ws' := [(h0, .inr (5, [.ref q1, .ref q2, .int (0 : Int32), .ref q3, .int (0 : Int32), .ref q4, .ref q5, .ref q6, .ref q7])), (q1, .inl (cI, 371, .inl (upd (upd (upd (upd (fun _ => 0) (41 : Int32).toNatClampNeg (-6 : Int32)) (81 : Int32).toNatClampNeg (1 : Int32)) (42 : Int32).toNatClampNeg (-6 : Int32)) (82 : Int32).toNatClampNeg (1 : Int32)))), (q2, .inl (cI, 10, .inl (fun _ => 0))), (q3, .inl (cI, 5, .inl (fun _ => 0))), (q4, .inl (cI, 8, .inl (fun _ => 0))), (q5, .inl (cI, 5, .inl (fun _ => 0))), (q6, .inl (cI, 742, .inl (fun _ => 0))), (q7, .inl (cZ, 2, .inl (fun _ => 0)))]) G 1 0 rfl rfl (by unfold vp_in; decide) rfl dX7_init_88 ?_
  refine b_iinc (lv' := [(1, .int (3 : Int32)), (0, .ref h0)]) G 0 dX7_init_89 kc_1 rfl (by decide) rfl ?_
  refine b_goto G 61 dX7_init_92 (by decide) ?_
  refine b_iload_n G dX7_init_61 0 rfl rfl ?_
  refine b_bipush G (7 : Int32) dX7_init_62 kb_7 ?_
  refine b_icmp_gt_f G 95 dX7_init_64 (by decide) (by decide) ?_
  refine b_aload_n G dX7_init_67 1 rfl rfl ?_
  refine b_get G inX7 0 0 rfl rfl (by decide) lk_7 rfl rfl dX7_init_68 ?_
  refine b_bipush G (40 : Int32) dX7_init_71 kb_40 ?_
  refine b_iload_n G dX7_init_73 0 rfl rfl ?_
  refine b_iadd G dX7_init_74 ?_
  refine b_top (43 : Int32) (by decide) ?_
  refine b_bipush G (-6 : Int32) dX7_init_75 kb_m6 ?_
  refine b_iast (ws' := [(h0, .inr (5, [.ref q1, .ref q2, .int (0 : Int32), .ref q3, .int (0 : Int32), .ref q4, .ref q5, .ref q6, .ref q7])), (q1, .inl (cI, 371, .inl (upd (upd (upd (upd (upd (fun _ => 0) (41 : Int32).toNatClampNeg (-6 : Int32)) (81 : Int32).toNatClampNeg (1 : Int32)) (42 : Int32).toNatClampNeg (-6 : Int32)) (82 : Int32).toNatClampNeg (1 : Int32)) (43 : Int32).toNatClampNeg (-6 : Int32)))), (q2, .inl (cI, 10, .inl (fun _ => 0))), (q3, .inl (cI, 5, .inl (fun _ => 0))), (q4, .inl (cI, 8, .inl (fun _ => 0))), (q5, .inl (cI, 5, .inl (fun _ => 0))), (q6, .inl (cI, 742, .inl (fun _ => 0))), (q7, .inl (cZ, 2, .inl (fun _ => 0)))]) G 1 0 rfl rfl (by unfold vp_in; decide) rfl dX7_init_77 ?_
  refine b_aload_n G dX7_init_78 1 rfl rfl ?_
  refine b_get G inX7 0 0 rfl rfl (by decide) lk_7 rfl rfl dX7_init_79 ?_
  refine b_iload_n G dX7_init_82 0 rfl rfl ?_
  refine b_iconst G (4 : Int32) dX7_init_83 kc_4 ?_
  refine b_cSR G [.int (3 : Int32), .int (4 : Int32)] [.ref q1] (c_X7_bentAt (k_l Γ) (k_D Γ) _ _ (fun r => r = (83 : Int32)) (by unfold wp_X7_bentAt; decide)) (va_cwS 2 G.2.2.2.2.1 gX7_init_X7_bentAt rfl rfl rfl hd_X7_bentAt ⟨by decide, by decide⟩) rfl rfl (Nat.le_of_ble_eq_true rfl) ⟨by decide, by decide⟩ dX7_init_84 (fun r hr => ?_)
  subst hr
  refine b_iconst G (1 : Int32) dX7_init_87 kc_1 ?_
  refine b_iast (ws' := [(h0, .inr (5, [.ref q1, .ref q2, .int (0 : Int32), .ref q3, .int (0 : Int32), .ref q4, .ref q5, .ref q6, .ref q7])), (q1, .inl (cI, 371, .inl (upd (upd (upd (upd (upd (upd (fun _ => 0) (41 : Int32).toNatClampNeg (-6 : Int32)) (81 : Int32).toNatClampNeg (1 : Int32)) (42 : Int32).toNatClampNeg (-6 : Int32)) (82 : Int32).toNatClampNeg (1 : Int32)) (43 : Int32).toNatClampNeg (-6 : Int32)) (83 : Int32).toNatClampNeg (1 : Int32)))), (q2, .inl (cI, 10, .inl (fun _ => 0))), (q3, .inl (cI, 5, .inl (fun _ => 0))), (q4, .inl (cI, 8, .inl (fun _ => 0))), (q5, .inl (cI, 5, .inl (fun _ => 0))), (q6, .inl (cI, 742, .inl (fun _ => 0))), (q7, .inl (cZ, 2, .inl (fun _ => 0)))]) G 1 0 rfl rfl (by unfold vp_in; decide) rfl dX7_init_88 ?_
  refine b_iinc (lv' := [(1, .int (4 : Int32)), (0, .ref h0)]) G 0 dX7_init_89 kc_1 rfl (by decide) rfl ?_
  refine b_goto G 61 dX7_init_92 (by decide) ?_
  refine b_iload_n G dX7_init_61 0 rfl rfl ?_
  refine b_bipush G (7 : Int32) dX7_init_62 kb_7 ?_
  refine b_icmp_gt_f G 95 dX7_init_64 (by decide) (by decide) ?_
  refine b_aload_n G dX7_init_67 1 rfl rfl ?_
  refine b_get G inX7 0 0 rfl rfl (by decide) lk_7 rfl rfl dX7_init_68 ?_
  refine b_bipush G (40 : Int32) dX7_init_71 kb_40 ?_
  refine b_iload_n G dX7_init_73 0 rfl rfl ?_
  refine b_iadd G dX7_init_74 ?_
  refine b_top (44 : Int32) (by decide) ?_
  refine b_bipush G (-6 : Int32) dX7_init_75 kb_m6 ?_
  refine b_iast (ws' := [(h0, .inr (5, [.ref q1, .ref q2, .int (0 : Int32), .ref q3, .int (0 : Int32), .ref q4, .ref q5, .ref q6, .ref q7])), (q1, .inl (cI, 371, .inl (upd (upd (upd (upd (upd (upd (upd (fun _ => 0) (41 : Int32).toNatClampNeg (-6 : Int32)) (81 : Int32).toNatClampNeg (1 : Int32)) (42 : Int32).toNatClampNeg (-6 : Int32)) (82 : Int32).toNatClampNeg (1 : Int32)) (43 : Int32).toNatClampNeg (-6 : Int32)) (83 : Int32).toNatClampNeg (1 : Int32)) (44 : Int32).toNatClampNeg (-6 : Int32)))), (q2, .inl (cI, 10, .inl (fun _ => 0))), (q3, .inl (cI, 5, .inl (fun _ => 0))), (q4, .inl (cI, 8, .inl (fun _ => 0))), (q5, .inl (cI, 5, .inl (fun _ => 0))), (q6, .inl (cI, 742, .inl (fun _ => 0))), (q7, .inl (cZ, 2, .inl (fun _ => 0)))]) G 1 0 rfl rfl (by unfold vp_in; decide) rfl dX7_init_77 ?_
  refine b_aload_n G dX7_init_78 1 rfl rfl ?_
  refine b_get G inX7 0 0 rfl rfl (by decide) lk_7 rfl rfl dX7_init_79 ?_
  refine b_iload_n G dX7_init_82 0 rfl rfl ?_
  refine b_iconst G (4 : Int32) dX7_init_83 kc_4 ?_
  refine b_cSR G [.int (4 : Int32), .int (4 : Int32)] [.ref q1] (c_X7_bentAt (k_l Γ) (k_D Γ) _ _ (fun r => r = (84 : Int32)) (by unfold wp_X7_bentAt; decide)) (va_cwS 2 G.2.2.2.2.1 gX7_init_X7_bentAt rfl rfl rfl hd_X7_bentAt ⟨by decide, by decide⟩) rfl rfl (Nat.le_of_ble_eq_true rfl) ⟨by decide, by decide⟩ dX7_init_84 (fun r hr => ?_)
  subst hr
  refine b_iconst G (1 : Int32) dX7_init_87 kc_1 ?_
  refine b_iast (ws' := [(h0, .inr (5, [.ref q1, .ref q2, .int (0 : Int32), .ref q3, .int (0 : Int32), .ref q4, .ref q5, .ref q6, .ref q7])), (q1, .inl (cI, 371, .inl (upd (upd (upd (upd (upd (upd (upd (upd (fun _ => 0) (41 : Int32).toNatClampNeg (-6 : Int32)) (81 : Int32).toNatClampNeg (1 : Int32)) (42 : Int32).toNatClampNeg (-6 : Int32)) (82 : Int32).toNatClampNeg (1 : Int32)) (43 : Int32).toNatClampNeg (-6 : Int32)) (83 : Int32).toNatClampNeg (1 : Int32)) (44 : Int32).toNatClampNeg (-6 : Int32)) (84 : Int32).toNatClampNeg (1 : Int32)))), (q2, .inl (cI, 10, .inl (fun _ => 0))), (q3, .inl (cI, 5, .inl (fun _ => 0))), (q4, .inl (cI, 8, .inl (fun _ => 0))), (q5, .inl (cI, 5, .inl (fun _ => 0))), (q6, .inl (cI, 742, .inl (fun _ => 0))), (q7, .inl (cZ, 2, .inl (fun _ => 0)))]) G 1 0 rfl rfl (by unfold vp_in; decide) rfl dX7_init_88 ?_
  refine b_iinc (lv' := [(1, .int (5 : Int32)), (0, .ref h0)]) G 0 dX7_init_89 kc_1 rfl (by decide) rfl ?_
  refine b_goto G 61 dX7_init_92 (by decide) ?_
  refine b_iload_n G dX7_init_61 0 rfl rfl ?_
  refine b_bipush G (7 : Int32) dX7_init_62 kb_7 ?_
  refine b_icmp_gt_f G 95 dX7_init_64 (by decide) (by decide) ?_
  refine b_aload_n G dX7_init_67 1 rfl rfl ?_
  refine b_get G inX7 0 0 rfl rfl (by decide) lk_7 rfl rfl dX7_init_68 ?_
  refine b_bipush G (40 : Int32) dX7_init_71 kb_40 ?_
  refine b_iload_n G dX7_init_73 0 rfl rfl ?_
  refine b_iadd G dX7_init_74 ?_
  refine b_top (45 : Int32) (by decide) ?_
  refine b_bipush G (-6 : Int32) dX7_init_75 kb_m6 ?_
  refine b_iast (ws' := [(h0, .inr (5, [.ref q1, .ref q2, .int (0 : Int32), .ref q3, .int (0 : Int32), .ref q4, .ref q5, .ref q6, .ref q7])), (q1, .inl (cI, 371, .inl (upd (upd (upd (upd (upd (upd (upd (upd (upd (fun _ => 0) (41 : Int32).toNatClampNeg (-6 : Int32)) (81 : Int32).toNatClampNeg (1 : Int32)) (42 : Int32).toNatClampNeg (-6 : Int32)) (82 : Int32).toNatClampNeg (1 : Int32)) (43 : Int32).toNatClampNeg (-6 : Int32)) (83 : Int32).toNatClampNeg (1 : Int32)) (44 : Int32).toNatClampNeg (-6 : Int32)) (84 : Int32).toNatClampNeg (1 : Int32)) (45 : Int32).toNatClampNeg (-6 : Int32)))), (q2, .inl (cI, 10, .inl (fun _ => 0))), (q3, .inl (cI, 5, .inl (fun _ => 0))), (q4, .inl (cI, 8, .inl (fun _ => 0))), (q5, .inl (cI, 5, .inl (fun _ => 0))), (q6, .inl (cI, 742, .inl (fun _ => 0))), (q7, .inl (cZ, 2, .inl (fun _ => 0)))]) G 1 0 rfl rfl (by unfold vp_in; decide) rfl dX7_init_77 ?_
  refine b_aload_n G dX7_init_78 1 rfl rfl ?_
  refine b_get G inX7 0 0 rfl rfl (by decide) lk_7 rfl rfl dX7_init_79 ?_
  refine b_iload_n G dX7_init_82 0 rfl rfl ?_
  refine b_iconst G (4 : Int32) dX7_init_83 kc_4 ?_
  refine b_cSR G [.int (5 : Int32), .int (4 : Int32)] [.ref q1] (c_X7_bentAt (k_l Γ) (k_D Γ) _ _ (fun r => r = (85 : Int32)) (by unfold wp_X7_bentAt; decide)) (va_cwS 2 G.2.2.2.2.1 gX7_init_X7_bentAt rfl rfl rfl hd_X7_bentAt ⟨by decide, by decide⟩) rfl rfl (Nat.le_of_ble_eq_true rfl) ⟨by decide, by decide⟩ dX7_init_84 (fun r hr => ?_)
  subst hr
  refine b_iconst G (1 : Int32) dX7_init_87 kc_1 ?_
  refine b_iast (ws' := [(h0, .inr (5, [.ref q1, .ref q2, .int (0 : Int32), .ref q3, .int (0 : Int32), .ref q4, .ref q5, .ref q6, .ref q7])), (q1, .inl (cI, 371, .inl (upd (upd (upd (upd (upd (upd (upd (upd (upd (upd (fun _ => 0) (41 : Int32).toNatClampNeg (-6 : Int32)) (81 : Int32).toNatClampNeg (1 : Int32)) (42 : Int32).toNatClampNeg (-6 : Int32)) (82 : Int32).toNatClampNeg (1 : Int32)) (43 : Int32).toNatClampNeg (-6 : Int32)) (83 : Int32).toNatClampNeg (1 : Int32)) (44 : Int32).toNatClampNeg (-6 : Int32)) (84 : Int32).toNatClampNeg (1 : Int32)) (45 : Int32).toNatClampNeg (-6 : Int32)) (85 : Int32).toNatClampNeg (1 : Int32)))), (q2, .inl (cI, 10, .inl (fun _ => 0))), (q3, .inl (cI, 5, .inl (fun _ => 0))), (q4, .inl (cI, 8, .inl (fun _ => 0))), (q5, .inl (cI, 5, .inl (fun _ => 0))), (q6, .inl (cI, 742, .inl (fun _ => 0))), (q7, .inl (cZ, 2, .inl (fun _ => 0)))]) G 1 0 rfl rfl (by unfold vp_in; decide) rfl dX7_init_88 ?_
  refine b_iinc (lv' := [(1, .int (6 : Int32)), (0, .ref h0)]) G 0 dX7_init_89 kc_1 rfl (by decide) rfl ?_
  refine b_goto G 61 dX7_init_92 (by decide) ?_
  refine b_iload_n G dX7_init_61 0 rfl rfl ?_
  refine b_bipush G (7 : Int32) dX7_init_62 kb_7 ?_
  refine b_icmp_gt_f G 95 dX7_init_64 (by decide) (by decide) ?_
  refine b_aload_n G dX7_init_67 1 rfl rfl ?_
  refine b_get G inX7 0 0 rfl rfl (by decide) lk_7 rfl rfl dX7_init_68 ?_
  refine b_bipush G (40 : Int32) dX7_init_71 kb_40 ?_
  refine b_iload_n G dX7_init_73 0 rfl rfl ?_
  refine b_iadd G dX7_init_74 ?_
  refine b_top (46 : Int32) (by decide) ?_
  refine b_bipush G (-6 : Int32) dX7_init_75 kb_m6 ?_
  refine b_iast (ws' := [(h0, .inr (5, [.ref q1, .ref q2, .int (0 : Int32), .ref q3, .int (0 : Int32), .ref q4, .ref q5, .ref q6, .ref q7])), (q1, .inl (cI, 371, .inl (upd (upd (upd (upd (upd (upd (upd (upd (upd (upd (upd (fun _ => 0) (41 : Int32).toNatClampNeg (-6 : Int32)) (81 : Int32).toNatClampNeg (1 : Int32)) (42 : Int32).toNatClampNeg (-6 : Int32)) (82 : Int32).toNatClampNeg (1 : Int32)) (43 : Int32).toNatClampNeg (-6 : Int32)) (83 : Int32).toNatClampNeg (1 : Int32)) (44 : Int32).toNatClampNeg (-6 : Int32)) (84 : Int32).toNatClampNeg (1 : Int32)) (45 : Int32).toNatClampNeg (-6 : Int32)) (85 : Int32).toNatClampNeg (1 : Int32)) (46 : Int32).toNatClampNeg (-6 : Int32)))), (q2, .inl (cI, 10, .inl (fun _ => 0))), (q3, .inl (cI, 5, .inl (fun _ => 0))), (q4, .inl (cI, 8, .inl (fun _ => 0))), (q5, .inl (cI, 5, .inl (fun _ => 0))), (q6, .inl (cI, 742, .inl (fun _ => 0))), (q7, .inl (cZ, 2, .inl (fun _ => 0)))]) G 1 0 rfl rfl (by unfold vp_in; decide) rfl dX7_init_77 ?_
  refine b_aload_n G dX7_init_78 1 rfl rfl ?_
  refine b_get G inX7 0 0 rfl rfl (by decide) lk_7 rfl rfl dX7_init_79 ?_
  refine b_iload_n G dX7_init_82 0 rfl rfl ?_
  refine b_iconst G (4 : Int32) dX7_init_83 kc_4 ?_
  refine b_cSR G [.int (6 : Int32), .int (4 : Int32)] [.ref q1] (c_X7_bentAt (k_l Γ) (k_D Γ) _ _ (fun r => r = (86 : Int32)) (by unfold wp_X7_bentAt; decide)) (va_cwS 2 G.2.2.2.2.1 gX7_init_X7_bentAt rfl rfl rfl hd_X7_bentAt ⟨by decide, by decide⟩) rfl rfl (Nat.le_of_ble_eq_true rfl) ⟨by decide, by decide⟩ dX7_init_84 (fun r hr => ?_)
  subst hr
  refine b_iconst G (1 : Int32) dX7_init_87 kc_1 ?_
  refine b_iast (ws' := [(h0, .inr (5, [.ref q1, .ref q2, .int (0 : Int32), .ref q3, .int (0 : Int32), .ref q4, .ref q5, .ref q6, .ref q7])), (q1, .inl (cI, 371, .inl (upd (upd (upd (upd (upd (upd (upd (upd (upd (upd (upd (upd (fun _ => 0) (41 : Int32).toNatClampNeg (-6 : Int32)) (81 : Int32).toNatClampNeg (1 : Int32)) (42 : Int32).toNatClampNeg (-6 : Int32)) (82 : Int32).toNatClampNeg (1 : Int32)) (43 : Int32).toNatClampNeg (-6 : Int32)) (83 : Int32).toNatClampNeg (1 : Int32)) (44 : Int32).toNatClampNeg (-6 : Int32)) (84 : Int32).toNatClampNeg (1 : Int32)) (45 : Int32).toNatClampNeg (-6 : Int32)) (85 : Int32).toNatClampNeg (1 : Int32)) (46 : Int32).toNatClampNeg (-6 : Int32)) (86 : Int32).toNatClampNeg (1 : Int32)))), (q2, .inl (cI, 10, .inl (fun _ => 0))), (q3, .inl (cI, 5, .inl (fun _ => 0))), (q4, .inl (cI, 8, .inl (fun _ => 0))), (q5, .inl (cI, 5, .inl (fun _ => 0))), (q6, .inl (cI, 742, .inl (fun _ => 0))), (q7, .inl (cZ, 2, .inl (fun _ => 0)))]) G 1 0 rfl rfl (by unfold vp_in; decide) rfl dX7_init_88 ?_
  refine b_iinc (lv' := [(1, .int (7 : Int32)), (0, .ref h0)]) G 0 dX7_init_89 kc_1 rfl (by decide) rfl ?_
  refine b_goto G 61 dX7_init_92 (by decide) ?_
  refine b_iload_n G dX7_init_61 0 rfl rfl ?_
  refine b_bipush G (7 : Int32) dX7_init_62 kb_7 ?_
  refine b_icmp_gt_f G 95 dX7_init_64 (by decide) (by decide) ?_
  refine b_aload_n G dX7_init_67 1 rfl rfl ?_
  refine b_get G inX7 0 0 rfl rfl (by decide) lk_7 rfl rfl dX7_init_68 ?_
  refine b_bipush G (40 : Int32) dX7_init_71 kb_40 ?_
  refine b_iload_n G dX7_init_73 0 rfl rfl ?_
  refine b_iadd G dX7_init_74 ?_
  refine b_top (47 : Int32) (by decide) ?_
  refine b_bipush G (-6 : Int32) dX7_init_75 kb_m6 ?_
  refine b_iast (ws' := [(h0, .inr (5, [.ref q1, .ref q2, .int (0 : Int32), .ref q3, .int (0 : Int32), .ref q4, .ref q5, .ref q6, .ref q7])), (q1, .inl (cI, 371, .inl (upd (upd (upd (upd (upd (upd (upd (upd (upd (upd (upd (upd (upd (fun _ => 0) (41 : Int32).toNatClampNeg (-6 : Int32)) (81 : Int32).toNatClampNeg (1 : Int32)) (42 : Int32).toNatClampNeg (-6 : Int32)) (82 : Int32).toNatClampNeg (1 : Int32)) (43 : Int32).toNatClampNeg (-6 : Int32)) (83 : Int32).toNatClampNeg (1 : Int32)) (44 : Int32).toNatClampNeg (-6 : Int32)) (84 : Int32).toNatClampNeg (1 : Int32)) (45 : Int32).toNatClampNeg (-6 : Int32)) (85 : Int32).toNatClampNeg (1 : Int32)) (46 : Int32).toNatClampNeg (-6 : Int32)) (86 : Int32).toNatClampNeg (1 : Int32)) (47 : Int32).toNatClampNeg (-6 : Int32)))), (q2, .inl (cI, 10, .inl (fun _ => 0))), (q3, .inl (cI, 5, .inl (fun _ => 0))), (q4, .inl (cI, 8, .inl (fun _ => 0))), (q5, .inl (cI, 5, .inl (fun _ => 0))), (q6, .inl (cI, 742, .inl (fun _ => 0))), (q7, .inl (cZ, 2, .inl (fun _ => 0)))]) G 1 0 rfl rfl (by unfold vp_in; decide) rfl dX7_init_77 ?_
  refine b_aload_n G dX7_init_78 1 rfl rfl ?_
  refine b_get G inX7 0 0 rfl rfl (by decide) lk_7 rfl rfl dX7_init_79 ?_
  refine b_iload_n G dX7_init_82 0 rfl rfl ?_
  refine b_iconst G (4 : Int32) dX7_init_83 kc_4 ?_
  refine b_cSR G [.int (7 : Int32), .int (4 : Int32)] [.ref q1] (c_X7_bentAt (k_l Γ) (k_D Γ) _ _ (fun r => r = (87 : Int32)) (by unfold wp_X7_bentAt; decide)) (va_cwS 2 G.2.2.2.2.1 gX7_init_X7_bentAt rfl rfl rfl hd_X7_bentAt ⟨by decide, by decide⟩) rfl rfl (Nat.le_of_ble_eq_true rfl) ⟨by decide, by decide⟩ dX7_init_84 (fun r hr => ?_)
  subst hr
  refine b_iconst G (1 : Int32) dX7_init_87 kc_1 ?_
  refine b_iast (ws' := [(h0, .inr (5, [.ref q1, .ref q2, .int (0 : Int32), .ref q3, .int (0 : Int32), .ref q4, .ref q5, .ref q6, .ref q7])), (q1, .inl (cI, 371, .inl (upd (upd (upd (upd (upd (upd (upd (upd (upd (upd (upd (upd (upd (upd (fun _ => 0) (41 : Int32).toNatClampNeg (-6 : Int32)) (81 : Int32).toNatClampNeg (1 : Int32)) (42 : Int32).toNatClampNeg (-6 : Int32)) (82 : Int32).toNatClampNeg (1 : Int32)) (43 : Int32).toNatClampNeg (-6 : Int32)) (83 : Int32).toNatClampNeg (1 : Int32)) (44 : Int32).toNatClampNeg (-6 : Int32)) (84 : Int32).toNatClampNeg (1 : Int32)) (45 : Int32).toNatClampNeg (-6 : Int32)) (85 : Int32).toNatClampNeg (1 : Int32)) (46 : Int32).toNatClampNeg (-6 : Int32)) (86 : Int32).toNatClampNeg (1 : Int32)) (47 : Int32).toNatClampNeg (-6 : Int32)) (87 : Int32).toNatClampNeg (1 : Int32)))), (q2, .inl (cI, 10, .inl (fun _ => 0))), (q3, .inl (cI, 5, .inl (fun _ => 0))), (q4, .inl (cI, 8, .inl (fun _ => 0))), (q5, .inl (cI, 5, .inl (fun _ => 0))), (q6, .inl (cI, 742, .inl (fun _ => 0))), (q7, .inl (cZ, 2, .inl (fun _ => 0)))]) G 1 0 rfl rfl (by unfold vp_in; decide) rfl dX7_init_88 ?_
  refine b_iinc (lv' := [(1, .int (8 : Int32)), (0, .ref h0)]) G 0 dX7_init_89 kc_1 rfl (by decide) rfl ?_
  refine b_goto G 61 dX7_init_92 (by decide) ?_
  refine b_iload_n G dX7_init_61 0 rfl rfl ?_
  refine b_bipush G (7 : Int32) dX7_init_62 kb_7 ?_
  refine b_icmp_gt_t G 95 dX7_init_64 (by decide) (by decide) ?_
  refine b_aload_n G dX7_init_95 1 rfl rfl ?_
  refine b_get G inX7 0 0 rfl rfl (by decide) lk_7 rfl rfl dX7_init_96 ?_
  refine b_bipush G (88 : Int32) dX7_init_99 kb_88 ?_
  refine b_bipush G (-6 : Int32) dX7_init_101 kb_m6 ?_
  refine b_iast (ws' := [(h0, .inr (5, [.ref q1, .ref q2, .int (0 : Int32), .ref q3, .int (0 : Int32), .ref q4, .ref q5, .ref q6, .ref q7])), (q1, .inl (cI, 371, .inl (upd (upd (upd (upd (upd (upd (upd (upd (upd (upd (upd (upd (upd (upd (upd (fun _ => 0) (41 : Int32).toNatClampNeg (-6 : Int32)) (81 : Int32).toNatClampNeg (1 : Int32)) (42 : Int32).toNatClampNeg (-6 : Int32)) (82 : Int32).toNatClampNeg (1 : Int32)) (43 : Int32).toNatClampNeg (-6 : Int32)) (83 : Int32).toNatClampNeg (1 : Int32)) (44 : Int32).toNatClampNeg (-6 : Int32)) (84 : Int32).toNatClampNeg (1 : Int32)) (45 : Int32).toNatClampNeg (-6 : Int32)) (85 : Int32).toNatClampNeg (1 : Int32)) (46 : Int32).toNatClampNeg (-6 : Int32)) (86 : Int32).toNatClampNeg (1 : Int32)) (47 : Int32).toNatClampNeg (-6 : Int32)) (87 : Int32).toNatClampNeg (1 : Int32)) (88 : Int32).toNatClampNeg (-6 : Int32)))), (q2, .inl (cI, 10, .inl (fun _ => 0))), (q3, .inl (cI, 5, .inl (fun _ => 0))), (q4, .inl (cI, 8, .inl (fun _ => 0))), (q5, .inl (cI, 5, .inl (fun _ => 0))), (q6, .inl (cI, 742, .inl (fun _ => 0))), (q7, .inl (cZ, 2, .inl (fun _ => 0)))]) G 1 0 rfl rfl (by unfold vp_in; decide) rfl dX7_init_103 ?_
  refine b_aload_n G dX7_init_104 1 rfl rfl ?_
  refine b_get G inX7 0 0 rfl rfl (by decide) lk_7 rfl rfl dX7_init_105 ?_
  refine b_bipush G (89 : Int32) dX7_init_108 kb_89 ?_
  refine b_bipush G (-6 : Int32) dX7_init_110 kb_m6 ?_
  refine b_iast (ws' := [(h0, .inr (5, [.ref q1, .ref q2, .int (0 : Int32), .ref q3, .int (0 : Int32), .ref q4, .ref q5, .ref q6, .ref q7])), (q1, .inl (cI, 371, .inl (upd (upd (upd (upd (upd (upd (upd (upd (upd (upd (upd (upd (upd (upd (upd (upd (fun _ => 0) (41 : Int32).toNatClampNeg (-6 : Int32)) (81 : Int32).toNatClampNeg (1 : Int32)) (42 : Int32).toNatClampNeg (-6 : Int32)) (82 : Int32).toNatClampNeg (1 : Int32)) (43 : Int32).toNatClampNeg (-6 : Int32)) (83 : Int32).toNatClampNeg (1 : Int32)) (44 : Int32).toNatClampNeg (-6 : Int32)) (84 : Int32).toNatClampNeg (1 : Int32)) (45 : Int32).toNatClampNeg (-6 : Int32)) (85 : Int32).toNatClampNeg (1 : Int32)) (46 : Int32).toNatClampNeg (-6 : Int32)) (86 : Int32).toNatClampNeg (1 : Int32)) (47 : Int32).toNatClampNeg (-6 : Int32)) (87 : Int32).toNatClampNeg (1 : Int32)) (88 : Int32).toNatClampNeg (-6 : Int32)) (89 : Int32).toNatClampNeg (-6 : Int32)))), (q2, .inl (cI, 10, .inl (fun _ => 0))), (q3, .inl (cI, 5, .inl (fun _ => 0))), (q4, .inl (cI, 8, .inl (fun _ => 0))), (q5, .inl (cI, 5, .inl (fun _ => 0))), (q6, .inl (cI, 742, .inl (fun _ => 0))), (q7, .inl (cZ, 2, .inl (fun _ => 0)))]) G 1 0 rfl rfl (by unfold vp_in; decide) rfl dX7_init_112 ?_
  exact b_vret G E (fun i => [h0, q1, q2, q3, q4, q5, q6, q7].getD i 0) [0, 1, 2, 3, 4, 5, 6, 7] (by decide) rfl rfl dX7_init_113
