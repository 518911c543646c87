abbrev rm_X5_fitting : Room := { frames := 2, cells := 0, slots := 0, locals := 43 }
def wp_X5_fitting (f : Nat → Int32) (p0 p1 p3 : Int32) (Q : Int32 → Prop) : Prop :=
  (k_lp2 (fun (B_13 : Int32 → Int32 → Prop) (x4_13 : Int32) (x5_13 : Int32) => ((x5_13 < 0 → wp_X5_sealOf p0 (fun (r_40 : Int32) => ((r_40 = x4_13 → Q (1 : Int32)) ∧ (¬ r_40 = x4_13 → Q (0 : Int32))))) ∧ (¬ x5_13 < 0 → wp_X5_raised x4_13 p1 (fun (r_21 : Int32) => (vp_in x5_13 5 ∧ wp_X5_joined r_21 (f x5_13.toNatClampNeg) (fun (r_28 : Int32) => B_13 r_28 (x5_13 + (-1 : Int32)))))))) (1 : Int32) ((if (5 : Int32) < p3 then (5 : Int32) else p3) - (1 : Int32)))
theorem hd_X5_fitting : yX5_fitting.cls ≠ "java/lang/invoke/MethodHandle" ∧ yX5_fitting.cls ≠ "java/lang/invoke/VarHandle" ∧ (parseMethodDescriptor yX5_fitting.desc).map (fun d => d.parameters.length) = some 4 := by decide +kernel
theorem hdv_X5_fitting : yX5_fitting.cls = RX5 ∧ yX5_fitting.cls ≠ "java/lang/invoke/MethodHandle" ∧ yX5_fitting.cls ≠ "java/lang/invoke/VarHandle" ∧ (parseMethodDescriptor yX5_fitting.desc).map (fun d => d.parameters.length) = some 4 := ⟨rfl, hd_X5_fitting⟩
set_option maxHeartbeats 4000000 in
set_option maxRecDepth 100000 in
theorem c_X5_fitting_8 (l : Launch) (D : va_G) (a : Nat → Nat) (cI cO : ClassId) (gI : Nat → Option Nat) (σ : k_M) (p0 p1 p3 : Int32) (Q : Int32 → Prop) (h : wp_X5_fitting (σ 8) p0 p1 p3 Q) : Met l yX5_fitting wsX5_fitting rm_X5_fitting (k_PR D [(cI, .int), (cO, .object "FreshShares$Circle")] (wC a cI cO gI) σ [.int p0, .int p1, .ref (a 8), .int p3]) (vp_Si (fun r => (r = 0 ∨ r = 1) ∧ Q r)) 0 0 (fun _ => False) := by
  refine k_metR (by decide) rfl (Nat.le_of_ble_eq_true rfl) ?_
  intro Γ G E
  unfold wp_X5_fitting at h
  show k_J Γ rm_X5_fitting 6 true (wC a cI cO gI) 0 [(0, .int p0), (1, .int p1), (2, .ref (a 8)), (3, .int p3)] [] σ
  refine r_iconst G (1 : Int32) dX5_fitting_0 kc_1 ?_
  refine r_istore (lv' := [(4, .int (1 : Int32)), (0, .int p0), (1, .int p1), (2, .ref (a 8)), (3, .int p3)]) G dX5_fitting_1 (by decide) rfl ?_
  refine r_iload_n G dX5_fitting_3 4 rfl rfl ?_
  refine r_aload_n G dX5_fitting_4 3 rfl rfl ?_
  refine r_alen G 8 0 (5 : Int32) wC_8 rfl ka_5 dX5_fitting_5 ?_
  refine r_min G (G.2.2.2.2.1 (.methodLink RX5 15 Lib.Math.min.name) (by decide +kernel)) (G.2.2.2.2.1 (.static Lib.Math.min.name) (by decide +kernel)) (G.2.2.2.2.1 (.initialized "java/lang/Math") (by decide +kernel)) (G.2.2.2.2.1 (.code Lib.Math.min.name Lib.Math.min.code 2 (some .int)) (by decide +kernel)) (Nat.le_of_ble_eq_true rfl) (Nat.le_of_ble_eq_true rfl) dX5_fitting_6 ?_
  refine r_iconst G (1 : Int32) dX5_fitting_9 kc_1 ?_
  refine r_isub G dX5_fitting_10 ?_
  refine r_istore (lv' := [(5, .int ((if (5 : Int32) < p3 then (5 : Int32) else p3) - (1 : Int32))), (4, .int (1 : Int32)), (0, .int p0), (1, .int p1), (2, .ref (a 8)), (3, .int p3)]) G dX5_fitting_11 (by decide) rfl ?_
  obtain ⟨I_13, n_13, h, hI_13⟩ := h
  have key_13 : ∀ (n : Nat) (x4_13 : Int32) (x5_13 : Int32), I_13 n x4_13 x5_13 → k_J Γ rm_X5_fitting 6 true (wC a cI cO gI) 13 [(0, .int p0), (1, .int p1), (2, .ref (a 8)), (4, .int x4_13), (5, .int x5_13)] [] σ := by
    intro n
    induction n using Nat.strongRecOn with
    | ind n ih_13 =>
      intro x4_13 x5_13 h
      replace h := hI_13 n x4_13 x5_13 h
      refine r_iload G dX5_fitting_13 4 rfl ?_
      refine r_if_lt G 39 dX5_fitting_15 (by decide) (fun hc => ?_) (fun hc => ?_)
      · replace h := h.1 hc
        refine r_iload_n G dX5_fitting_39 0 rfl rfl ?_
        refine r_cSR G [.int p0] [] (c_X5_sealOf (k_l Γ) (k_D Γ) _ _ h) (va_cwS 1 G.2.2.2.2.1 gX5_fitting_X5_sealOf rfl rfl rfl hd_X5_sealOf ⟨Nat.le_of_ble_eq_true rfl, Nat.le_of_ble_eq_true rfl⟩) [] rfl (fun _ _ => k_E0) rfl rfl (Nat.le_of_ble_eq_true rfl) dX5_fitting_40 (fun r_40 h => ?_)
        refine r_iload G dX5_fitting_43 3 rfl ?_
        refine r_icmp_ne G 52 dX5_fitting_45 (by decide) (fun hc => ?_) (fun hc => ?_)
        · replace h := h.2 hc
          refine r_iconst G (0 : Int32) dX5_fitting_52 kc_0 ?_
          exact r_zretR G E kz_0 dX5_fitting_53 ⟨kzo_0, h⟩
        · replace h := h.1 hc
          refine r_iconst G (1 : Int32) dX5_fitting_48 kc_1 ?_
          refine r_goto G 53 dX5_fitting_49 (by decide) ?_
          exact r_zretR G E kz_1 dX5_fitting_53 ⟨kzo_1, h⟩
      · replace h := h.2 hc
        refine r_iload G dX5_fitting_18 3 rfl ?_
        refine r_iload_n G dX5_fitting_20 1 rfl rfl ?_
        refine r_cSR G [.int x4_13, .int p1] [] (c_X5_raised (k_l Γ) (k_D Γ) _ _ _ h) (va_cwS 2 G.2.2.2.2.1 gX5_fitting_X5_raised rfl rfl rfl hd_X5_raised ⟨Nat.le_of_ble_eq_true rfl, Nat.le_of_ble_eq_true rfl⟩) [] rfl (fun _ _ => k_E0) rfl rfl (Nat.le_of_ble_eq_true rfl) dX5_fitting_21 (fun r_21 h => ?_)
        refine r_aload_n G dX5_fitting_24 2 rfl rfl ?_
        refine r_iload G dX5_fitting_25 4 rfl ?_
        refine r_iald G 8 0 wC_8 rfl h.1 dX5_fitting_27 ?_
        replace h := h.2
        refine r_cSR G [.int r_21, .int ((σ 8) x5_13.toNatClampNeg)] [] (c_X5_joined (k_l Γ) (k_D Γ) _ _ _ h) (va_cwS 2 G.2.2.2.2.1 gX5_fitting_X5_joined rfl rfl rfl hd_X5_joined ⟨Nat.le_of_ble_eq_true rfl, Nat.le_of_ble_eq_true rfl⟩) [] rfl (fun _ _ => k_E0) rfl rfl (Nat.le_of_ble_eq_true rfl) dX5_fitting_28 (fun r_28 h => ?_)
        refine r_istore (lv' := [(4, .int r_28), (0, .int p0), (1, .int p1), (2, .ref (a 8)), (5, .int x5_13)]) G dX5_fitting_31 (by decide) rfl ?_
        refine r_iinc (lv' := [(5, .int (x5_13 + (-1 : Int32))), (4, .int r_28), (0, .int p0), (1, .int p1), (2, .ref (a 8))]) G 4 dX5_fitting_33 kc_m1 rfl (by decide) rfl ?_
        refine r_goto G 13 dX5_fitting_36 (by decide) ?_
        obtain ⟨m_13, hm_13, h⟩ := h
        exact r_sub [2, 3, 4, 1, 0] rfl (ih_13 m_13 hm_13 _ _ h)
  exact r_sub [2, 3, 4, 1, 0] rfl (key_13 n_13 _ _ h)
set_option maxHeartbeats 4000000 in
set_option maxRecDepth 100000 in
theorem c_X5_fitting_16 (l : Launch) (D : va_G) (a : Nat → Nat) (cI cO : ClassId) (gI : Nat → Option Nat) (σ : k_M) (p0 p1 p3 : Int32) (Q : Int32 → Prop) (h : wp_X5_fitting (σ 16) p0 p1 p3 Q) : Met l yX5_fitting wsX5_fitting rm_X5_fitting (k_PR D [(cI, .int), (cO, .object "FreshShares$Circle")] (wC a cI cO gI) σ [.int p0, .int p1, .ref (a 16), .int p3]) (vp_Si (fun r => (r = 0 ∨ r = 1) ∧ Q r)) 0 0 (fun _ => False) := by
  refine k_metR (by decide) rfl (Nat.le_of_ble_eq_true rfl) ?_
  intro Γ G E
  unfold wp_X5_fitting at h
  show k_J Γ rm_X5_fitting 6 true (wC a cI cO gI) 0 [(0, .int p0), (1, .int p1), (2, .ref (a 16)), (3, .int p3)] [] σ
  refine r_iconst G (1 : Int32) dX5_fitting_0 kc_1 ?_
  refine r_istore (lv' := [(4, .int (1 : Int32)), (0, .int p0), (1, .int p1), (2, .ref (a 16)), (3, .int p3)]) G dX5_fitting_1 (by decide) rfl ?_
  refine r_iload_n G dX5_fitting_3 4 rfl rfl ?_
  refine r_aload_n G dX5_fitting_4 3 rfl rfl ?_
  refine r_alen G 16 0 (5 : Int32) wC_16 rfl ka_5 dX5_fitting_5 ?_
  refine r_min G (G.2.2.2.2.1 (.methodLink RX5 15 Lib.Math.min.name) (by decide +kernel)) (G.2.2.2.2.1 (.static Lib.Math.min.name) (by decide +kernel)) (G.2.2.2.2.1 (.initialized "java/lang/Math") (by decide +kernel)) (G.2.2.2.2.1 (.code Lib.Math.min.name Lib.Math.min.code 2 (some .int)) (by decide +kernel)) (Nat.le_of_ble_eq_true rfl) (Nat.le_of_ble_eq_true rfl) dX5_fitting_6 ?_
  refine r_iconst G (1 : Int32) dX5_fitting_9 kc_1 ?_
  refine r_isub G dX5_fitting_10 ?_
  refine r_istore (lv' := [(5, .int ((if (5 : Int32) < p3 then (5 : Int32) else p3) - (1 : Int32))), (4, .int (1 : Int32)), (0, .int p0), (1, .int p1), (2, .ref (a 16)), (3, .int p3)]) G dX5_fitting_11 (by decide) rfl ?_
  obtain ⟨I_13, n_13, h, hI_13⟩ := h
  have key_13 : ∀ (n : Nat) (x4_13 : Int32) (x5_13 : Int32), I_13 n x4_13 x5_13 → k_J Γ rm_X5_fitting 6 true (wC a cI cO gI) 13 [(0, .int p0), (1, .int p1), (2, .ref (a 16)), (4, .int x4_13), (5, .int x5_13)] [] σ := by
    intro n
    induction n using Nat.strongRecOn with
    | ind n ih_13 =>
      intro x4_13 x5_13 h
      replace h := hI_13 n x4_13 x5_13 h
      refine r_iload G dX5_fitting_13 4 rfl ?_
      refine r_if_lt G 39 dX5_fitting_15 (by decide) (fun hc => ?_) (fun hc => ?_)
      · replace h := h.1 hc
        refine r_iload_n G dX5_fitting_39 0 rfl rfl ?_
        refine r_cSR G [.int p0] [] (c_X5_sealOf (k_l Γ) (k_D Γ) _ _ h) (va_cwS 1 G.2.2.2.2.1 gX5_fitting_X5_sealOf rfl rfl rfl hd_X5_sealOf ⟨Nat.le_of_ble_eq_true rfl, Nat.le_of_ble_eq_true rfl⟩) [] rfl (fun _ _ => k_E0) rfl rfl (Nat.le_of_ble_eq_true rfl) dX5_fitting_40 (fun r_40 h => ?_)
        refine r_iload G dX5_fitting_43 3 rfl ?_
        refine r_icmp_ne G 52 dX5_fitting_45 (by decide) (fun hc => ?_) (fun hc => ?_)
        · replace h := h.2 hc
          refine r_iconst G (0 : Int32) dX5_fitting_52 kc_0 ?_
          exact r_zretR G E kz_0 dX5_fitting_53 ⟨kzo_0, h⟩
        · replace h := h.1 hc
          refine r_iconst G (1 : Int32) dX5_fitting_48 kc_1 ?_
          refine r_goto G 53 dX5_fitting_49 (by decide) ?_
          exact r_zretR G E kz_1 dX5_fitting_53 ⟨kzo_1, h⟩
      · replace h := h.2 hc
        refine r_iload G dX5_fitting_18 3 rfl ?_
        refine r_iload_n G dX5_fitting_20 1 rfl rfl ?_
        refine r_cSR G [.int x4_13, .int p1] [] (c_X5_raised (k_l Γ) (k_D Γ) _ _ _ h) (va_cwS 2 G.2.2.2.2.1 gX5_fitting_X5_raised rfl rfl rfl hd_X5_raised ⟨Nat.le_of_ble_eq_true rfl, Nat.le_of_ble_eq_true rfl⟩) [] rfl (fun _ _ => k_E0) rfl rfl (Nat.le_of_ble_eq_true rfl) dX5_fitting_21 (fun r_21 h => ?_)
        refine r_aload_n G dX5_fitting_24 2 rfl rfl ?_
        refine r_iload G dX5_fitting_25 4 rfl ?_
        refine r_iald G 16 0 wC_16 rfl h.1 dX5_fitting_27 ?_
        replace h := h.2
        refine r_cSR G [.int r_21, .int ((σ 16) x5_13.toNatClampNeg)] [] (c_X5_joined (k_l Γ) (k_D Γ) _ _ _ h) (va_cwS 2 G.2.2.2.2.1 gX5_fitting_X5_joined rfl rfl rfl hd_X5_joined ⟨Nat.le_of_ble_eq_true rfl, Nat.le_of_ble_eq_true rfl⟩) [] rfl (fun _ _ => k_E0) rfl rfl (Nat.le_of_ble_eq_true rfl) dX5_fitting_28 (fun r_28 h => ?_)
        refine r_istore (lv' := [(4, .int r_28), (0, .int p0), (1, .int p1), (2, .ref (a 16)), (5, .int x5_13)]) G dX5_fitting_31 (by decide) rfl ?_
        refine r_iinc (lv' := [(5, .int (x5_13 + (-1 : Int32))), (4, .int r_28), (0, .int p0), (1, .int p1), (2, .ref (a 16))]) G 4 dX5_fitting_33 kc_m1 rfl (by decide) rfl ?_
        refine r_goto G 13 dX5_fitting_36 (by decide) ?_
        obtain ⟨m_13, hm_13, h⟩ := h
        exact r_sub [2, 3, 4, 1, 0] rfl (ih_13 m_13 hm_13 _ _ h)
  exact r_sub [2, 3, 4, 1, 0] rfl (key_13 n_13 _ _ h)
abbrev rm_X2_offer : Room := { frames := 3, cells := 0, slots := 0, locals := 72 }
def wp_X2_offer (σ : k_M) (p1 p2 p3 : Int32) (Q : k_M → Prop) : Prop :=
  (k_lp2 (fun (B_8 : Int32 → k_M → Prop) (x5_8 : Int32) (σ_8 : k_M) => (∃ K_78 : Prop, ( K_78  → (k_lp3 (fun (B_87 : Int32 → Int32 → Int32 → Prop) (x5_87 : Int32) (x6_87 : Int32) (x7_87 : Int32) => (((7 : Int32) < x7_87 → (∃ K_219 : Prop, ( K_219  → wp_X4_only p1 (fun (r_239 : Int32) => Q (k_put (k_put σ_8 4 9 ((σ_8 4 9) ||| x6_87)) 3 5 (((k_put σ_8 4 9 ((σ_8 4 9) ||| x6_87)) 3 5) ||| r_239)))) ∧ ((x5_87 = 0 → K_219) ∧ (¬ x5_87 = 0 → wp_X0_bend σ_8 p1 (4 : Int32) (fun (r_194 : Int32) => ((r_194 = 0 → wp_X4_only p1 (fun (r_209 : Int32) => Q (k_put σ_8 4 10 ((σ_8 4 10) ||| r_209)))) ∧ (¬ r_194 = 0 → K_219))))))) ∧ (¬ (7 : Int32) < x7_87 → wp_X4_has (σ_8 4 6) x7_87 (fun (r_103 : Int32) => ((r_103 = 0 → B_87 x5_87 x6_87 (x7_87 + (1 : Int32))) ∧ (¬ r_103 = 0 → wp_X2_sent σ_8 p1 x7_87 p3 (fun (r_114 : Int32) => wp_X5_fitting (σ_8 16) r_114 x7_87 p3 (fun (r_124 : Int32) => (∃ K_148 : Prop, ( K_148  → wp_X4_only x7_87 (fun (r_152 : Int32) => ((r_124 = 0 → B_87 (x5_87 ||| r_152) (x6_87 ||| (0 : Int32)) (x7_87 + (1 : Int32))) ∧ (¬ r_124 = 0 → wp_X4_only x7_87 (fun (r_167 : Int32) => B_87 (x5_87 ||| r_152) (x6_87 ||| r_167) (x7_87 + (1 : Int32))))))) ∧ ((r_124 = 0 → K_148) ∧ (¬ r_124 = 0 → wp_X0_bend σ_8 x7_87 (3 : Int32) (fun (r_141 : Int32) => ((r_141 = p1 → K_148) ∧ (¬ r_141 = p1 → B_87 x5_87 x6_87 (x7_87 + (1 : Int32)))))))))))))))) (0 : Int32) (0 : Int32) (1 : Int32))) ∧ ((p3 ≤ x5_8 → K_78) ∧ (¬ p3 ≤ x5_8 → (((5 : Int32) ≤ x5_8 → K_78) ∧ (¬ (5 : Int32) ≤ x5_8 → (∃ K_51 : Int32 → Prop, (∀ (y0_51 : Int32), K_51 y0_51 → (vp_in ((p1 * (5 : Int32)) + x5_8) 40 ∧ (vp_in ((p1 * (5 : Int32)) + x5_8) 40 ∧ wp_X5_sealOf (((k_put σ_8 15 ((p1 * (5 : Int32)) + x5_8).toNatClampNeg y0_51) 15) ((p1 * (5 : Int32)) + x5_8).toNatClampNeg) (fun (r_68 : Int32) => (vp_in x5_8 5 ∧ B_8 (x5_8 + (1 : Int32)) (k_put (k_put σ_8 15 ((p1 * (5 : Int32)) + x5_8).toNatClampNeg y0_51) 16 x5_8.toNatClampNeg r_68)))))) ∧ ((x5_8 = 0 → K_51 p2) ∧ (¬ x5_8 = 0 → (vp_in ((p1 * (5 : Int32)) + x5_8) 40 ∧ K_51 ((σ_8 5) ((p1 * (5 : Int32)) + x5_8).toNatClampNeg))))))))))) (0 : Int32) σ)
theorem hd_X2_offer : yX2_offer.cls ≠ "java/lang/invoke/MethodHandle" ∧ yX2_offer.cls ≠ "java/lang/invoke/VarHandle" ∧ (parseMethodDescriptor yX2_offer.desc).map (fun d => d.parameters.length) = some 3 := by decide +kernel
theorem hdv_X2_offer : yX2_offer.cls = RX2 ∧ yX2_offer.cls ≠ "java/lang/invoke/MethodHandle" ∧ yX2_offer.cls ≠ "java/lang/invoke/VarHandle" ∧ (parseMethodDescriptor yX2_offer.desc).map (fun d => d.parameters.length) = some 3 := ⟨rfl, hd_X2_offer⟩
set_option maxHeartbeats 4000000 in
set_option maxRecDepth 100000 in
theorem c_X2_offer (l : Launch) (D : va_G) (a : Nat → Nat) (cI cO : ClassId) (gI : Nat → Option Nat) (σ : k_M) (p1 p2 p3 : Int32) (Q : k_M → Prop) (h : wp_X2_offer σ p1 p2 p3 Q) : Met l yX2_offer wsX2_offer rm_X2_offer (k_PW D [(cI, .int), (cO, .object "FreshShares$Circle")] (wC a cI cO gI) σ [.ref (a 3), .int p1, .int p2, .int p3]) (k_Qv D (wC a cI cO gI) Q) 0 0 (k_wA (wC a cI cO gI)) := by
  refine k_metW (Qc := fun D => k_Qv D (wC a cI cO gI) Q) (by decide) rfl (Nat.le_of_ble_eq_true rfl) ?_
  intro Γ G hD E
  unfold wp_X2_offer at h
  have inX0 : ∀ w ∈ wsX00, w ∈ wsX2_offer := by decide +kernel
  have inX2 : ∀ w ∈ wsX20, w ∈ wsX2_offer := by decide +kernel
  have lk_12 := G.2.2.2.2.1 (.fieldLink RX2 12 "FreshShares$Orders" "circle" "LFreshShares$Circle;") (by decide +kernel)
  have lk_22 := G.2.2.2.2.1 (.fieldLink RX2 22 "FreshShares$Orders" "polynomials" "[I") (by decide +kernel)
  have lk_25 := G.2.2.2.2.1 (.fieldLink RX2 25 "FreshShares$Orders" "sealsSent" "[I") (by decide +kernel)
  have lk_31 := G.2.2.2.2.1 (.fieldLink RX2 31 "FreshShares$Orders" "taken" "I") (by decide +kernel)
  show k_J Γ rm_X2_offer 9 false (wC a cI cO gI) 0 [(0, .ref (a 3)), (1, .int p1), (2, .int p2), (3, .int p3)] [] σ
  refine r_iload_n G dX2_offer_0 1 rfl rfl ?_
  refine r_iconst G (5 : Int32) dX2_offer_1 kc_5 ?_
  refine r_imul G dX2_offer_2 ?_
  refine r_istore (lv' := [(4, .int (p1 * (5 : Int32))), (0, .ref (a 3)), (1, .int p1), (2, .int p2), (3, .int p3)]) G dX2_offer_3 (by decide) rfl ?_
  refine r_iconst G (0 : Int32) dX2_offer_5 kc_0 ?_
  refine r_istore (lv' := [(5, .int (0 : Int32)), (4, .int (p1 * (5 : Int32))), (0, .ref (a 3)), (1, .int p1), (2, .int p2), (3, .int p3)]) G dX2_offer_6 (by decide) rfl ?_
  obtain ⟨I_8, n_8, h, hI_8⟩ := h
  have key_8 : ∀ (n : Nat) (x5_8 : Int32) (σ_8 : k_M), I_8 n x5_8 σ_8 → k_J Γ rm_X2_offer 9 false (wC a cI cO gI) 8 [(0, .ref (a 3)), (1, .int p1), (2, .int p2), (3, .int p3), (4, .int (p1 * (5 : Int32))), (5, .int x5_8)] [] σ_8 := by
    intro n
    induction n using Nat.strongRecOn with
    | ind n ih_8 =>
      intro x5_8 σ_8 h
      replace h := hI_8 n x5_8 σ_8 h
      refine r_iload G dX2_offer_8 5 rfl ?_
      refine r_iload_n G dX2_offer_10 3 rfl rfl ?_
      obtain ⟨K_78, hK_78, h⟩ := h
      have kj_78 :  K_78  → k_J Γ rm_X2_offer 9 false (wC a cI cO gI) 78 [(0, .ref (a 3)), (1, .int p1), (3, .int p3)] [] σ_8 := by
        intro  h
        replace h := hK_78  h
        refine r_iconst G (0 : Int32) dX2_offer_78 kc_0 ?_
        refine r_istore (lv' := [(5, .int (0 : Int32)), (0, .ref (a 3)), (1, .int p1), (3, .int p3)]) G dX2_offer_79 (by decide) rfl ?_
        refine r_iconst G (0 : Int32) dX2_offer_81 kc_0 ?_
        refine r_istore (lv' := [(6, .int (0 : Int32)), (5, .int (0 : Int32)), (0, .ref (a 3)), (1, .int p1), (3, .int p3)]) G dX2_offer_82 (by decide) rfl ?_
        refine r_iconst G (1 : Int32) dX2_offer_84 kc_1 ?_
        refine r_istore (lv' := [(7, .int (1 : Int32)), (6, .int (0 : Int32)), (5, .int (0 : Int32)), (0, .ref (a 3)), (1, .int p1), (3, .int p3)]) G dX2_offer_85 (by decide) rfl ?_
        obtain ⟨I_87, n_87, h, hI_87⟩ := h
        have key_87 : ∀ (n : Nat) (x5_87 : Int32) (x6_87 : Int32) (x7_87 : Int32), I_87 n x5_87 x6_87 x7_87 → k_J Γ rm_X2_offer 9 false (wC a cI cO gI) 87 [(0, .ref (a 3)), (1, .int p1), (3, .int p3), (5, .int x5_87), (6, .int x6_87), (7, .int x7_87)] [] σ_8 := by
          intro n
          induction n using Nat.strongRecOn with
          | ind n ih_87 =>
            intro x5_87 x6_87 x7_87 h
            replace h := hI_87 n x5_87 x6_87 x7_87 h
            refine r_iload G dX2_offer_87 5 rfl ?_
            refine r_bipush G (7 : Int32) dX2_offer_89 kb_7 ?_
            refine r_icmp_gt G 183 dX2_offer_91 (by decide) (fun hc => ?_) (fun hc => ?_)
            · replace h := h.1 hc
              refine r_iload G dX2_offer_183 3 rfl ?_
              obtain ⟨K_219, hK_219, h⟩ := h
              have kj_219 :  K_219  → k_J Γ rm_X2_offer 9 false (wC a cI cO gI) 219 [(0, .ref (a 3)), (1, .int p1), (6, .int x6_87)] [] σ_8 := by
                intro  h
                replace h := hK_219  h
                refine r_aload_n G dX2_offer_219 0 rfl rfl ?_
                refine r_get G inX2 3 0 wC_3 rfl (by decide) lk_12 rfl rfl dX2_offer_220 ?_
                refine r_dup G rfl dX2_offer_223 ?_
                refine r_getN G inX0 4 9 wC_4 rfl (by decide) (G.2.2.2.2.2.2.at 23 rfl rfl) rfl rfl dX2_offer_224 ?_
                refine r_iload G dX2_offer_227 2 rfl ?_
                refine r_ior G dX2_offer_229 ?_
                refine r_putN G hD tyX0 tyX0_ok nmX0 inX0 4 9 wC_4 rfl (by decide) (G.2.2.2.2.2.2.at 23 rfl rfl) rfl rfl (ty := .int) (by decide +kernel) rfl rfl (Nat.le_of_ble_eq_true rfl) _ wC_4_9 dX2_offer_230 ?_
                refine r_aload_n G dX2_offer_233 0 rfl rfl ?_
                refine r_dup G rfl dX2_offer_234 ?_
                refine r_get G inX2 3 5 wC_3 rfl (by decide) lk_31 rfl rfl dX2_offer_235 ?_
                refine r_iload_n G dX2_offer_238 1 rfl rfl ?_
                refine r_cSR G [.int p1] [.int ((k_put σ_8 4 9 ((σ_8 4 9) ||| x6_87)) 3 5), .ref (a 3)] (c_X4_only (k_l Γ) (k_D Γ) _ _ h) (va_cwS 1 G.2.2.2.2.1 gX2_offer_X4_only rfl rfl rfl hd_X4_only ⟨Nat.le_of_ble_eq_true rfl, Nat.le_of_ble_eq_true rfl⟩) [] rfl (fun _ _ => k_E0) rfl rfl (Nat.le_of_ble_eq_true rfl) dX2_offer_239 (fun r_239 h => ?_)
                refine r_ior G dX2_offer_242 ?_
                refine r_put G hD tyX2 tyX2_ok nmX2 inX2 3 5 wC_3 rfl (by decide) lk_31 rfl rfl (ty := .int) (by decide +kernel) rfl rfl (Nat.le_of_ble_eq_true rfl) _ wC_3_5 dX2_offer_243 ?_
                exact r_vretW G E dX2_offer_246 h
              refine r_if_eq G 219 dX2_offer_185 (by decide) (fun hc => ?_) (fun hc => ?_)
              · replace h := h.1 hc
                exact r_sub [0, 1, 4] rfl (kj_219  h)
              · replace h := h.2 hc
                refine r_aload_n G dX2_offer_188 0 rfl rfl ?_
                refine r_get G inX2 3 0 wC_3 rfl (by decide) lk_12 rfl rfl dX2_offer_189 ?_
                refine r_iload_n G dX2_offer_192 1 rfl rfl ?_
                refine r_iconst G (4 : Int32) dX2_offer_193 kc_4 ?_
                refine r_cVR G (ci := 0) (cq := (RX0, TX0, 12)) [.int p1, .int (4 : Int32)] [] (c_X0_bend (k_l Γ) (k_D Γ) a cI cO gI _ _ _ _ h) 4 rfl wC_4 (cwV 2 G.2.2.2.2.1 gX2_offer_X0_bend rfl rfl rfl hdv_X0_bend ⟨Nat.le_of_ble_eq_true rfl, Nat.le_of_ble_eq_true rfl⟩) [0, 1] rfl (fun _ hP => hP) rfl rfl (Nat.le_of_ble_eq_true rfl) dX2_offer_194 (fun r_194 h => ?_)
                refine r_if_ne G 219 dX2_offer_197 (by decide) (fun hc => ?_) (fun hc => ?_)
                · replace h := h.2 hc
                  exact r_sub [0, 1, 4] rfl (kj_219  h)
                · replace h := h.1 hc
                  refine r_aload_n G dX2_offer_200 0 rfl rfl ?_
                  refine r_get G inX2 3 0 wC_3 rfl (by decide) lk_12 rfl rfl dX2_offer_201 ?_
                  refine r_dup G rfl dX2_offer_204 ?_
                  refine r_getN G inX0 4 10 wC_4 rfl (by decide) (G.2.2.2.2.2.2.at 25 rfl rfl) rfl rfl dX2_offer_205 ?_
                  refine r_iload_n G dX2_offer_208 1 rfl rfl ?_
                  refine r_cSR G [.int p1] [.int (σ_8 4 10), .ref (a 4)] (c_X4_only (k_l Γ) (k_D Γ) _ _ h) (va_cwS 1 G.2.2.2.2.1 gX2_offer_X4_only rfl rfl rfl hd_X4_only ⟨Nat.le_of_ble_eq_true rfl, Nat.le_of_ble_eq_true rfl⟩) [] rfl (fun _ _ => k_E0) rfl rfl (Nat.le_of_ble_eq_true rfl) dX2_offer_209 (fun r_209 h => ?_)
                  refine r_ior G dX2_offer_212 ?_
                  refine r_putN G hD tyX0 tyX0_ok nmX0 inX0 4 10 wC_4 rfl (by decide) (G.2.2.2.2.2.2.at 25 rfl rfl) rfl rfl (ty := .int) (by decide +kernel) rfl rfl (Nat.le_of_ble_eq_true rfl) _ wC_4_10 dX2_offer_213 ?_
                  refine r_goto G 246 dX2_offer_216 (by decide) ?_
                  exact r_vretW G E dX2_offer_246 h
            · replace h := h.2 hc
              refine r_aload_n G dX2_offer_94 0 rfl rfl ?_
              refine r_get G inX2 3 0 wC_3 rfl (by decide) lk_12 rfl rfl dX2_offer_95 ?_
              refine r_getN G inX0 4 6 wC_4 rfl (by decide) (G.2.2.2.2.2.2.at 17 rfl rfl) rfl rfl dX2_offer_98 ?_
              refine r_iload G dX2_offer_101 5 rfl ?_
              refine r_cSR G [.int (σ_8 4 6), .int x7_87] [] (c_X4_has (k_l Γ) (k_D Γ) _ _ _ h) (va_cwS 2 G.2.2.2.2.1 gX2_offer_X4_has rfl rfl rfl hd_X4_has ⟨Nat.le_of_ble_eq_true rfl, Nat.le_of_ble_eq_true rfl⟩) [] rfl (fun _ _ => k_E0) rfl rfl (Nat.le_of_ble_eq_true rfl) dX2_offer_103 (fun r_103 h => ?_)
              have hz_103 := h.1
              replace h := h.2
              refine r_if_eq G 177 dX2_offer_106 (by decide) (fun hc => ?_) (fun hc => ?_)
              · replace h := h.1 hc
                refine r_iinc (lv' := [(7, .int (x7_87 + (1 : Int32))), (0, .ref (a 3)), (1, .int p1), (3, .int p3), (5, .int x5_87), (6, .int x6_87)]) G 5 dX2_offer_177 kc_1 rfl (by decide) rfl ?_
                refine r_goto G 87 dX2_offer_180 (by decide) ?_
                obtain ⟨m_87, hm_87, h⟩ := h
                exact r_sub [1, 2, 3, 4, 5, 0] rfl (ih_87 m_87 hm_87 _ _ _ h)
              · replace h := h.2 hc
                refine r_aload_n G dX2_offer_109 0 rfl rfl ?_
                refine r_iload_n G dX2_offer_110 1 rfl rfl ?_
                refine r_iload G dX2_offer_111 5 rfl ?_
                refine r_iload_n G dX2_offer_113 2 rfl rfl ?_
                refine r_cVR G (ci := 2) (cq := (RX2, TX2, 6)) [.int p1, .int x7_87, .int p3] [] (c_X2_sent (k_l Γ) (k_D Γ) a cI cO gI _ _ _ _ _ h) 3 rfl wC_3 (cwV 3 G.2.2.2.2.1 gX2_offer_X2_sent rfl rfl rfl hdv_X2_sent ⟨Nat.le_of_ble_eq_true rfl, Nat.le_of_ble_eq_true rfl⟩) [0, 1] rfl (fun _ hP => hP) rfl rfl (Nat.le_of_ble_eq_true rfl) dX2_offer_114 (fun r_114 h => ?_)
                refine r_iload G dX2_offer_117 5 rfl ?_
                refine r_aload_n G dX2_offer_119 0 rfl rfl ?_
                refine r_get G inX2 3 3 wC_3 rfl (by decide) lk_25 rfl rfl dX2_offer_120 ?_
                refine r_iload_n G dX2_offer_123 2 rfl rfl ?_
                refine r_cSR G [.int r_114, .int x7_87, .ref (a 16), .int p3] [] (c_X5_fitting_16 (k_l Γ) (k_D Γ) a cI cO gI _ _ _ _ _ h) (va_cwS 4 G.2.2.2.2.1 gX2_offer_X5_fitting rfl rfl rfl hd_X5_fitting ⟨Nat.le_of_ble_eq_true rfl, Nat.le_of_ble_eq_true rfl⟩) [0, 1] rfl (fun _ hP => hP) rfl rfl (Nat.le_of_ble_eq_true rfl) dX2_offer_124 (fun r_124 h => ?_)
                have hz_124 := h.1
                replace h := h.2
                refine r_istore (lv' := [(8, .int r_124), (0, .ref (a 3)), (1, .int p1), (3, .int p3), (5, .int x5_87), (6, .int x6_87), (7, .int x7_87)]) G dX2_offer_127 (by decide) rfl ?_
                refine r_iload G dX2_offer_129 0 rfl ?_
                obtain ⟨K_148, hK_148, h⟩ := h
                have kj_148 :  K_148  → k_J Γ rm_X2_offer 9 false (wC a cI cO gI) 148 [(0, .ref (a 3)), (1, .int p1), (3, .int p3), (5, .int x5_87), (6, .int x6_87), (7, .int x7_87), (8, .int r_124)] [] σ_8 := by
                  intro  h
                  replace h := hK_148  h
                  refine r_iload G dX2_offer_148 3 rfl ?_
                  refine r_iload G dX2_offer_150 5 rfl ?_
                  refine r_cSR G [.int x7_87] [.int x5_87] (c_X4_only (k_l Γ) (k_D Γ) _ _ h) (va_cwS 1 G.2.2.2.2.1 gX2_offer_X4_only rfl rfl rfl hd_X4_only ⟨Nat.le_of_ble_eq_true rfl, Nat.le_of_ble_eq_true rfl⟩) [] rfl (fun _ _ => k_E0) rfl rfl (Nat.le_of_ble_eq_true rfl) dX2_offer_152 (fun r_152 h => ?_)
                  refine r_ior G dX2_offer_155 ?_
                  refine r_istore (lv' := [(5, .int (x5_87 ||| r_152)), (0, .ref (a 3)), (1, .int p1), (3, .int p3), (6, .int x6_87), (7, .int x7_87), (8, .int r_124)]) G dX2_offer_156 (by decide) rfl ?_
                  refine r_iload G dX2_offer_158 4 rfl ?_
                  refine r_iload G dX2_offer_160 6 rfl ?_
                  refine r_if_eq G 173 dX2_offer_162 (by decide) (fun hc => ?_) (fun hc => ?_)
                  · replace h := h.1 hc
                    refine r_iconst G (0 : Int32) dX2_offer_173 kc_0 ?_
                    refine r_ior G dX2_offer_174 ?_
                    refine r_istore (lv' := [(6, .int (x6_87 ||| (0 : Int32))), (5, .int (x5_87 ||| r_152)), (0, .ref (a 3)), (1, .int p1), (3, .int p3), (7, .int x7_87), (8, .int r_124)]) G dX2_offer_175 (by decide) rfl ?_
                    refine r_iinc (lv' := [(7, .int (x7_87 + (1 : Int32))), (6, .int (x6_87 ||| (0 : Int32))), (5, .int (x5_87 ||| r_152)), (0, .ref (a 3)), (1, .int p1), (3, .int p3), (8, .int r_124)]) G 5 dX2_offer_177 kc_1 rfl (by decide) rfl ?_
                    refine r_goto G 87 dX2_offer_180 (by decide) ?_
                    obtain ⟨m_87, hm_87, h⟩ := h
                    exact r_sub [3, 4, 5, 2, 1, 0] rfl (ih_87 m_87 hm_87 _ _ _ h)
                  · replace h := h.2 hc
                    refine r_iload G dX2_offer_165 5 rfl ?_
                    refine r_cSR G [.int x7_87] [.int x6_87] (c_X4_only (k_l Γ) (k_D Γ) _ _ h) (va_cwS 1 G.2.2.2.2.1 gX2_offer_X4_only rfl rfl rfl hd_X4_only ⟨Nat.le_of_ble_eq_true rfl, Nat.le_of_ble_eq_true rfl⟩) [] rfl (fun _ _ => k_E0) rfl rfl (Nat.le_of_ble_eq_true rfl) dX2_offer_167 (fun r_167 h => ?_)
                    refine r_goto G 174 dX2_offer_170 (by decide) ?_
                    refine r_ior G dX2_offer_174 ?_
                    refine r_istore (lv' := [(6, .int (x6_87 ||| r_167)), (5, .int (x5_87 ||| r_152)), (0, .ref (a 3)), (1, .int p1), (3, .int p3), (7, .int x7_87), (8, .int r_124)]) G dX2_offer_175 (by decide) rfl ?_
                    refine r_iinc (lv' := [(7, .int (x7_87 + (1 : Int32))), (6, .int (x6_87 ||| r_167)), (5, .int (x5_87 ||| r_152)), (0, .ref (a 3)), (1, .int p1), (3, .int p3), (8, .int r_124)]) G 5 dX2_offer_177 kc_1 rfl (by decide) rfl ?_
                    refine r_goto G 87 dX2_offer_180 (by decide) ?_
                    obtain ⟨m_87, hm_87, h⟩ := h
                    exact r_sub [3, 4, 5, 2, 1, 0] rfl (ih_87 m_87 hm_87 _ _ _ h)
                refine r_if_eq G 148 dX2_offer_131 (by decide) (fun hc => ?_) (fun hc => ?_)
                · replace h := h.1 hc
                  exact r_sub [1, 2, 3, 4, 5, 6, 0] rfl (kj_148  h)
                · replace h := h.2 hc
                  refine r_aload_n G dX2_offer_134 1 rfl rfl ?_
                  refine r_get G inX2 3 0 wC_3 rfl (by decide) lk_12 rfl rfl dX2_offer_135 ?_
                  refine r_iload G dX2_offer_138 6 rfl ?_
                  refine r_iconst G (3 : Int32) dX2_offer_140 kc_3 ?_
                  refine r_cVR G (ci := 0) (cq := (RX0, TX0, 12)) [.int x7_87, .int (3 : Int32)] [] (c_X0_bend (k_l Γ) (k_D Γ) a cI cO gI _ _ _ _ h) 4 rfl wC_4 (cwV 2 G.2.2.2.2.1 gX2_offer_X0_bend rfl rfl rfl hdv_X0_bend ⟨Nat.le_of_ble_eq_true rfl, Nat.le_of_ble_eq_true rfl⟩) [0, 1] rfl (fun _ hP => hP) rfl rfl (Nat.le_of_ble_eq_true rfl) dX2_offer_141 (fun r_141 h => ?_)
                  refine r_iload_n G dX2_offer_144 2 rfl rfl ?_
                  refine r_icmp_ne G 177 dX2_offer_145 (by decide) (fun hc => ?_) (fun hc => ?_)
                  · replace h := h.2 hc
                    refine r_iinc (lv' := [(7, .int (x7_87 + (1 : Int32))), (8, .int r_124), (0, .ref (a 3)), (1, .int p1), (3, .int p3), (5, .int x5_87), (6, .int x6_87)]) G 6 dX2_offer_177 kc_1 rfl (by decide) rfl ?_
                    refine r_goto G 87 dX2_offer_180 (by decide) ?_
                    obtain ⟨m_87, hm_87, h⟩ := h
                    exact r_sub [2, 3, 4, 5, 6, 0] rfl (ih_87 m_87 hm_87 _ _ _ h)
                  · replace h := h.1 hc
                    exact r_sub [1, 2, 3, 4, 5, 6, 0] rfl (kj_148  h)
        exact r_sub [3, 4, 5, 2, 1, 0] rfl (key_87 n_87 _ _ _ h)
      refine r_icmp_ge G 78 dX2_offer_11 (by decide) (fun hc => ?_) (fun hc => ?_)
      · replace h := h.1 hc
        exact r_sub [0, 1, 3] rfl (kj_78  h)
      · replace h := h.2 hc
        refine r_iload G dX2_offer_14 5 rfl ?_
        refine r_iconst G (5 : Int32) dX2_offer_16 kc_5 ?_
        refine r_icmp_ge G 78 dX2_offer_17 (by decide) (fun hc => ?_) (fun hc => ?_)
        · replace h := h.1 hc
          exact r_sub [0, 1, 3] rfl (kj_78  h)
        · replace h := h.2 hc
          refine r_aload_n G dX2_offer_20 0 rfl rfl ?_
          refine r_get G inX2 3 2 wC_3 rfl (by decide) lk_22 rfl rfl dX2_offer_21 ?_
          refine r_iload G dX2_offer_24 4 rfl ?_
          refine r_iload G dX2_offer_26 5 rfl ?_
          refine r_iadd G dX2_offer_28 ?_
          refine r_iload G dX2_offer_29 5 rfl ?_
          obtain ⟨K_51, hK_51, h⟩ := h
          have kj_51 : ∀ (y0_51 : Int32), K_51 y0_51 → k_J Γ rm_X2_offer 9 false (wC a cI cO gI) 51 [(0, .ref (a 3)), (1, .int p1), (2, .int p2), (3, .int p3), (4, .int (p1 * (5 : Int32))), (5, .int x5_8)] [.int y0_51, .int ((p1 * (5 : Int32)) + x5_8), .ref (a 15)] σ_8 := by
            intro y0_51 h
            replace h := hK_51 y0_51 h
            refine r_iast G hD 15 0 wC_15 rfl h.1 _ wC_15_s dX2_offer_51 ?_
            replace h := h.2
            refine r_aload_n G dX2_offer_52 0 rfl rfl ?_
            refine r_get G inX2 3 3 wC_3 rfl (by decide) lk_25 rfl rfl dX2_offer_53 ?_
            refine r_iload G dX2_offer_56 5 rfl ?_
            refine r_aload_n G dX2_offer_58 0 rfl rfl ?_
            refine r_get G inX2 3 2 wC_3 rfl (by decide) lk_22 rfl rfl dX2_offer_59 ?_
            refine r_iload G dX2_offer_62 4 rfl ?_
            refine r_iload G dX2_offer_64 5 rfl ?_
            refine r_iadd G dX2_offer_66 ?_
            refine r_iald G 15 0 wC_15 rfl h.1 dX2_offer_67 ?_
            replace h := h.2
            refine r_cSR G [.int (((k_put σ_8 15 ((p1 * (5 : Int32)) + x5_8).toNatClampNeg y0_51) 15) ((p1 * (5 : Int32)) + x5_8).toNatClampNeg)] [.int x5_8, .ref (a 16)] (c_X5_sealOf (k_l Γ) (k_D Γ) _ _ h) (va_cwS 1 G.2.2.2.2.1 gX2_offer_X5_sealOf rfl rfl rfl hd_X5_sealOf ⟨Nat.le_of_ble_eq_true rfl, Nat.le_of_ble_eq_true rfl⟩) [] rfl (fun _ _ => k_E0) rfl rfl (Nat.le_of_ble_eq_true rfl) dX2_offer_68 (fun r_68 h => ?_)
            refine r_iast G hD 16 0 wC_16 rfl h.1 _ wC_16_s dX2_offer_71 ?_
            replace h := h.2
            refine r_iinc (lv' := [(5, .int (x5_8 + (1 : Int32))), (0, .ref (a 3)), (1, .int p1), (2, .int p2), (3, .int p3), (4, .int (p1 * (5 : Int32)))]) G 5 dX2_offer_72 kc_1 rfl (by decide) rfl ?_
            refine r_goto G 8 dX2_offer_75 (by decide) ?_
            obtain ⟨m_8, hm_8, h⟩ := h
            exact r_sub [1, 2, 3, 4, 5, 0] rfl (ih_8 m_8 hm_8 _ _ h)
          refine r_if_ne G 38 dX2_offer_31 (by decide) (fun hc => ?_) (fun hc => ?_)
          · replace h := h.2 hc
            refine r_aload_n G dX2_offer_38 0 rfl rfl ?_
            refine r_get G inX2 3 0 wC_3 rfl (by decide) lk_12 rfl rfl dX2_offer_39 ?_
            refine r_getN G inX0 4 0 wC_4 rfl (by decide) (G.2.2.2.2.2.2.at 9 rfl rfl) rfl rfl dX2_offer_42 ?_
            refine r_iload G dX2_offer_45 4 rfl ?_
            refine r_iload G dX2_offer_47 5 rfl ?_
            refine r_iadd G dX2_offer_49 ?_
            refine r_iald G 5 0 wC_5 rfl h.1 dX2_offer_50 ?_
            replace h := h.2
            exact r_sub [0, 1, 2, 3, 4, 5] rfl (kj_51 _ h)
          · replace h := h.1 hc
            refine r_iload_n G dX2_offer_34 2 rfl rfl ?_
            refine r_goto G 51 dX2_offer_35 (by decide) ?_
            exact r_sub [0, 1, 2, 3, 4, 5] rfl (kj_51 _ h)
  exact r_sub [2, 3, 4, 5, 1, 0] rfl (key_8 n_8 _ _ h)
abbrev rm_X2_pour : Room := { frames := 2, cells := 0, slots := 0, locals := 48 }
def wp_X2_pour (σ : k_M) (p1 p2 : Int32) (Q : k_M → Prop) : Prop :=
  (k_lp2 (fun (B_2 : Int32 → k_M → Prop) (x3_2 : Int32) (σ_2 : k_M) => (((7 : Int32) < x3_2 → (k_lp2 (fun (B_74 : Int32 → k_M → Prop) (x3_74 : Int32) (σ_74 : k_M) => ((p2 ≤ x3_74 → Q σ_74) ∧ (¬ p2 ≤ x3_74 → (((5 : Int32) ≤ x3_74 → Q σ_74) ∧ (¬ (5 : Int32) ≤ x3_74 → (vp_in ((p1 * (5 : Int32)) + x3_74) 40 ∧ wp_X5_sealOf ((σ_74 15) ((p1 * (5 : Int32)) + x3_74).toNatClampNeg) (fun (r_94 : Int32) => (vp_in p1 8 ∧ wp_X5_raised r_94 ((σ_74 17) p1.toNatClampNeg) (fun (r_103 : Int32) => (vp_in x3_74 5 ∧ wp_X5_joined ((σ_74 8) x3_74.toNatClampNeg) r_103 (fun (r_127 : Int32) => (vp_in x3_74 5 ∧ B_74 (x3_74 + (1 : Int32)) (k_put σ_74 8 x3_74.toNatClampNeg r_127))))))))))))) (0 : Int32) σ_2)) ∧ (¬ (7 : Int32) < x3_2 → wp_X4_has (σ_2 4 6) x3_2 (fun (r_16 : Int32) => ((r_16 = 0 → B_2 (x3_2 + (1 : Int32)) σ_2) ∧ (¬ r_16 = 0 → (vp_in p1 8 ∧ wp_X2_polynomialAt (σ_2 15) p1 p2 x3_2 (fun (r_35 : Int32) => wp_X5_times ((σ_2 17) p1.toNatClampNeg) r_35 (fun (r_38 : Int32) => (vp_in x3_2 8 ∧ wp_X5_plus ((σ_2 7) x3_2.toNatClampNeg) r_38 (fun (r_62 : Int32) => (vp_in x3_2 8 ∧ B_2 (x3_2 + (1 : Int32)) (k_put σ_2 7 x3_2.toNatClampNeg r_62))))))))))))) (1 : Int32) σ)
theorem hd_X2_pour : yX2_pour.cls ≠ "java/lang/invoke/MethodHandle" ∧ yX2_pour.cls ≠ "java/lang/invoke/VarHandle" ∧ (parseMethodDescriptor yX2_pour.desc).map (fun d => d.parameters.length) = some 2 := by decide +kernel
theorem hdv_X2_pour : yX2_pour.cls = RX2 ∧ yX2_pour.cls ≠ "java/lang/invoke/MethodHandle" ∧ yX2_pour.cls ≠ "java/lang/invoke/VarHandle" ∧ (parseMethodDescriptor yX2_pour.desc).map (fun d => d.parameters.length) = some 2 := ⟨rfl, hd_X2_pour⟩
set_option maxHeartbeats 4000000 in
set_option maxRecDepth 100000 in
theorem c_X2_pour (l : Launch) (D : va_G) (a : Nat → Nat) (cI cO : ClassId) (gI : Nat → Option Nat) (σ : k_M) (p1 p2 : Int32) (Q : k_M → Prop) (h : wp_X2_pour σ p1 p2 Q) : Met l yX2_pour wsX2_pour rm_X2_pour (k_PW D [(cI, .int), (cO, .object "FreshShares$Circle")] (wC a cI cO gI) σ [.ref (a 3), .int p1, .int p2]) (k_Qv D (wC a cI cO gI) Q) 0 0 (k_wA (wC a cI cO gI)) := by
  refine k_metW (Qc := fun D => k_Qv D (wC a cI cO gI) Q) (by decide) rfl (Nat.le_of_ble_eq_true rfl) ?_
  intro Γ G hD E
  unfold wp_X2_pour at h
  have inX0 : ∀ w ∈ wsX00, w ∈ wsX2_pour := by decide +kernel
  have inX2 : ∀ w ∈ wsX20, w ∈ wsX2_pour := by decide +kernel
  have lk_12 := G.2.2.2.2.1 (.fieldLink RX2 12 "FreshShares$Orders" "circle" "LFreshShares$Circle;") (by decide +kernel)
  have lk_22 := G.2.2.2.2.1 (.fieldLink RX2 22 "FreshShares$Orders" "polynomials" "[I") (by decide +kernel)
  have lk_28 := G.2.2.2.2.1 (.fieldLink RX2 28 "FreshShares$Orders" "factors" "[I") (by decide +kernel)
  show k_J Γ rm_X2_pour 5 false (wC a cI cO gI) 0 [(0, .ref (a 3)), (1, .int p1), (2, .int p2)] [] σ
  refine r_iconst G (1 : Int32) dX2_pour_0 kc_1 ?_
  refine r_istore_n (lv' := [(3, .int (1 : Int32)), (0, .ref (a 3)), (1, .int p1), (2, .int p2)]) G dX2_pour_1 rfl (by decide) rfl ?_
  obtain ⟨I_2, n_2, h, hI_2⟩ := h
  have key_2 : ∀ (n : Nat) (x3_2 : Int32) (σ_2 : k_M), I_2 n x3_2 σ_2 → k_J Γ rm_X2_pour 5 false (wC a cI cO gI) 2 [(0, .ref (a 3)), (1, .int p1), (2, .int p2), (3, .int x3_2)] [] σ_2 := by
    intro n
    induction n using Nat.strongRecOn with
    | ind n ih_2 =>
      intro x3_2 σ_2 h
      replace h := hI_2 n x3_2 σ_2 h
      refine r_iload_n G dX2_pour_2 3 rfl rfl ?_
      refine r_bipush G (7 : Int32) dX2_pour_3 kb_7 ?_
      refine r_icmp_gt G 72 dX2_pour_5 (by decide) (fun hc => ?_) (fun hc => ?_)
      · replace h := h.1 hc
        refine r_iconst G (0 : Int32) dX2_pour_72 kc_0 ?_
        refine r_istore_n (lv' := [(3, .int (0 : Int32)), (0, .ref (a 3)), (1, .int p1), (2, .int p2)]) G dX2_pour_73 rfl (by decide) rfl ?_
        obtain ⟨I_74, n_74, h, hI_74⟩ := h
        have key_74 : ∀ (n : Nat) (x3_74 : Int32) (σ_74 : k_M), I_74 n x3_74 σ_74 → k_J Γ rm_X2_pour 5 false (wC a cI cO gI) 74 [(0, .ref (a 3)), (1, .int p1), (2, .int p2), (3, .int x3_74)] [] σ_74 := by
          intro n
          induction n using Nat.strongRecOn with
          | ind n ih_74 =>
            intro x3_74 σ_74 h
            replace h := hI_74 n x3_74 σ_74 h
            refine r_iload_n G dX2_pour_74 3 rfl rfl ?_
            refine r_iload_n G dX2_pour_75 2 rfl rfl ?_
            refine r_icmp_ge G 137 dX2_pour_76 (by decide) (fun hc => ?_) (fun hc => ?_)
            · replace h := h.1 hc
              exact r_vretW G E dX2_pour_137 h
            · replace h := h.2 hc
              refine r_iload_n G dX2_pour_79 3 rfl rfl ?_
              refine r_iconst G (5 : Int32) dX2_pour_80 kc_5 ?_
              refine r_icmp_ge G 137 dX2_pour_81 (by decide) (fun hc => ?_) (fun hc => ?_)
              · replace h := h.1 hc
                exact r_vretW G E dX2_pour_137 h
              · replace h := h.2 hc
                refine r_aload_n G dX2_pour_84 0 rfl rfl ?_
                refine r_get G inX2 3 2 wC_3 rfl (by decide) lk_22 rfl rfl dX2_pour_85 ?_
                refine r_iload_n G dX2_pour_88 1 rfl rfl ?_
                refine r_iconst G (5 : Int32) dX2_pour_89 kc_5 ?_
                refine r_imul G dX2_pour_90 ?_
                refine r_iload_n G dX2_pour_91 3 rfl rfl ?_
                refine r_iadd G dX2_pour_92 ?_
                refine r_iald G 15 0 wC_15 rfl h.1 dX2_pour_93 ?_
                replace h := h.2
                refine r_cSR G [.int ((σ_74 15) ((p1 * (5 : Int32)) + x3_74).toNatClampNeg)] [] (c_X5_sealOf (k_l Γ) (k_D Γ) _ _ h) (va_cwS 1 G.2.2.2.2.1 gX2_pour_X5_sealOf rfl rfl rfl hd_X5_sealOf ⟨Nat.le_of_ble_eq_true rfl, Nat.le_of_ble_eq_true rfl⟩) [] rfl (fun _ _ => k_E0) rfl rfl (Nat.le_of_ble_eq_true rfl) dX2_pour_94 (fun r_94 h => ?_)
                refine r_aload_n G dX2_pour_97 0 rfl rfl ?_
                refine r_get G inX2 3 4 wC_3 rfl (by decide) lk_28 rfl rfl dX2_pour_98 ?_
                refine r_iload_n G dX2_pour_101 1 rfl rfl ?_
                refine r_iald G 17 0 wC_17 rfl h.1 dX2_pour_102 ?_
                replace h := h.2
                refine r_cSR G [.int r_94, .int ((σ_74 17) p1.toNatClampNeg)] [] (c_X5_raised (k_l Γ) (k_D Γ) _ _ _ h) (va_cwS 2 G.2.2.2.2.1 gX2_pour_X5_raised rfl rfl rfl hd_X5_raised ⟨Nat.le_of_ble_eq_true rfl, Nat.le_of_ble_eq_true rfl⟩) [] rfl (fun _ _ => k_E0) rfl rfl (Nat.le_of_ble_eq_true rfl) dX2_pour_103 (fun r_103 h => ?_)
                refine r_istore (lv' := [(4, .int r_103), (0, .ref (a 3)), (1, .int p1), (2, .int p2), (3, .int x3_74)]) G dX2_pour_106 (by decide) rfl ?_
                refine r_aload_n G dX2_pour_108 1 rfl rfl ?_
                refine r_get G inX2 3 0 wC_3 rfl (by decide) lk_12 rfl rfl dX2_pour_109 ?_
                refine r_getN G inX0 4 3 wC_4 rfl (by decide) (G.2.2.2.2.2.2.at 13 rfl rfl) rfl rfl dX2_pour_112 ?_
                refine r_iload_n G dX2_pour_115 4 rfl rfl ?_
                refine r_aload_n G dX2_pour_116 1 rfl rfl ?_
                refine r_get G inX2 3 0 wC_3 rfl (by decide) lk_12 rfl rfl dX2_pour_117 ?_
                refine r_getN G inX0 4 3 wC_4 rfl (by decide) (G.2.2.2.2.2.2.at 13 rfl rfl) rfl rfl dX2_pour_120 ?_
                refine r_iload_n G dX2_pour_123 4 rfl rfl ?_
                refine r_iald G 8 0 wC_8 rfl h.1 dX2_pour_124 ?_
                replace h := h.2
                refine r_iload G dX2_pour_125 0 rfl ?_
                refine r_cSR G [.int ((σ_74 8) x3_74.toNatClampNeg), .int r_103] [.int x3_74, .ref (a 8)] (c_X5_joined (k_l Γ) (k_D Γ) _ _ _ h) (va_cwS 2 G.2.2.2.2.1 gX2_pour_X5_joined rfl rfl rfl hd_X5_joined ⟨Nat.le_of_ble_eq_true rfl, Nat.le_of_ble_eq_true rfl⟩) [] rfl (fun _ _ => k_E0) rfl rfl (Nat.le_of_ble_eq_true rfl) dX2_pour_127 (fun r_127 h => ?_)
                refine r_iast G hD 8 0 wC_8 rfl h.1 _ wC_8_s dX2_pour_130 ?_
                replace h := h.2
                refine r_iinc (lv' := [(3, .int (x3_74 + (1 : Int32))), (4, .int r_103), (0, .ref (a 3)), (1, .int p1), (2, .int p2)]) G 4 dX2_pour_131 kc_1 rfl (by decide) rfl ?_
                refine r_goto G 74 dX2_pour_134 (by decide) ?_
                obtain ⟨m_74, hm_74, h⟩ := h
                exact r_sub [2, 3, 4, 0] rfl (ih_74 m_74 hm_74 _ _ h)
        exact r_sub [1, 2, 3, 0] rfl (key_74 n_74 _ _ h)
      · replace h := h.2 hc
        refine r_aload_n G dX2_pour_8 0 rfl rfl ?_
        refine r_get G inX2 3 0 wC_3 rfl (by decide) lk_12 rfl rfl dX2_pour_9 ?_
        refine r_getN G inX0 4 6 wC_4 rfl (by decide) (G.2.2.2.2.2.2.at 17 rfl rfl) rfl rfl dX2_pour_12 ?_
        refine r_iload_n G dX2_pour_15 3 rfl rfl ?_
        refine r_cSR G [.int (σ_2 4 6), .int x3_2] [] (c_X4_has (k_l Γ) (k_D Γ) _ _ _ h) (va_cwS 2 G.2.2.2.2.1 gX2_pour_X4_has rfl rfl rfl hd_X4_has ⟨Nat.le_of_ble_eq_true rfl, Nat.le_of_ble_eq_true rfl⟩) [] rfl (fun _ _ => k_E0) rfl rfl (Nat.le_of_ble_eq_true rfl) dX2_pour_16 (fun r_16 h => ?_)
        have hz_16 := h.1
        replace h := h.2
        refine r_if_eq G 66 dX2_pour_19 (by decide) (fun hc => ?_) (fun hc => ?_)
        · replace h := h.1 hc
          refine r_iinc (lv' := [(3, .int (x3_2 + (1 : Int32))), (0, .ref (a 3)), (1, .int p1), (2, .int p2)]) G 3 dX2_pour_66 kc_1 rfl (by decide) rfl ?_
          refine r_goto G 2 dX2_pour_69 (by decide) ?_
          obtain ⟨m_2, hm_2, h⟩ := h
          exact r_sub [1, 2, 3, 0] rfl (ih_2 m_2 hm_2 _ _ h)
        · replace h := h.2 hc
          refine r_aload_n G dX2_pour_22 0 rfl rfl ?_
          refine r_get G inX2 3 4 wC_3 rfl (by decide) lk_28 rfl rfl dX2_pour_23 ?_
          refine r_iload_n G dX2_pour_26 1 rfl rfl ?_
          refine r_iald G 17 0 wC_17 rfl h.1 dX2_pour_27 ?_
          replace h := h.2
          refine r_aload_n G dX2_pour_28 0 rfl rfl ?_
          refine r_get G inX2 3 2 wC_3 rfl (by decide) lk_22 rfl rfl dX2_pour_29 ?_
          refine r_iload_n G dX2_pour_32 1 rfl rfl ?_
          refine r_iload_n G dX2_pour_33 2 rfl rfl ?_
          refine r_iload_n G dX2_pour_34 3 rfl rfl ?_
          refine r_cSR G [.ref (a 15), .int p1, .int p2, .int x3_2] [.int ((σ_2 17) p1.toNatClampNeg)] (c_X2_polynomialAt_15 (k_l Γ) (k_D Γ) a cI cO gI _ _ _ _ _ h) (va_cwS 4 G.2.2.2.2.1 gX2_pour_X2_polynomialAt rfl rfl rfl hd_X2_polynomialAt ⟨Nat.le_of_ble_eq_true rfl, Nat.le_of_ble_eq_true rfl⟩) [0, 1] rfl (fun _ hP => hP) rfl rfl (Nat.le_of_ble_eq_true rfl) dX2_pour_35 (fun r_35 h => ?_)
          refine r_cSR G [.int ((σ_2 17) p1.toNatClampNeg), .int r_35] [] (c_X5_times (k_l Γ) (k_D Γ) _ _ _ h) (va_cwS 2 G.2.2.2.2.1 gX2_pour_X5_times rfl rfl rfl hd_X5_times ⟨Nat.le_of_ble_eq_true rfl, Nat.le_of_ble_eq_true rfl⟩) [] rfl (fun _ _ => k_E0) rfl rfl (Nat.le_of_ble_eq_true rfl) dX2_pour_38 (fun r_38 h => ?_)
          refine r_istore (lv' := [(4, .int r_38), (0, .ref (a 3)), (1, .int p1), (2, .int p2), (3, .int x3_2)]) G dX2_pour_41 (by decide) rfl ?_
          refine r_aload_n G dX2_pour_43 1 rfl rfl ?_
          refine r_get G inX2 3 0 wC_3 rfl (by decide) lk_12 rfl rfl dX2_pour_44 ?_
          refine r_getN G inX0 4 2 wC_4 rfl (by decide) (G.2.2.2.2.2.2.at 11 rfl rfl) rfl rfl dX2_pour_47 ?_
          refine r_iload_n G dX2_pour_50 4 rfl rfl ?_
          refine r_aload_n G dX2_pour_51 1 rfl rfl ?_
          refine r_get G inX2 3 0 wC_3 rfl (by decide) lk_12 rfl rfl dX2_pour_52 ?_
          refine r_getN G inX0 4 2 wC_4 rfl (by decide) (G.2.2.2.2.2.2.at 11 rfl rfl) rfl rfl dX2_pour_55 ?_
          refine r_iload_n G dX2_pour_58 4 rfl rfl ?_
          refine r_iald G 7 0 wC_7 rfl h.1 dX2_pour_59 ?_
          replace h := h.2
          refine r_iload G dX2_pour_60 0 rfl ?_
          refine r_cSR G [.int ((σ_2 7) x3_2.toNatClampNeg), .int r_38] [.int x3_2, .ref (a 7)] (c_X5_plus (k_l Γ) (k_D Γ) _ _ _ h) (va_cwS 2 G.2.2.2.2.1 gX2_pour_X5_plus rfl rfl rfl hd_X5_plus ⟨Nat.le_of_ble_eq_true rfl, Nat.le_of_ble_eq_true rfl⟩) [] rfl (fun _ _ => k_E0) rfl rfl (Nat.le_of_ble_eq_true rfl) dX2_pour_62 (fun r_62 h => ?_)
          refine r_iast G hD 7 0 wC_7 rfl h.1 _ wC_7_s dX2_pour_65 ?_
          replace h := h.2
          refine r_iinc (lv' := [(3, .int (x3_2 + (1 : Int32))), (4, .int r_38), (0, .ref (a 3)), (1, .int p1), (2, .int p2)]) G 4 dX2_pour_66 kc_1 rfl (by decide) rfl ?_
          refine r_goto G 2 dX2_pour_69 (by decide) ?_
          obtain ⟨m_2, hm_2, h⟩ := h
          exact r_sub [2, 3, 4, 0] rfl (ih_2 m_2 hm_2 _ _ h)
  exact r_sub [1, 2, 3, 0] rfl (key_2 n_2 _ _ h)
abbrev rm_X2_pourTaken : Room := { frames := 3, cells := 0, slots := 0, locals := 72 }
def wp_X2_pourTaken (σ : k_M) (p1 : Int32) (Q : k_M → Prop) : Prop :=
  (k_lp2 (fun (B_2 : Int32 → k_M → Prop) (x2_2 : Int32) (σ_2 : k_M) => (((7 : Int32) < x2_2 → Q σ_2) ∧ (¬ (7 : Int32) < x2_2 → wp_X4_has (σ_2 3 5) x2_2 (fun (r_13 : Int32) => ((r_13 = 0 → B_2 (x2_2 + (1 : Int32)) σ_2) ∧ (¬ r_13 = 0 → wp_X2_pour σ_2 x2_2 p1 (fun (σ_22 : k_M) => B_2 (x2_2 + (1 : Int32)) σ_22))))))) (1 : Int32) σ)
theorem hd_X2_pourTaken : yX2_pourTaken.cls ≠ "java/lang/invoke/MethodHandle" ∧ yX2_pourTaken.cls ≠ "java/lang/invoke/VarHandle" ∧ (parseMethodDescriptor yX2_pourTaken.desc).map (fun d => d.parameters.length) = some 1 := by decide +kernel
theorem hdv_X2_pourTaken : yX2_pourTaken.cls = RX2 ∧ yX2_pourTaken.cls ≠ "java/lang/invoke/MethodHandle" ∧ yX2_pourTaken.cls ≠ "java/lang/invoke/VarHandle" ∧ (parseMethodDescriptor yX2_pourTaken.desc).map (fun d => d.parameters.length) = some 1 := ⟨rfl, hd_X2_pourTaken⟩
set_option maxHeartbeats 4000000 in
set_option maxRecDepth 100000 in
theorem c_X2_pourTaken (l : Launch) (D : va_G) (a : Nat → Nat) (cI cO : ClassId) (gI : Nat → Option Nat) (σ : k_M) (p1 : Int32) (Q : k_M → Prop) (h : wp_X2_pourTaken σ p1 Q) : Met l yX2_pourTaken wsX2_pourTaken rm_X2_pourTaken (k_PW D [(cI, .int), (cO, .object "FreshShares$Circle")] (wC a cI cO gI) σ [.ref (a 3), .int p1]) (k_Qv D (wC a cI cO gI) Q) 0 0 (k_wA (wC a cI cO gI)) := by
  refine k_metW (Qc := fun D => k_Qv D (wC a cI cO gI) Q) (by decide) rfl (Nat.le_of_ble_eq_true rfl) ?_
  intro Γ G hD E
  unfold wp_X2_pourTaken at h
  have inX2 : ∀ w ∈ wsX20, w ∈ wsX2_pourTaken := by decide +kernel
  have lk_31 := G.2.2.2.2.1 (.fieldLink RX2 31 "FreshShares$Orders" "taken" "I") (by decide +kernel)
  show k_J Γ rm_X2_pourTaken 3 false (wC a cI cO gI) 0 [(0, .ref (a 3)), (1, .int p1)] [] σ
  refine r_iconst G (1 : Int32) dX2_pourTaken_0 kc_1 ?_
  refine r_istore_n (lv' := [(2, .int (1 : Int32)), (0, .ref (a 3)), (1, .int p1)]) G dX2_pourTaken_1 rfl (by decide) rfl ?_
  obtain ⟨I_2, n_2, h, hI_2⟩ := h
  have key_2 : ∀ (n : Nat) (x2_2 : Int32) (σ_2 : k_M), I_2 n x2_2 σ_2 → k_J Γ rm_X2_pourTaken 3 false (wC a cI cO gI) 2 [(0, .ref (a 3)), (1, .int p1), (2, .int x2_2)] [] σ_2 := by
    intro n
    induction n using Nat.strongRecOn with
    | ind n ih_2 =>
      intro x2_2 σ_2 h
      replace h := hI_2 n x2_2 σ_2 h
      refine r_iload_n G dX2_pourTaken_2 2 rfl rfl ?_
      refine r_bipush G (7 : Int32) dX2_pourTaken_3 kb_7 ?_
      refine r_icmp_gt G 31 dX2_pourTaken_5 (by decide) (fun hc => ?_) (fun hc => ?_)
      · replace h := h.1 hc
        exact r_vretW G E dX2_pourTaken_31 h
      · replace h := h.2 hc
        refine r_aload_n G dX2_pourTaken_8 0 rfl rfl ?_
        refine r_get G inX2 3 5 wC_3 rfl (by decide) lk_31 rfl rfl dX2_pourTaken_9 ?_
        refine r_iload_n G dX2_pourTaken_12 2 rfl rfl ?_
        refine r_cSR G [.int (σ_2 3 5), .int x2_2] [] (c_X4_has (k_l Γ) (k_D Γ) _ _ _ h) (va_cwS 2 G.2.2.2.2.1 gX2_pourTaken_X4_has rfl rfl rfl hd_X4_has ⟨Nat.le_of_ble_eq_true rfl, Nat.le_of_ble_eq_true rfl⟩) [] rfl (fun _ _ => k_E0) rfl rfl (Nat.le_of_ble_eq_true rfl) dX2_pourTaken_13 (fun r_13 h => ?_)
        have hz_13 := h.1
        replace h := h.2
        refine r_if_eq G 25 dX2_pourTaken_16 (by decide) (fun hc => ?_) (fun hc => ?_)
        · replace h := h.1 hc
          refine r_iinc (lv' := [(2, .int (x2_2 + (1 : Int32))), (0, .ref (a 3)), (1, .int p1)]) G 2 dX2_pourTaken_25 kc_1 rfl (by decide) rfl ?_
          refine r_goto G 2 dX2_pourTaken_28 (by decide) ?_
          obtain ⟨m_2, hm_2, h⟩ := h
          exact r_sub [1, 2, 0] rfl (ih_2 m_2 hm_2 _ _ h)
        · replace h := h.2 hc
          refine r_aload_n G dX2_pourTaken_19 0 rfl rfl ?_
          refine r_iload_n G dX2_pourTaken_20 2 rfl rfl ?_
          refine r_iload_n G dX2_pourTaken_21 1 rfl rfl ?_
          refine r_cVWv G hD (ci := 2) (cq := (RX2, TX2, 6)) [.int x2_2, .int p1] [] (c_X2_pour (k_l Γ) (k_D Γ) a cI cO gI _ _ _ _ h) 3 rfl wC_3 (cwV 2 G.2.2.2.2.1 gX2_pourTaken_X2_pour rfl rfl rfl hdv_X2_pour ⟨Nat.le_of_ble_eq_true rfl, Nat.le_of_ble_eq_true rfl⟩) [0, 1] rfl rfl rfl (Nat.le_of_ble_eq_true rfl) dX2_pourTaken_22 (fun σ_22 h => ?_)
          refine r_iinc (lv' := [(2, .int (x2_2 + (1 : Int32))), (0, .ref (a 3)), (1, .int p1)]) G 2 dX2_pourTaken_25 kc_1 rfl (by decide) rfl ?_
          refine r_goto G 2 dX2_pourTaken_28 (by decide) ?_
          obtain ⟨m_2, hm_2, h⟩ := h
          exact r_sub [1, 2, 0] rfl (ih_2 m_2 hm_2 _ _ h)
  exact r_sub [1, 2, 0] rfl (key_2 n_2 _ _ h)
abbrev rm_X2_fresh : Room := { frames := 4, cells := 0, slots := 0, locals := 100 }
def wp_X2_fresh (σ : k_M) (Q : Int32 → k_M → Prop) : Prop :=
  (k_lp2 (fun (B_15 : Int32 → k_M → Prop) (x2_15 : Int32) (σ_15 : k_M) => (((7 : Int32) < x2_15 → wp_X2_pourTaken σ_15 (σ 4 7) (fun (σ_57 : k_M) => wp_X2_closeEpoch σ_57 (σ 4 7) (fun (r_62 : Int32) (σ_62 : k_M) => Q r_62 σ_62))) ∧ (¬ (7 : Int32) < x2_15 → wp_X4_has (σ_15 4 6) x2_15 (fun (r_29 : Int32) => ((r_29 = 0 → B_15 (x2_15 + (1 : Int32)) σ_15) ∧ (¬ r_29 = 0 → wp_X2_offer σ_15 x2_15 (0 : Int32) (σ 4 7) (fun (σ_39 : k_M) => (vp_in x2_15 8 ∧ B_15 (x2_15 + (1 : Int32)) (k_put σ_39 17 x2_15.toNatClampNeg (1 : Int32)))))))))) (1 : Int32) (k_put σ 3 5 (0 : Int32)))
theorem hd_X2_fresh : yX2_fresh.cls ≠ "java/lang/invoke/MethodHandle" ∧ yX2_fresh.cls ≠ "java/lang/invoke/VarHandle" ∧ (parseMethodDescriptor yX2_fresh.desc).map (fun d => d.parameters.length) = some 0 := by decide +kernel
theorem hdv_X2_fresh : yX2_fresh.cls = RX2 ∧ yX2_fresh.cls ≠ "java/lang/invoke/MethodHandle" ∧ yX2_fresh.cls ≠ "java/lang/invoke/VarHandle" ∧ (parseMethodDescriptor yX2_fresh.desc).map (fun d => d.parameters.length) = some 0 := ⟨rfl, hd_X2_fresh⟩
set_option maxHeartbeats 4000000 in
set_option maxRecDepth 100000 in
theorem c_X2_fresh (l : Launch) (D : va_G) (a : Nat → Nat) (cI cO : ClassId) (gI : Nat → Option Nat) (σ : k_M) (Q : Int32 → k_M → Prop) (h : wp_X2_fresh σ  Q) : Met l yX2_fresh wsX2_fresh rm_X2_fresh (k_PW D [(cI, .int), (cO, .object "FreshShares$Circle")] (wC a cI cO gI) σ [.ref (a 3)]) (k_Qi D (wC a cI cO gI) Q) 0 0 (k_wA (wC a cI cO gI)) := by
  refine k_metW (Qc := fun D => k_Qi D (wC a cI cO gI) Q) (by decide) rfl (Nat.le_of_ble_eq_true rfl) ?_
  intro Γ G hD E
  unfold wp_X2_fresh at h
  have inX0 : ∀ w ∈ wsX00, w ∈ wsX2_fresh := by decide +kernel
  have inX2 : ∀ w ∈ wsX20, w ∈ wsX2_fresh := by decide +kernel
  have lk_12 := G.2.2.2.2.1 (.fieldLink RX2 12 "FreshShares$Orders" "circle" "LFreshShares$Circle;") (by decide +kernel)
  have lk_28 := G.2.2.2.2.1 (.fieldLink RX2 28 "FreshShares$Orders" "factors" "[I") (by decide +kernel)
  have lk_31 := G.2.2.2.2.1 (.fieldLink RX2 31 "FreshShares$Orders" "taken" "I") (by decide +kernel)
  show k_J Γ rm_X2_fresh 3 false (wC a cI cO gI) 0 [(0, .ref (a 3))] [] σ
  refine r_aload_n G dX2_fresh_0 0 rfl rfl ?_
  refine r_get G inX2 3 0 wC_3 rfl (by decide) lk_12 rfl rfl dX2_fresh_1 ?_
  refine r_getN G inX0 4 7 wC_4 rfl (by decide) (G.2.2.2.2.2.2.at 19 rfl rfl) rfl rfl dX2_fresh_4 ?_
  refine r_istore_n (lv' := [(1, .int (σ 4 7)), (0, .ref (a 3))]) G dX2_fresh_7 rfl (by decide) rfl ?_
  refine r_aload_n G dX2_fresh_8 1 rfl rfl ?_
  refine r_iconst G (0 : Int32) dX2_fresh_9 kc_0 ?_
  refine r_put G hD tyX2 tyX2_ok nmX2 inX2 3 5 wC_3 rfl (by decide) lk_31 rfl rfl (ty := .int) (by decide +kernel) rfl rfl (Nat.le_of_ble_eq_true rfl) _ wC_3_5 dX2_fresh_10 ?_
  refine r_iconst G (1 : Int32) dX2_fresh_13 kc_1 ?_
  refine r_istore_n (lv' := [(2, .int (1 : Int32)), (1, .int (σ 4 7)), (0, .ref (a 3))]) G dX2_fresh_14 rfl (by decide) rfl ?_
  obtain ⟨I_15, n_15, h, hI_15⟩ := h
  have key_15 : ∀ (n : Nat) (x2_15 : Int32) (σ_15 : k_M), I_15 n x2_15 σ_15 → k_J Γ rm_X2_fresh 3 false (wC a cI cO gI) 15 [(0, .ref (a 3)), (1, .int (σ 4 7)), (2, .int x2_15)] [] σ_15 := by
    intro n
    induction n using Nat.strongRecOn with
    | ind n ih_15 =>
      intro x2_15 σ_15 h
      replace h := hI_15 n x2_15 σ_15 h
      refine r_iload_n G dX2_fresh_15 2 rfl rfl ?_
      refine r_bipush G (7 : Int32) dX2_fresh_16 kb_7 ?_
      refine r_icmp_gt G 55 dX2_fresh_18 (by decide) (fun hc => ?_) (fun hc => ?_)
      · replace h := h.1 hc
        refine r_aload_n G dX2_fresh_55 0 rfl rfl ?_
        refine r_iload_n G dX2_fresh_56 1 rfl rfl ?_
        refine r_cVWv G hD (ci := 2) (cq := (RX2, TX2, 6)) [.int (σ 4 7)] [] (c_X2_pourTaken (k_l Γ) (k_D Γ) a cI cO gI _ _ _ h) 3 rfl wC_3 (cwV 1 G.2.2.2.2.1 gX2_fresh_X2_pourTaken rfl rfl rfl hdv_X2_pourTaken ⟨Nat.le_of_ble_eq_true rfl, Nat.le_of_ble_eq_true rfl⟩) [0, 1] rfl rfl rfl (Nat.le_of_ble_eq_true rfl) dX2_fresh_57 (fun σ_57 h => ?_)
        refine r_aload_n G dX2_fresh_60 0 rfl rfl ?_
        refine r_iload_n G dX2_fresh_61 1 rfl rfl ?_
        refine r_cVWi G hD (ci := 2) (cq := (RX2, TX2, 6)) [.int (σ 4 7)] [] (c_X2_closeEpoch (k_l Γ) (k_D Γ) a cI cO gI _ _ _ h) 3 rfl wC_3 (cwV 1 G.2.2.2.2.1 gX2_fresh_X2_closeEpoch rfl rfl rfl hdv_X2_closeEpoch ⟨Nat.le_of_ble_eq_true rfl, Nat.le_of_ble_eq_true rfl⟩) [0, 1] rfl rfl rfl (Nat.le_of_ble_eq_true rfl) dX2_fresh_62 (fun r_62 σ_62 h => ?_)
        exact r_iretW G E dX2_fresh_65 h
      · replace h := h.2 hc
        refine r_aload_n G dX2_fresh_21 0 rfl rfl ?_
        refine r_get G inX2 3 0 wC_3 rfl (by decide) lk_12 rfl rfl dX2_fresh_22 ?_
        refine r_getN G inX0 4 6 wC_4 rfl (by decide) (G.2.2.2.2.2.2.at 17 rfl rfl) rfl rfl dX2_fresh_25 ?_
        refine r_iload_n G dX2_fresh_28 2 rfl rfl ?_
        refine r_cSR G [.int (σ_15 4 6), .int x2_15] [] (c_X4_has (k_l Γ) (k_D Γ) _ _ _ h) (va_cwS 2 G.2.2.2.2.1 gX2_fresh_X4_has rfl rfl rfl hd_X4_has ⟨Nat.le_of_ble_eq_true rfl, Nat.le_of_ble_eq_true rfl⟩) [] rfl (fun _ _ => k_E0) rfl rfl (Nat.le_of_ble_eq_true rfl) dX2_fresh_29 (fun r_29 h => ?_)
        have hz_29 := h.1
        replace h := h.2
        refine r_if_eq G 49 dX2_fresh_32 (by decide) (fun hc => ?_) (fun hc => ?_)
        · replace h := h.1 hc
          refine r_iinc (lv' := [(2, .int (x2_15 + (1 : Int32))), (0, .ref (a 3)), (1, .int (σ 4 7))]) G 2 dX2_fresh_49 kc_1 rfl (by decide) rfl ?_
          refine r_goto G 15 dX2_fresh_52 (by decide) ?_
          obtain ⟨m_15, hm_15, h⟩ := h
          exact r_sub [1, 2, 0] rfl (ih_15 m_15 hm_15 _ _ h)
        · replace h := h.2 hc
          refine r_aload_n G dX2_fresh_35 0 rfl rfl ?_
          refine r_iload_n G dX2_fresh_36 2 rfl rfl ?_
          refine r_iconst G (0 : Int32) dX2_fresh_37 kc_0 ?_
          refine r_iload_n G dX2_fresh_38 1 rfl rfl ?_
          refine r_cVWv G hD (ci := 2) (cq := (RX2, TX2, 6)) [.int x2_15, .int (0 : Int32), .int (σ 4 7)] [] (c_X2_offer (k_l Γ) (k_D Γ) a cI cO gI _ _ _ _ _ h) 3 rfl wC_3 (cwV 3 G.2.2.2.2.1 gX2_fresh_X2_offer rfl rfl rfl hdv_X2_offer ⟨Nat.le_of_ble_eq_true rfl, Nat.le_of_ble_eq_true rfl⟩) [0, 1] rfl rfl rfl (Nat.le_of_ble_eq_true rfl) dX2_fresh_39 (fun σ_39 h => ?_)
          refine r_aload_n G dX2_fresh_42 0 rfl rfl ?_
          refine r_get G inX2 3 4 wC_3 rfl (by decide) lk_28 rfl rfl dX2_fresh_43 ?_
          refine r_iload_n G dX2_fresh_46 2 rfl rfl ?_
          refine r_iconst G (1 : Int32) dX2_fresh_47 kc_1 ?_
          refine r_iast G hD 17 0 wC_17 rfl h.1 _ wC_17_s dX2_fresh_48 ?_
          replace h := h.2
          refine r_iinc (lv' := [(2, .int (x2_15 + (1 : Int32))), (0, .ref (a 3)), (1, .int (σ 4 7))]) G 2 dX2_fresh_49 kc_1 rfl (by decide) rfl ?_
          refine r_goto G 15 dX2_fresh_52 (by decide) ?_
          obtain ⟨m_15, hm_15, h⟩ := h
          exact r_sub [1, 2, 0] rfl (ih_15 m_15 hm_15 _ _ h)
  exact r_sub [2, 1, 0] rfl (key_15 n_15 _ _ h)
abbrev rm_X2_hear : Room := { frames := 3, cells := 0, slots := 0, locals := 68 }
def wp_X2_hear (σ : k_M) (p1 : Int32) (Q : Int32 → k_M → Prop) : Prop :=
  wp_X0_tells σ p1 (fun (r_10 : Int32) => (vp_in p1 8 ∧ (vp_in p1 8 ∧ wp_X5_fitting ((k_put σ 14 p1.toNatClampNeg r_10) 8) (((k_put σ 14 p1.toNatClampNeg r_10) 14) p1.toNatClampNeg) p1 ((k_put σ 14 p1.toNatClampNeg r_10) 4 7) (fun (r_35 : Int32) => ((r_35 = 0 → wp_X4_only p1 (fun (r_52 : Int32) => Q (0 : Int32) (k_put (k_put σ 14 p1.toNatClampNeg r_10) 4 9 (((k_put σ 14 p1.toNatClampNeg r_10) 4 9) ||| r_52)))) ∧ (¬ r_35 = 0 → Q (1 : Int32) (k_put σ 14 p1.toNatClampNeg r_10)))))))
theorem hd_X2_hear : yX2_hear.cls ≠ "java/lang/invoke/MethodHandle" ∧ yX2_hear.cls ≠ "java/lang/invoke/VarHandle" ∧ (parseMethodDescriptor yX2_hear.desc).map (fun d => d.parameters.length) = some 1 := by decide +kernel
theorem hdv_X2_hear : yX2_hear.cls = RX2 ∧ yX2_hear.cls ≠ "java/lang/invoke/MethodHandle" ∧ yX2_hear.cls ≠ "java/lang/invoke/VarHandle" ∧ (parseMethodDescriptor yX2_hear.desc).map (fun d => d.parameters.length) = some 1 := ⟨rfl, hd_X2_hear⟩
set_option maxHeartbeats 4000000 in
set_option maxRecDepth 100000 in
theorem c_X2_hear (l : Launch) (D : va_G) (a : Nat → Nat) (cI cO : ClassId) (gI : Nat → Option Nat) (σ : k_M) (p1 : Int32) (Q : Int32 → k_M → Prop) (h : wp_X2_hear σ p1 Q) : Met l yX2_hear wsX2_hear rm_X2_hear (k_PW D [(cI, .int), (cO, .object "FreshShares$Circle")] (wC a cI cO gI) σ [.ref (a 3), .int p1]) (k_Qi D (wC a cI cO gI) (fun r σ => (r = 0 ∨ r = 1) ∧ Q r σ)) 0 0 (k_wA (wC a cI cO gI)) := by
  refine k_metW (Qc := fun D => k_Qi D (wC a cI cO gI) (fun r σ => (r = 0 ∨ r = 1) ∧ Q r σ)) (by decide) rfl (Nat.le_of_ble_eq_true rfl) ?_
  intro Γ G hD E
  unfold wp_X2_hear at h
  have inX0 : ∀ w ∈ wsX00, w ∈ wsX2_hear := by decide +kernel
  have inX2 : ∀ w ∈ wsX20, w ∈ wsX2_hear := by decide +kernel
  have lk_12 := G.2.2.2.2.1 (.fieldLink RX2 12 "FreshShares$Orders" "circle" "LFreshShares$Circle;") (by decide +kernel)
  have lk_18 := G.2.2.2.2.1 (.fieldLink RX2 18 "FreshShares$Orders" "told" "[I") (by decide +kernel)
  show k_J Γ rm_X2_hear 2 false (wC a cI cO gI) 0 [(0, .ref (a 3)), (1, .int p1)] [] σ
  refine r_aload_n G dX2_hear_0 0 rfl rfl ?_
  refine r_get G inX2 3 1 wC_3 rfl (by decide) lk_18 rfl rfl dX2_hear_1 ?_
  refine r_iload_n G dX2_hear_4 1 rfl rfl ?_
  refine r_aload_n G dX2_hear_5 0 rfl rfl ?_
  refine r_get G inX2 3 0 wC_3 rfl (by decide) lk_12 rfl rfl dX2_hear_6 ?_
  refine r_iload_n G dX2_hear_9 1 rfl rfl ?_
  refine r_cVR G (ci := 0) (cq := (RX0, TX0, 12)) [.int p1] [.int p1, .ref (a 14)] (c_X0_tells (k_l Γ) (k_D Γ) a cI cO gI _ _ _ h) 4 rfl wC_4 (cwV 1 G.2.2.2.2.1 gX2_hear_X0_tells rfl rfl rfl hdv_X0_tells ⟨Nat.le_of_ble_eq_true rfl, Nat.le_of_ble_eq_true rfl⟩) [0, 1] rfl (fun _ hP => hP) rfl rfl (Nat.le_of_ble_eq_true rfl) dX2_hear_10 (fun r_10 h => ?_)
  refine r_iast G hD 14 0 wC_14 rfl h.1 _ wC_14_s dX2_hear_13 ?_
  replace h := h.2
  refine r_aload_n G dX2_hear_14 0 rfl rfl ?_
  refine r_get G inX2 3 1 wC_3 rfl (by decide) lk_18 rfl rfl dX2_hear_15 ?_
  refine r_iload_n G dX2_hear_18 1 rfl rfl ?_
  refine r_iald G 14 0 wC_14 rfl h.1 dX2_hear_19 ?_
  replace h := h.2
  refine r_iload_n G dX2_hear_20 1 rfl rfl ?_
  refine r_aload_n G dX2_hear_21 0 rfl rfl ?_
  refine r_get G inX2 3 0 wC_3 rfl (by decide) lk_12 rfl rfl dX2_hear_22 ?_
  refine r_getN G inX0 4 3 wC_4 rfl (by decide) (G.2.2.2.2.2.2.at 13 rfl rfl) rfl rfl dX2_hear_25 ?_
  refine r_aload_n G dX2_hear_28 0 rfl rfl ?_
  refine r_get G inX2 3 0 wC_3 rfl (by decide) lk_12 rfl rfl dX2_hear_29 ?_
  refine r_getN G inX0 4 7 wC_4 rfl (by decide) (G.2.2.2.2.2.2.at 19 rfl rfl) rfl rfl dX2_hear_32 ?_
  refine r_cSR G [.int (((k_put σ 14 p1.toNatClampNeg r_10) 14) p1.toNatClampNeg), .int p1, .ref (a 8), .int ((k_put σ 14 p1.toNatClampNeg r_10) 4 7)] [] (c_X5_fitting_8 (k_l Γ) (k_D Γ) a cI cO gI _ _ _ _ _ h) (va_cwS 4 G.2.2.2.2.1 gX2_hear_X5_fitting rfl rfl rfl hd_X5_fitting ⟨Nat.le_of_ble_eq_true rfl, Nat.le_of_ble_eq_true rfl⟩) [0, 1] rfl (fun _ hP => hP) rfl rfl (Nat.le_of_ble_eq_true rfl) dX2_hear_35 (fun r_35 h => ?_)
  have hz_35 := h.1
  replace h := h.2
  refine r_if_eq G 43 dX2_hear_38 (by decide) (fun hc => ?_) (fun hc => ?_)
  · replace h := h.1 hc
    refine r_aload_n G dX2_hear_43 0 rfl rfl ?_
    refine r_get G inX2 3 0 wC_3 rfl (by decide) lk_12 rfl rfl dX2_hear_44 ?_
    refine r_dup G rfl dX2_hear_47 ?_
    refine r_getN G inX0 4 9 wC_4 rfl (by decide) (G.2.2.2.2.2.2.at 23 rfl rfl) rfl rfl dX2_hear_48 ?_
    refine r_iload_n G dX2_hear_51 1 rfl rfl ?_
    refine r_cSR G [.int p1] [.int ((k_put σ 14 p1.toNatClampNeg r_10) 4 9), .ref (a 4)] (c_X4_only (k_l Γ) (k_D Γ) _ _ h) (va_cwS 1 G.2.2.2.2.1 gX2_hear_X4_only rfl rfl rfl hd_X4_only ⟨Nat.le_of_ble_eq_true rfl, Nat.le_of_ble_eq_true rfl⟩) [] rfl (fun _ _ => k_E0) rfl rfl (Nat.le_of_ble_eq_true rfl) dX2_hear_52 (fun r_52 h => ?_)
    refine r_ior G dX2_hear_55 ?_
    refine r_putN G hD tyX0 tyX0_ok nmX0 inX0 4 9 wC_4 rfl (by decide) (G.2.2.2.2.2.2.at 23 rfl rfl) rfl rfl (ty := .int) (by decide +kernel) rfl rfl (Nat.le_of_ble_eq_true rfl) _ wC_4_9 dX2_hear_56 ?_
    refine r_iconst G (0 : Int32) dX2_hear_59 kc_0 ?_
    exact r_zretW G E kz_0 dX2_hear_60 ⟨kzo_0, h⟩
  · replace h := h.2 hc
    refine r_iconst G (1 : Int32) dX2_hear_41 kc_1 ?_
    exact r_zretW G E kz_1 dX2_hear_42 ⟨kzo_1, h⟩
abbrev rm_X2_isFull : Room := { frames := 1, cells := 0, slots := 0, locals := 20 }
def wp_X2_isFull (σ : k_M) (p1 : Int32) (Q : Int32 → Prop) : Prop :=
  ((p1 = (100 : Int32) → wp_X0_isLastEpoch σ (fun (r_48 : Int32) => Q r_48)) ∧ (¬ p1 = (100 : Int32) → ((p1 = (102 : Int32) → wp_X0_isLastEpoch σ (fun (r_48 : Int32) => Q r_48)) ∧ (¬ p1 = (102 : Int32) → ((p1 = (115 : Int32) → wp_X1_isFull σ (fun (r_59 : Int32) => Q r_59)) ∧ (¬ p1 = (115 : Int32) → ((p1 = (116 : Int32) → wp_X0_isLastEpoch σ (fun (r_48 : Int32) => Q r_48)) ∧ (¬ p1 = (116 : Int32) → Q (0 : Int32)))))))))
theorem hd_X2_isFull : yX2_isFull.cls ≠ "java/lang/invoke/MethodHandle" ∧ yX2_isFull.cls ≠ "java/lang/invoke/VarHandle" ∧ (parseMethodDescriptor yX2_isFull.desc).map (fun d => d.parameters.length) = some 1 := by decide +kernel
theorem hdv_X2_isFull : yX2_isFull.cls = RX2 ∧ yX2_isFull.cls ≠ "java/lang/invoke/MethodHandle" ∧ yX2_isFull.cls ≠ "java/lang/invoke/VarHandle" ∧ (parseMethodDescriptor yX2_isFull.desc).map (fun d => d.parameters.length) = some 1 := ⟨rfl, hd_X2_isFull⟩
set_option maxHeartbeats 4000000 in
set_option maxRecDepth 100000 in
theorem c_X2_isFull (l : Launch) (D : va_G) (a : Nat → Nat) (cI cO : ClassId) (gI : Nat → Option Nat) (σ : k_M) (p1 : Int32) (Q : Int32 → Prop) (h : wp_X2_isFull σ p1 Q) : Met l yX2_isFull wsX2_isFull rm_X2_isFull (k_PR D [(cI, .int), (cO, .object "FreshShares$Circle")] (wC a cI cO gI) σ [.ref (a 3), .int p1]) (vp_Si (fun r => (r = 0 ∨ r = 1) ∧ Q r)) 0 0 (fun _ => False) := by
  refine k_metR (by decide) rfl (Nat.le_of_ble_eq_true rfl) ?_
  intro Γ G E
  unfold wp_X2_isFull at h
  have inX0 : ∀ w ∈ wsX00, w ∈ wsX2_isFull := by decide +kernel
  have inX2 : ∀ w ∈ wsX20, w ∈ wsX2_isFull := by decide +kernel
  have lk_12 := G.2.2.2.2.1 (.fieldLink RX2 12 "FreshShares$Orders" "circle" "LFreshShares$Circle;") (by decide +kernel)
  show k_J Γ rm_X2_isFull 2 true (wC a cI cO gI) 0 [(0, .ref (a 3)), (1, .int p1)] [] σ
  refine r_iload_n G dX2_isFull_0 1 rfl rfl ?_
  rcases Classical.em (p1 = (100 : Int32)) with hs_0 | hs_0
  · replace h := h.1 hs_0
    refine r_lookup G 44 dX2_isFull_1 rfl (off := 43) (by rw [khit hs_0 kt_100]; rfl) (by decide) ?_
    refine r_aload_n G dX2_isFull_44 0 rfl rfl ?_
    refine r_get G inX2 3 0 wC_3 rfl (by decide) lk_12 rfl rfl dX2_isFull_45 ?_
    refine r_cVR G (ci := 0) (cq := (RX0, TX0, 12)) [] [] (c_X0_isLastEpoch (k_l Γ) (k_D Γ) a cI cO gI _ _ h) 4 rfl wC_4 (cwV 0 G.2.2.2.2.1 gX2_isFull_X0_isLastEpoch rfl rfl rfl hdv_X0_isLastEpoch ⟨Nat.le_of_ble_eq_true rfl, Nat.le_of_ble_eq_true rfl⟩) [0, 1] rfl (fun _ hP => hP) rfl rfl (Nat.le_of_ble_eq_true rfl) dX2_isFull_48 (fun r_48 h => ?_)
    have hz_48 := h.1
    replace h := h.2
    exact r_zretR G E (kz_of hz_48) dX2_isFull_51 ⟨hz_48, h⟩
  replace h := h.2 hs_0
  rcases Classical.em (p1 = (102 : Int32)) with hs_1 | hs_1
  · replace h := h.1 hs_1
    refine r_lookup G 44 dX2_isFull_1 rfl (off := 43) (by rw [khit hs_1 kt_102]; rfl) (by decide) ?_
    refine r_aload_n G dX2_isFull_44 0 rfl rfl ?_
    refine r_get G inX2 3 0 wC_3 rfl (by decide) lk_12 rfl rfl dX2_isFull_45 ?_
    refine r_cVR G (ci := 0) (cq := (RX0, TX0, 12)) [] [] (c_X0_isLastEpoch (k_l Γ) (k_D Γ) a cI cO gI _ _ h) 4 rfl wC_4 (cwV 0 G.2.2.2.2.1 gX2_isFull_X0_isLastEpoch rfl rfl rfl hdv_X0_isLastEpoch ⟨Nat.le_of_ble_eq_true rfl, Nat.le_of_ble_eq_true rfl⟩) [0, 1] rfl (fun _ hP => hP) rfl rfl (Nat.le_of_ble_eq_true rfl) dX2_isFull_48 (fun r_48 h => ?_)
    have hz_48 := h.1
    replace h := h.2
    exact r_zretR G E (kz_of hz_48) dX2_isFull_51 ⟨hz_48, h⟩
  replace h := h.2 hs_1
  rcases Classical.em (p1 = (115 : Int32)) with hs_2 | hs_2
  · replace h := h.1 hs_2
    refine r_lookup G 52 dX2_isFull_1 rfl (off := 51) (by rw [khit hs_2 kt_115]; rfl) (by decide) ?_
    refine r_aload_n G dX2_isFull_52 0 rfl rfl ?_
    refine r_get G inX2 3 0 wC_3 rfl (by decide) lk_12 rfl rfl dX2_isFull_53 ?_
    refine r_getN G inX0 4 5 wC_4 rfl (by decide) (G.2.2.2.2.2.2.at 15 rfl rfl) rfl rfl dX2_isFull_56 ?_
    refine r_cVR G (ci := 1) (cq := (RX1, TX1, 4)) [] [] (c_X1_isFull (k_l Γ) (k_D Γ) a cI cO gI _ _ h) 10 rfl wC_10 (cwV 0 G.2.2.2.2.1 gX2_isFull_X1_isFull rfl rfl rfl hdv_X1_isFull ⟨Nat.le_of_ble_eq_true rfl, Nat.le_of_ble_eq_true rfl⟩) [0, 1] rfl (fun _ hP => hP) rfl rfl (Nat.le_of_ble_eq_true rfl) dX2_isFull_59 (fun r_59 h => ?_)
    have hz_59 := h.1
    replace h := h.2
    exact r_zretR G E (kz_of hz_59) dX2_isFull_62 ⟨hz_59, h⟩
  replace h := h.2 hs_2
  rcases Classical.em (p1 = (116 : Int32)) with hs_3 | hs_3
  · replace h := h.1 hs_3
    refine r_lookup G 44 dX2_isFull_1 rfl (off := 43) (by rw [khit hs_3 kt_116]; rfl) (by decide) ?_
    refine r_aload_n G dX2_isFull_44 0 rfl rfl ?_
    refine r_get G inX2 3 0 wC_3 rfl (by decide) lk_12 rfl rfl dX2_isFull_45 ?_
    refine r_cVR G (ci := 0) (cq := (RX0, TX0, 12)) [] [] (c_X0_isLastEpoch (k_l Γ) (k_D Γ) a cI cO gI _ _ h) 4 rfl wC_4 (cwV 0 G.2.2.2.2.1 gX2_isFull_X0_isLastEpoch rfl rfl rfl hdv_X0_isLastEpoch ⟨Nat.le_of_ble_eq_true rfl, Nat.le_of_ble_eq_true rfl⟩) [0, 1] rfl (fun _ hP => hP) rfl rfl (Nat.le_of_ble_eq_true rfl) dX2_isFull_48 (fun r_48 h => ?_)
    have hz_48 := h.1
    replace h := h.2
    exact r_zretR G E (kz_of hz_48) dX2_isFull_51 ⟨hz_48, h⟩
  replace h := h.2 hs_3
  refine r_lookup G 63 dX2_isFull_1 rfl (off := 62) (by show Op.lookupswitch.offset [(100, 43), (102, 43), (115, 51), (116, 43)] 62 _ = _; rw [lv_osw hs_0 kt_100, lv_osw hs_1 kt_102, lv_osw hs_2 kt_115, lv_osw hs_3 kt_116]; rfl) (by decide) ?_
  refine r_iconst G (0 : Int32) dX2_isFull_63 kc_0 ?_
  exact r_zretR G E kz_0 dX2_isFull_64 ⟨kzo_0, h⟩
abbrev rm_X2_lose : Room := { frames := 1, cells := 0, slots := 0, locals := 20 }
def wp_X2_lose (σ : k_M) (p1 : Int32) (Q : Int32 → k_M → Prop) : Prop :=
  wp_X4_only p1 (fun (r_9 : Int32) => wp_J6_bitCount_0f7a4 ((k_put σ 4 6 ((σ 4 6) &&& (r_9 ^^^ (-1 : Int32)))) 4 6) (fun (r_25 : Int32) => Q r_25 (k_put σ 4 6 ((σ 4 6) &&& (r_9 ^^^ (-1 : Int32))))))
theorem hd_X2_lose : yX2_lose.cls ≠ "java/lang/invoke/MethodHandle" ∧ yX2_lose.cls ≠ "java/lang/invoke/VarHandle" ∧ (parseMethodDescriptor yX2_lose.desc).map (fun d => d.parameters.length) = some 1 := by decide +kernel
theorem hdv_X2_lose : yX2_lose.cls = RX2 ∧ yX2_lose.cls ≠ "java/lang/invoke/MethodHandle" ∧ yX2_lose.cls ≠ "java/lang/invoke/VarHandle" ∧ (parseMethodDescriptor yX2_lose.desc).map (fun d => d.parameters.length) = some 1 := ⟨rfl, hd_X2_lose⟩
set_option maxHeartbeats 4000000 in
set_option maxRecDepth 100000 in
theorem c_X2_lose (l : Launch) (D : va_G) (a : Nat → Nat) (cI cO : ClassId) (gI : Nat → Option Nat) (σ : k_M) (p1 : Int32) (Q : Int32 → k_M → Prop) (h : wp_X2_lose σ p1 Q) : Met l yX2_lose wsX2_lose rm_X2_lose (k_PW D [(cI, .int), (cO, .object "FreshShares$Circle")] (wC a cI cO gI) σ [.ref (a 3), .int p1]) (k_Qi D (wC a cI cO gI) Q) 0 0 (k_wA (wC a cI cO gI)) := by
  refine k_metW (Qc := fun D => k_Qi D (wC a cI cO gI) Q) (by decide) rfl (Nat.le_of_ble_eq_true rfl) ?_
  intro Γ G hD E
  unfold wp_X2_lose at h
  have inX0 : ∀ w ∈ wsX00, w ∈ wsX2_lose := by decide +kernel
  have inX2 : ∀ w ∈ wsX20, w ∈ wsX2_lose := by decide +kernel
  have lk_12 := G.2.2.2.2.1 (.fieldLink RX2 12 "FreshShares$Orders" "circle" "LFreshShares$Circle;") (by decide +kernel)
  show k_J Γ rm_X2_lose 2 false (wC a cI cO gI) 0 [(0, .ref (a 3)), (1, .int p1)] [] σ
  refine r_aload_n G dX2_lose_0 0 rfl rfl ?_
  refine r_get G inX2 3 0 wC_3 rfl (by decide) lk_12 rfl rfl dX2_lose_1 ?_
  refine r_dup G rfl dX2_lose_4 ?_
  refine r_getN G inX0 4 6 wC_4 rfl (by decide) (G.2.2.2.2.2.2.at 17 rfl rfl) rfl rfl dX2_lose_5 ?_
  refine r_iload_n G dX2_lose_8 1 rfl rfl ?_
  refine r_cSR G [.int p1] [.int (σ 4 6), .ref (a 4)] (c_X4_only (k_l Γ) (k_D Γ) _ _ h) (va_cwS 1 G.2.2.2.2.1 gX2_lose_X4_only rfl rfl rfl hd_X4_only ⟨Nat.le_of_ble_eq_true rfl, Nat.le_of_ble_eq_true rfl⟩) [] rfl (fun _ _ => k_E0) rfl rfl (Nat.le_of_ble_eq_true rfl) dX2_lose_9 (fun r_9 h => ?_)
  refine r_iconst G (-1 : Int32) dX2_lose_12 kc_m1 ?_
  refine r_ixor G dX2_lose_13 ?_
  refine r_iand G dX2_lose_14 ?_
  refine r_putN G hD tyX0 tyX0_ok nmX0 inX0 4 6 wC_4 rfl (by decide) (G.2.2.2.2.2.2.at 17 rfl rfl) rfl rfl (ty := .int) (by decide +kernel) rfl rfl (Nat.le_of_ble_eq_true rfl) _ wC_4_6 dX2_lose_15 ?_
  refine r_aload_n G dX2_lose_18 0 rfl rfl ?_
  refine r_get G inX2 3 0 wC_3 rfl (by decide) lk_12 rfl rfl dX2_lose_19 ?_
  refine r_getN G inX0 4 6 wC_4 rfl (by decide) (G.2.2.2.2.2.2.at 17 rfl rfl) rfl rfl dX2_lose_22 ?_
  refine r_cSR G [.int ((k_put σ 4 6 ((σ 4 6) &&& (r_9 ^^^ (-1 : Int32)))) 4 6)] [] (c_J6_bitCount_0f7a4 (k_l Γ) (k_D Γ) _ _ h) (va_cwS 1 G.2.2.2.2.1 gX2_lose_J6_bitCount_0f7a4 rfl rfl rfl hd_J6_bitCount_0f7a4 ⟨Nat.le_of_ble_eq_true rfl, Nat.le_of_ble_eq_true rfl⟩) [] rfl (fun _ _ => k_E0) rfl rfl (Nat.le_of_ble_eq_true rfl) dX2_lose_25 (fun r_25 h => ?_)
  exact r_iretW G E dX2_lose_28 h
abbrev rm_X2_move : Room := { frames := 4, cells := 0, slots := 0, locals := 100 }
def wp_X2_move (σ : k_M) (p1 p2 : Int32) (Q : Int32 → k_M → Prop) : Prop :=
  (k_lp2 (fun (B_27 : Int32 → k_M → Prop) (x5_27 : Int32) (σ_27 : k_M) => (∃ K_84 : Prop, ( K_84  → wp_J6_bitCount_0f7a4 (σ_27 3 5) (fun (r_88 : Int32) => (((σ 4 7) ≤ r_88 → (k_lp2 (fun (B_101 : Int32 → k_M → Prop) (x5_101 : Int32) (σ_101 : k_M) => (((7 : Int32) < x5_101 → wp_J7_fill_53178_7 σ_101 (0 : Int32) (fun (σ_139 : k_M) => wp_J7_fill_53178_8 σ_139 (1 : Int32) (fun (σ_150 : k_M) => wp_X2_pourTaken σ_150 p1 (fun (σ_155 : k_M) => wp_X2_closeEpoch σ_155 p1 (fun (r_160 : Int32) (σ_160 : k_M) => Q r_160 σ_160))))) ∧ (¬ (7 : Int32) < x5_101 → wp_X5_weight x5_101 (σ_101 3 5) (0 : Int32) (fun (r_121 : Int32) => (vp_in x5_101 8 ∧ B_101 (x5_101 + (1 : Int32)) (k_put σ_101 17 x5_101.toNatClampNeg r_121)))))) (1 : Int32) σ_27)) ∧ (¬ (σ 4 7) ≤ r_88 → Q (-5 : Int32) σ_27)))) ∧ (((7 : Int32) < x5_27 → K_84) ∧ (¬ (7 : Int32) < x5_27 → wp_J6_bitCount_0f7a4 (σ_27 3 5) (fun (r_38 : Int32) => (((σ 4 7) ≤ r_38 → K_84) ∧ (¬ (σ 4 7) ≤ r_38 → wp_X4_has (p2 &&& (σ 4 6)) x5_27 (fun (r_49 : Int32) => ((r_49 = 0 → B_27 (x5_27 + (1 : Int32)) σ_27) ∧ (¬ r_49 = 0 → wp_X2_hear σ_27 x5_27 (fun (r_58 : Int32) (σ_58 : k_M) => ((r_58 = 0 → B_27 (x5_27 + (1 : Int32)) σ_58) ∧ (¬ r_58 = 0 → (vp_in x5_27 8 ∧ wp_X2_offer σ_58 x5_27 ((σ_58 14) x5_27.toNatClampNeg) p1 (fun (σ_75 : k_M) => B_27 (x5_27 + (1 : Int32)) σ_75))))))))))))))) (1 : Int32) (k_put σ 3 5 (0 : Int32)))
theorem hd_X2_move : yX2_move.cls ≠ "java/lang/invoke/MethodHandle" ∧ yX2_move.cls ≠ "java/lang/invoke/VarHandle" ∧ (parseMethodDescriptor yX2_move.desc).map (fun d => d.parameters.length) = some 2 := by decide +kernel
theorem hdv_X2_move : yX2_move.cls = RX2 ∧ yX2_move.cls ≠ "java/lang/invoke/MethodHandle" ∧ yX2_move.cls ≠ "java/lang/invoke/VarHandle" ∧ (parseMethodDescriptor yX2_move.desc).map (fun d => d.parameters.length) = some 2 := ⟨rfl, hd_X2_move⟩
set_option maxHeartbeats 4000000 in
set_option maxRecDepth 100000 in
theorem c_X2_move (l : Launch) (D : va_G) (a : Nat → Nat) (cI cO : ClassId) (gI : Nat → Option Nat) (σ : k_M) (p1 p2 : Int32) (Q : Int32 → k_M → Prop) (h : wp_X2_move σ p1 p2 Q) : Met l yX2_move wsX2_move rm_X2_move (k_PW D [(cI, .int), (cO, .object "FreshShares$Circle")] (wC a cI cO gI) σ [.ref (a 3), .int p1, .int p2]) (k_Qi D (wC a cI cO gI) Q) 0 0 (k_wA (wC a cI cO gI)) := by
  refine k_metW (Qc := fun D => k_Qi D (wC a cI cO gI) Q) (by decide) rfl (Nat.le_of_ble_eq_true rfl) ?_
  intro Γ G hD E
  unfold wp_X2_move at h
  have inX0 : ∀ w ∈ wsX00, w ∈ wsX2_move := by decide +kernel
  have inX2 : ∀ w ∈ wsX20, w ∈ wsX2_move := by decide +kernel
  have lk_12 := G.2.2.2.2.1 (.fieldLink RX2 12 "FreshShares$Orders" "circle" "LFreshShares$Circle;") (by decide +kernel)
  have lk_18 := G.2.2.2.2.1 (.fieldLink RX2 18 "FreshShares$Orders" "told" "[I") (by decide +kernel)
  have lk_28 := G.2.2.2.2.1 (.fieldLink RX2 28 "FreshShares$Orders" "factors" "[I") (by decide +kernel)
  have lk_31 := G.2.2.2.2.1 (.fieldLink RX2 31 "FreshShares$Orders" "taken" "I") (by decide +kernel)
  show k_J Γ rm_X2_move 6 false (wC a cI cO gI) 0 [(0, .ref (a 3)), (1, .int p1), (2, .int p2)] [] σ
  refine r_aload_n G dX2_move_0 0 rfl rfl ?_
  refine r_get G inX2 3 0 wC_3 rfl (by decide) lk_12 rfl rfl dX2_move_1 ?_
  refine r_getN G inX0 4 7 wC_4 rfl (by decide) (G.2.2.2.2.2.2.at 19 rfl rfl) rfl rfl dX2_move_4 ?_
  refine r_istore_n (lv' := [(3, .int (σ 4 7)), (0, .ref (a 3)), (1, .int p1), (2, .int p2)]) G dX2_move_7 rfl (by decide) rfl ?_
  refine r_iload_n G dX2_move_8 3 rfl rfl ?_
  refine r_aload_n G dX2_move_9 1 rfl rfl ?_
  refine r_get G inX2 3 0 wC_3 rfl (by decide) lk_12 rfl rfl dX2_move_10 ?_
  refine r_getN G inX0 4 6 wC_4 rfl (by decide) (G.2.2.2.2.2.2.at 17 rfl rfl) rfl rfl dX2_move_13 ?_
  refine r_iand G dX2_move_16 ?_
  refine r_istore (lv' := [(4, .int (p2 &&& (σ 4 6))), (3, .int (σ 4 7)), (0, .ref (a 3)), (1, .int p1), (2, .int p2)]) G dX2_move_17 (by decide) rfl ?_
  refine r_aload_n G dX2_move_19 2 rfl rfl ?_
  refine r_iconst G (0 : Int32) dX2_move_20 kc_0 ?_
  refine r_put G hD tyX2 tyX2_ok nmX2 inX2 3 5 wC_3 rfl (by decide) lk_31 rfl rfl (ty := .int) (by decide +kernel) rfl rfl (Nat.le_of_ble_eq_true rfl) _ wC_3_5 dX2_move_21 ?_
  refine r_iconst G (1 : Int32) dX2_move_24 kc_1 ?_
  refine r_istore (lv' := [(5, .int (1 : Int32)), (4, .int (p2 &&& (σ 4 6))), (3, .int (σ 4 7)), (0, .ref (a 3)), (1, .int p1), (2, .int p2)]) G dX2_move_25 (by decide) rfl ?_
  obtain ⟨I_27, n_27, h, hI_27⟩ := h
  have key_27 : ∀ (n : Nat) (x5_27 : Int32) (σ_27 : k_M), I_27 n x5_27 σ_27 → k_J Γ rm_X2_move 6 false (wC a cI cO gI) 27 [(0, .ref (a 3)), (1, .int p1), (3, .int (σ 4 7)), (4, .int (p2 &&& (σ 4 6))), (5, .int x5_27)] [] σ_27 := by
    intro n
    induction n using Nat.strongRecOn with
    | ind n ih_27 =>
      intro x5_27 σ_27 h
      replace h := hI_27 n x5_27 σ_27 h
      refine r_iload G dX2_move_27 4 rfl ?_
      refine r_bipush G (7 : Int32) dX2_move_29 kb_7 ?_
      obtain ⟨K_84, hK_84, h⟩ := h
      have kj_84 :  K_84  → k_J Γ rm_X2_move 6 false (wC a cI cO gI) 84 [(0, .ref (a 3)), (1, .int p1), (3, .int (σ 4 7))] [] σ_27 := by
        intro  h
        replace h := hK_84  h
        refine r_aload_n G dX2_move_84 0 rfl rfl ?_
        refine r_get G inX2 3 5 wC_3 rfl (by decide) lk_31 rfl rfl dX2_move_85 ?_
        refine r_cSR G [.int (σ_27 3 5)] [] (c_J6_bitCount_0f7a4 (k_l Γ) (k_D Γ) _ _ h) (va_cwS 1 G.2.2.2.2.1 gX2_move_J6_bitCount_0f7a4 rfl rfl rfl hd_J6_bitCount_0f7a4 ⟨Nat.le_of_ble_eq_true rfl, Nat.le_of_ble_eq_true rfl⟩) [] rfl (fun _ _ => k_E0) rfl rfl (Nat.le_of_ble_eq_true rfl) dX2_move_88 (fun r_88 h => ?_)
        refine r_iload_n G dX2_move_91 2 rfl rfl ?_
        refine r_icmp_ge G 98 dX2_move_92 (by decide) (fun hc => ?_) (fun hc => ?_)
        · replace h := h.1 hc
          refine r_iconst G (1 : Int32) dX2_move_98 kc_1 ?_
          refine r_istore (lv' := [(5, .int (1 : Int32)), (0, .ref (a 3)), (1, .int p1), (3, .int (σ 4 7))]) G dX2_move_99 (by decide) rfl ?_
          obtain ⟨I_101, n_101, h, hI_101⟩ := h
          have key_101 : ∀ (n : Nat) (x5_101 : Int32) (σ_101 : k_M), I_101 n x5_101 σ_101 → k_J Γ rm_X2_move 6 false (wC a cI cO gI) 101 [(0, .ref (a 3)), (1, .int p1), (5, .int x5_101)] [] σ_101 := by
            intro n
            induction n using Nat.strongRecOn with
            | ind n ih_101 =>
              intro x5_101 σ_101 h
              replace h := hI_101 n x5_101 σ_101 h
              refine r_iload G dX2_move_101 2 rfl ?_
              refine r_bipush G (7 : Int32) dX2_move_103 kb_7 ?_
              refine r_icmp_gt G 131 dX2_move_105 (by decide) (fun hc => ?_) (fun hc => ?_)
              · replace h := h.1 hc
                refine r_aload_n G dX2_move_131 0 rfl rfl ?_
                refine r_get G inX2 3 0 wC_3 rfl (by decide) lk_12 rfl rfl dX2_move_132 ?_
                refine r_getN G inX0 4 2 wC_4 rfl (by decide) (G.2.2.2.2.2.2.at 11 rfl rfl) rfl rfl dX2_move_135 ?_
                refine r_iconst G (0 : Int32) dX2_move_138 kc_0 ?_
                refine r_cSWv G hD [.ref (a 7), .int (0 : Int32)] [] (c_J7_fill_53178_7 (k_l Γ) (k_D Γ) a cI cO gI _ _ _ h) (va_cwS 2 G.2.2.2.2.1 gX2_move_J7_fill_53178 rfl rfl rfl hd_J7_fill_53178 ⟨Nat.le_of_ble_eq_true rfl, Nat.le_of_ble_eq_true rfl⟩) [0, 1] rfl rfl rfl (Nat.le_of_ble_eq_true rfl) dX2_move_139 (fun σ_139 h => ?_)
                refine r_aload_n G dX2_move_142 0 rfl rfl ?_
                refine r_get G inX2 3 0 wC_3 rfl (by decide) lk_12 rfl rfl dX2_move_143 ?_
                refine r_getN G inX0 4 3 wC_4 rfl (by decide) (G.2.2.2.2.2.2.at 13 rfl rfl) rfl rfl dX2_move_146 ?_
                refine r_iconst G (1 : Int32) dX2_move_149 kc_1 ?_
                refine r_cSWv G hD [.ref (a 8), .int (1 : Int32)] [] (c_J7_fill_53178_8 (k_l Γ) (k_D Γ) a cI cO gI _ _ _ h) (va_cwS 2 G.2.2.2.2.1 gX2_move_J7_fill_53178 rfl rfl rfl hd_J7_fill_53178 ⟨Nat.le_of_ble_eq_true rfl, Nat.le_of_ble_eq_true rfl⟩) [0, 1] rfl rfl rfl (Nat.le_of_ble_eq_true rfl) dX2_move_150 (fun σ_150 h => ?_)
                refine r_aload_n G dX2_move_153 0 rfl rfl ?_
                refine r_iload_n G dX2_move_154 1 rfl rfl ?_
                refine r_cVWv G hD (ci := 2) (cq := (RX2, TX2, 6)) [.int p1] [] (c_X2_pourTaken (k_l Γ) (k_D Γ) a cI cO gI _ _ _ h) 3 rfl wC_3 (cwV 1 G.2.2.2.2.1 gX2_move_X2_pourTaken rfl rfl rfl hdv_X2_pourTaken ⟨Nat.le_of_ble_eq_true rfl, Nat.le_of_ble_eq_true rfl⟩) [0, 1] rfl rfl rfl (Nat.le_of_ble_eq_true rfl) dX2_move_155 (fun σ_155 h => ?_)
                refine r_aload_n G dX2_move_158 0 rfl rfl ?_
                refine r_iload_n G dX2_move_159 1 rfl rfl ?_
                refine r_cVWi G hD (ci := 2) (cq := (RX2, TX2, 6)) [.int p1] [] (c_X2_closeEpoch (k_l Γ) (k_D Γ) a cI cO gI _ _ _ h) 3 rfl wC_3 (cwV 1 G.2.2.2.2.1 gX2_move_X2_closeEpoch rfl rfl rfl hdv_X2_closeEpoch ⟨Nat.le_of_ble_eq_true rfl, Nat.le_of_ble_eq_true rfl⟩) [0, 1] rfl rfl rfl (Nat.le_of_ble_eq_true rfl) dX2_move_160 (fun r_160 σ_160 h => ?_)
                exact r_iretW G E dX2_move_163 h
              · replace h := h.2 hc
                refine r_aload_n G dX2_move_108 0 rfl rfl ?_
                refine r_get G inX2 3 4 wC_3 rfl (by decide) lk_28 rfl rfl dX2_move_109 ?_
                refine r_iload G dX2_move_112 2 rfl ?_
                refine r_iload G dX2_move_114 2 rfl ?_
                refine r_aload_n G dX2_move_116 0 rfl rfl ?_
                refine r_get G inX2 3 5 wC_3 rfl (by decide) lk_31 rfl rfl dX2_move_117 ?_
                refine r_iconst G (0 : Int32) dX2_move_120 kc_0 ?_
                refine r_cSR G [.int x5_101, .int (σ_101 3 5), .int (0 : Int32)] [.int x5_101, .ref (a 17)] (c_X5_weight (k_l Γ) (k_D Γ) _ _ _ _ h) (va_cwS 3 G.2.2.2.2.1 gX2_move_X5_weight rfl rfl rfl hd_X5_weight ⟨Nat.le_of_ble_eq_true rfl, Nat.le_of_ble_eq_true rfl⟩) [] rfl (fun _ _ => k_E0) rfl rfl (Nat.le_of_ble_eq_true rfl) dX2_move_121 (fun r_121 h => ?_)
                refine r_iast G hD 17 0 wC_17 rfl h.1 _ wC_17_s dX2_move_124 ?_
                replace h := h.2
                refine r_iinc (lv' := [(5, .int (x5_101 + (1 : Int32))), (0, .ref (a 3)), (1, .int p1)]) G 2 dX2_move_125 kc_1 rfl (by decide) rfl ?_
                refine r_goto G 101 dX2_move_128 (by decide) ?_
                obtain ⟨m_101, hm_101, h⟩ := h
                exact r_sub [1, 2, 0] rfl (ih_101 m_101 hm_101 _ _ h)
          exact r_sub [1, 2, 0] rfl (key_101 n_101 _ _ h)
        · replace h := h.2 hc
          refine r_bipush G (-5 : Int32) dX2_move_95 kb_m5 ?_
          exact r_iretW G E dX2_move_97 h
      refine r_icmp_gt G 84 dX2_move_31 (by decide) (fun hc => ?_) (fun hc => ?_)
      · replace h := h.1 hc
        exact r_sub [0, 1, 2] rfl (kj_84  h)
      · replace h := h.2 hc
        refine r_aload_n G dX2_move_34 0 rfl rfl ?_
        refine r_get G inX2 3 5 wC_3 rfl (by decide) lk_31 rfl rfl dX2_move_35 ?_
        refine r_cSR G [.int (σ_27 3 5)] [] (c_J6_bitCount_0f7a4 (k_l Γ) (k_D Γ) _ _ h) (va_cwS 1 G.2.2.2.2.1 gX2_move_J6_bitCount_0f7a4 rfl rfl rfl hd_J6_bitCount_0f7a4 ⟨Nat.le_of_ble_eq_true rfl, Nat.le_of_ble_eq_true rfl⟩) [] rfl (fun _ _ => k_E0) rfl rfl (Nat.le_of_ble_eq_true rfl) dX2_move_38 (fun r_38 h => ?_)
        refine r_iload_n G dX2_move_41 2 rfl rfl ?_
        refine r_icmp_ge G 84 dX2_move_42 (by decide) (fun hc => ?_) (fun hc => ?_)
        · replace h := h.1 hc
          exact r_sub [0, 1, 2] rfl (kj_84  h)
        · replace h := h.2 hc
          refine r_iload G dX2_move_45 3 rfl ?_
          refine r_iload G dX2_move_47 4 rfl ?_
          refine r_cSR G [.int (p2 &&& (σ 4 6)), .int x5_27] [] (c_X4_has (k_l Γ) (k_D Γ) _ _ _ h) (va_cwS 2 G.2.2.2.2.1 gX2_move_X4_has rfl rfl rfl hd_X4_has ⟨Nat.le_of_ble_eq_true rfl, Nat.le_of_ble_eq_true rfl⟩) [] rfl (fun _ _ => k_E0) rfl rfl (Nat.le_of_ble_eq_true rfl) dX2_move_49 (fun r_49 h => ?_)
          have hz_49 := h.1
          replace h := h.2
          refine r_if_eq G 78 dX2_move_52 (by decide) (fun hc => ?_) (fun hc => ?_)
          · replace h := h.1 hc
            refine r_iinc (lv' := [(5, .int (x5_27 + (1 : Int32))), (0, .ref (a 3)), (1, .int p1), (3, .int (σ 4 7)), (4, .int (p2 &&& (σ 4 6)))]) G 4 dX2_move_78 kc_1 rfl (by decide) rfl ?_
            refine r_goto G 27 dX2_move_81 (by decide) ?_
            obtain ⟨m_27, hm_27, h⟩ := h
            exact r_sub [1, 2, 3, 4, 0] rfl (ih_27 m_27 hm_27 _ _ h)
          · replace h := h.2 hc
            refine r_aload_n G dX2_move_55 0 rfl rfl ?_
            refine r_iload G dX2_move_56 4 rfl ?_
            refine r_cVWi G hD (ci := 2) (cq := (RX2, TX2, 6)) [.int x5_27] [] (c_X2_hear (k_l Γ) (k_D Γ) a cI cO gI _ _ _ h) 3 rfl wC_3 (cwV 1 G.2.2.2.2.1 gX2_move_X2_hear rfl rfl rfl hdv_X2_hear ⟨Nat.le_of_ble_eq_true rfl, Nat.le_of_ble_eq_true rfl⟩) [0, 1] rfl rfl rfl (Nat.le_of_ble_eq_true rfl) dX2_move_58 (fun r_58 σ_58 h => ?_)
            have hz_58 := h.1
            replace h := h.2
            refine r_if_eq G 78 dX2_move_61 (by decide) (fun hc => ?_) (fun hc => ?_)
            · replace h := h.1 hc
              refine r_iinc (lv' := [(5, .int (x5_27 + (1 : Int32))), (0, .ref (a 3)), (1, .int p1), (3, .int (σ 4 7)), (4, .int (p2 &&& (σ 4 6)))]) G 4 dX2_move_78 kc_1 rfl (by decide) rfl ?_
              refine r_goto G 27 dX2_move_81 (by decide) ?_
              obtain ⟨m_27, hm_27, h⟩ := h
              exact r_sub [1, 2, 3, 4, 0] rfl (ih_27 m_27 hm_27 _ _ h)
            · replace h := h.2 hc
              refine r_aload_n G dX2_move_64 0 rfl rfl ?_
              refine r_iload G dX2_move_65 4 rfl ?_
              refine r_aload_n G dX2_move_67 0 rfl rfl ?_
              refine r_get G inX2 3 1 wC_3 rfl (by decide) lk_18 rfl rfl dX2_move_68 ?_
              refine r_iload G dX2_move_71 4 rfl ?_
              refine r_iald G 14 0 wC_14 rfl h.1 dX2_move_73 ?_
              replace h := h.2
              refine r_iload_n G dX2_move_74 1 rfl rfl ?_
              refine r_cVWv G hD (ci := 2) (cq := (RX2, TX2, 6)) [.int x5_27, .int ((σ_58 14) x5_27.toNatClampNeg), .int p1] [] (c_X2_offer (k_l Γ) (k_D Γ) a cI cO gI _ _ _ _ _ h) 3 rfl wC_3 (cwV 3 G.2.2.2.2.1 gX2_move_X2_offer rfl rfl rfl hdv_X2_offer ⟨Nat.le_of_ble_eq_true rfl, Nat.le_of_ble_eq_true rfl⟩) [0, 1] rfl rfl rfl (Nat.le_of_ble_eq_true rfl) dX2_move_75 (fun σ_75 h => ?_)
              refine r_iinc (lv' := [(5, .int (x5_27 + (1 : Int32))), (0, .ref (a 3)), (1, .int p1), (3, .int (σ 4 7)), (4, .int (p2 &&& (σ 4 6)))]) G 4 dX2_move_78 kc_1 rfl (by decide) rfl ?_
              refine r_goto G 27 dX2_move_81 (by decide) ?_
              obtain ⟨m_27, hm_27, h⟩ := h
              exact r_sub [1, 2, 3, 4, 0] rfl (ih_27 m_27 hm_27 _ _ h)
  exact r_sub [3, 4, 2, 1, 0] rfl (key_27 n_27 _ _ h)
abbrev rm_X5_weighed : Room := { frames := 2, cells := 0, slots := 0, locals := 47 }
def wp_X5_weighed (f : Nat → Int32) (p1 p2 : Int32) (Q : Int32 → Prop) : Prop :=
  (k_lp2 (fun (B_5 : Int32 → Int32 → Prop) (x3_5 : Int32) (x4_5 : Int32) => (((7 : Int32) < x4_5 → Q x3_5) ∧ (¬ (7 : Int32) < x4_5 → (((8 : Int32) ≤ x4_5 → Q x3_5) ∧ (¬ (8 : Int32) ≤ x4_5 → wp_X4_has p1 x4_5 (fun (r_22 : Int32) => ((r_22 = 0 → B_5 x3_5 (x4_5 + (1 : Int32))) ∧ (¬ r_22 = 0 → (vp_in x4_5 8 ∧ wp_X5_weight x4_5 p1 p2 (fun (r_37 : Int32) => wp_X5_times (f x4_5.toNatClampNeg) r_37 (fun (r_40 : Int32) => wp_X5_plus x3_5 r_40 (fun (r_43 : Int32) => B_5 r_43 (x4_5 + (1 : Int32)))))))))))))) (0 : Int32) (1 : Int32))
theorem hd_X5_weighed : yX5_weighed.cls ≠ "java/lang/invoke/MethodHandle" ∧ yX5_weighed.cls ≠ "java/lang/invoke/VarHandle" ∧ (parseMethodDescriptor yX5_weighed.desc).map (fun d => d.parameters.length) = some 3 := by decide +kernel
theorem hdv_X5_weighed : yX5_weighed.cls = RX5 ∧ yX5_weighed.cls ≠ "java/lang/invoke/MethodHandle" ∧ yX5_weighed.cls ≠ "java/lang/invoke/VarHandle" ∧ (parseMethodDescriptor yX5_weighed.desc).map (fun d => d.parameters.length) = some 3 := ⟨rfl, hd_X5_weighed⟩
set_option maxHeartbeats 4000000 in
set_option maxRecDepth 100000 in
theorem c_X5_weighed_14 (l : Launch) (D : va_G) (a : Nat → Nat) (cI cO : ClassId) (gI : Nat → Option Nat) (σ : k_M) (p1 p2 : Int32) (Q : Int32 → Prop) (h : wp_X5_weighed (σ 14) p1 p2 Q) : Met l yX5_weighed wsX5_weighed rm_X5_weighed (k_PR D [(cI, .int), (cO, .object "FreshShares$Circle")] (wC a cI cO gI) σ [.ref (a 14), .int p1, .int p2]) (vp_Si Q) 0 0 (fun _ => False) := by
  refine k_metR (by decide) rfl (Nat.le_of_ble_eq_true rfl) ?_
  intro Γ G E
  unfold wp_X5_weighed at h
  show k_J Γ rm_X5_weighed 5 true (wC a cI cO gI) 0 [(0, .ref (a 14)), (1, .int p1), (2, .int p2)] [] σ
  refine r_iconst G (0 : Int32) dX5_weighed_0 kc_0 ?_
  refine r_istore_n (lv' := [(3, .int (0 : Int32)), (0, .ref (a 14)), (1, .int p1), (2, .int p2)]) G dX5_weighed_1 rfl (by decide) rfl ?_
  refine r_iconst G (1 : Int32) dX5_weighed_2 kc_1 ?_
  refine r_istore (lv' := [(4, .int (1 : Int32)), (3, .int (0 : Int32)), (0, .ref (a 14)), (1, .int p1), (2, .int p2)]) G dX5_weighed_3 (by decide) rfl ?_
  obtain ⟨I_5, n_5, h, hI_5⟩ := h
  have key_5 : ∀ (n : Nat) (x3_5 : Int32) (x4_5 : Int32), I_5 n x3_5 x4_5 → k_J Γ rm_X5_weighed 5 true (wC a cI cO gI) 5 [(0, .ref (a 14)), (1, .int p1), (2, .int p2), (3, .int x3_5), (4, .int x4_5)] [] σ := by
    intro n
    induction n using Nat.strongRecOn with
    | ind n ih_5 =>
      intro x3_5 x4_5 h
      replace h := hI_5 n x3_5 x4_5 h
      refine r_iload G dX5_weighed_5 4 rfl ?_
      refine r_bipush G (7 : Int32) dX5_weighed_7 kb_7 ?_
      refine r_icmp_gt G 53 dX5_weighed_9 (by decide) (fun hc => ?_) (fun hc => ?_)
      · replace h := h.1 hc
        refine r_iload_n G dX5_weighed_53 3 rfl rfl ?_
        exact r_iretR G E dX5_weighed_54 h
      · replace h := h.2 hc
        refine r_iload G dX5_weighed_12 4 rfl ?_
        refine r_aload_n G dX5_weighed_14 0 rfl rfl ?_
        refine r_alen G 14 0 (8 : Int32) wC_14 rfl ka_8 dX5_weighed_15 ?_
        refine r_icmp_ge G 53 dX5_weighed_16 (by decide) (fun hc => ?_) (fun hc => ?_)
        · replace h := h.1 hc
          refine r_iload_n G dX5_weighed_53 3 rfl rfl ?_
          exact r_iretR G E dX5_weighed_54 h
        · replace h := h.2 hc
          refine r_iload_n G dX5_weighed_19 1 rfl rfl ?_
          refine r_iload G dX5_weighed_20 4 rfl ?_
          refine r_cSR G [.int p1, .int x4_5] [] (c_X4_has (k_l Γ) (k_D Γ) _ _ _ h) (va_cwS 2 G.2.2.2.2.1 gX5_weighed_X4_has rfl rfl rfl hd_X4_has ⟨Nat.le_of_ble_eq_true rfl, Nat.le_of_ble_eq_true rfl⟩) [] rfl (fun _ _ => k_E0) rfl rfl (Nat.le_of_ble_eq_true rfl) dX5_weighed_22 (fun r_22 h => ?_)
          have hz_22 := h.1
          replace h := h.2
          refine r_if_eq G 47 dX5_weighed_25 (by decide) (fun hc => ?_) (fun hc => ?_)
          · replace h := h.1 hc
            refine r_iinc (lv' := [(4, .int (x4_5 + (1 : Int32))), (0, .ref (a 14)), (1, .int p1), (2, .int p2), (3, .int x3_5)]) G 4 dX5_weighed_47 kc_1 rfl (by decide) rfl ?_
            refine r_goto G 5 dX5_weighed_50 (by decide) ?_
            obtain ⟨m_5, hm_5, h⟩ := h
            exact r_sub [1, 2, 3, 4, 0] rfl (ih_5 m_5 hm_5 _ _ h)
          · replace h := h.2 hc
            refine r_iload_n G dX5_weighed_28 3 rfl rfl ?_
            refine r_aload_n G dX5_weighed_29 0 rfl rfl ?_
            refine r_iload G dX5_weighed_30 4 rfl ?_
            refine r_iald G 14 0 wC_14 rfl h.1 dX5_weighed_32 ?_
            replace h := h.2
            refine r_iload G dX5_weighed_33 4 rfl ?_
            refine r_iload_n G dX5_weighed_35 1 rfl rfl ?_
            refine r_iload_n G dX5_weighed_36 2 rfl rfl ?_
            refine r_cSR G [.int x4_5, .int p1, .int p2] [.int ((σ 14) x4_5.toNatClampNeg), .int x3_5] (c_X5_weight (k_l Γ) (k_D Γ) _ _ _ _ h) (va_cwS 3 G.2.2.2.2.1 gX5_weighed_X5_weight rfl rfl rfl hd_X5_weight ⟨Nat.le_of_ble_eq_true rfl, Nat.le_of_ble_eq_true rfl⟩) [] rfl (fun _ _ => k_E0) rfl rfl (Nat.le_of_ble_eq_true rfl) dX5_weighed_37 (fun r_37 h => ?_)
            refine r_cSR G [.int ((σ 14) x4_5.toNatClampNeg), .int r_37] [.int x3_5] (c_X5_times (k_l Γ) (k_D Γ) _ _ _ h) (va_cwS 2 G.2.2.2.2.1 gX5_weighed_X5_times rfl rfl rfl hd_X5_times ⟨Nat.le_of_ble_eq_true rfl, Nat.le_of_ble_eq_true rfl⟩) [] rfl (fun _ _ => k_E0) rfl rfl (Nat.le_of_ble_eq_true rfl) dX5_weighed_40 (fun r_40 h => ?_)
            refine r_cSR G [.int x3_5, .int r_40] [] (c_X5_plus (k_l Γ) (k_D Γ) _ _ _ h) (va_cwS 2 G.2.2.2.2.1 gX5_weighed_X5_plus rfl rfl rfl hd_X5_plus ⟨Nat.le_of_ble_eq_true rfl, Nat.le_of_ble_eq_true rfl⟩) [] rfl (fun _ _ => k_E0) rfl rfl (Nat.le_of_ble_eq_true rfl) dX5_weighed_43 (fun r_43 h => ?_)
            refine r_istore_n (lv' := [(3, .int r_43), (0, .ref (a 14)), (1, .int p1), (2, .int p2), (4, .int x4_5)]) G dX5_weighed_46 rfl (by decide) rfl ?_
            refine r_iinc (lv' := [(4, .int (x4_5 + (1 : Int32))), (3, .int r_43), (0, .ref (a 14)), (1, .int p1), (2, .int p2)]) G 4 dX5_weighed_47 kc_1 rfl (by decide) rfl ?_
            refine r_goto G 5 dX5_weighed_50 (by decide) ?_
            obtain ⟨m_5, hm_5, h⟩ := h
            exact r_sub [2, 3, 4, 1, 0] rfl (ih_5 m_5 hm_5 _ _ h)
  exact r_sub [2, 3, 4, 1, 0] rfl (key_5 n_5 _ _ h)
