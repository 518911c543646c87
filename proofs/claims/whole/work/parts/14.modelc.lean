abbrev rm_X7_move : Room := { frames := 5, cells := 0, slots := 0, locals := 119 }
def wp_X7_move (σ : k_M) (p1 : Int32) (Q : Int32 → k_M → Prop) : Prop :=
  wp_X7_takenFor σ p1 (fun (r_2 : Int32) (σ_2 : k_M) => wp_X7_bits r_2 (fun (r_7 : Int32) => ((((σ_2 1) (88 : Int32).toNatClampNeg) ≤ r_7 → (k_lp2 (fun (B_25 : Int32 → k_M → Prop) (x3_25 : Int32) (σ_25 : k_M) => (((8 : Int32) ≤ x3_25 → (k_lp2 (fun (B_46 : Int32 → k_M → Prop) (x3_46 : Int32) (σ_46 : k_M) => ((p1 ≤ x3_46 → (k_lp2 (fun (B_66 : Int32 → k_M → Prop) (x3_66 : Int32) (σ_66 : k_M) => (((7 : Int32) < x3_66 → (k_lp2 (fun (B_192 : Int32 → k_M → Prop) (x3_192 : Int32) (σ_192 : k_M) => (((7 : Int32) < x3_192 → (k_lp2 (fun (B_237 : Int32 → k_M → Prop) (x3_237 : Int32) (σ_237 : k_M) => ((p1 ≤ x3_237 → wp_X7_nextEpoch (k_put σ_237 1 (88 : Int32).toNatClampNeg p1) (fun (σ_272 : k_M) => wp_X7_strike σ_272 (fun (σ_276 : k_M) => wp_X7_having σ_276 (fun (r_280 : Int32) => wp_X7_bits r_280 (fun (r_283 : Int32) => Q r_283 σ_276))))) ∧ (¬ p1 ≤ x3_237 → (vp_in x3_237 5 ∧ (vp_in ((90 : Int32) + x3_237) 371 ∧ B_237 (x3_237 + (1 : Int32)) (k_put σ_237 1 ((90 : Int32) + x3_237).toNatClampNeg ((σ_237 5) x3_237.toNatClampNeg))))))) (0 : Int32) σ_192)) ∧ (¬ (7 : Int32) < x3_192 → wp_X7_hasShare σ_192 x3_192 (fun (r_208 : Int32) => ((r_208 = 0 → (vp_in ((40 : Int32) + x3_192) 371 ∧ B_192 (x3_192 + (1 : Int32)) (k_put σ_192 1 ((40 : Int32) + x3_192).toNatClampNeg (-6 : Int32)))) ∧ (¬ r_208 = 0 → (vp_in x3_192 8 ∧ wp_X7_mod ((σ_192 4) x3_192.toNatClampNeg) (fun (r_220 : Int32) => (vp_in ((40 : Int32) + x3_192) 371 ∧ B_192 (x3_192 + (1 : Int32)) (k_put σ_192 1 ((40 : Int32) + x3_192).toNatClampNeg r_220)))))))))) (1 : Int32) σ_66)) ∧ (¬ (7 : Int32) < x3_66 → wp_X7_has r_2 x3_66 (fun (r_74 : Int32) => ((r_74 = 0 → B_66 (x3_66 + (1 : Int32)) σ_66) ∧ (¬ r_74 = 0 → wp_X7_weight x3_66 r_2 (0 : Int32) (fun (r_83 : Int32) => wp_X7_told σ_66 x3_66 (fun (r_92 : Int32) => wp_X7_layPoly σ_66 x3_66 r_92 p1 (fun (σ_96 : k_M) => (k_lp2 (fun (B_102 : Int32 → k_M → Prop) (x5_102 : Int32) (σ_102 : k_M) => (((7 : Int32) < x5_102 → (k_lp2 (fun (B_137 : Int32 → k_M → Prop) (x5_137 : Int32) (σ_137 : k_M) => ((p1 ≤ x5_137 → B_66 (x3_66 + (1 : Int32)) σ_137) ∧ (¬ p1 ≤ x5_137 → (vp_in x5_137 5 ∧ (vp_in x5_137 5 ∧ wp_X7_sealOf ((σ_137 3) x5_137.toNatClampNeg) (fun (r_163 : Int32) => wp_X7_power r_163 r_83 (47 : Int32) (fun (r_170 : Int32) => (vp_in x5_137 5 ∧ B_137 (x5_137 + (1 : Int32)) (k_put σ_137 5 x5_137.toNatClampNeg (k_rem (((σ_137 5) x5_137.toNatClampNeg) * r_170) (47 : Int32))))))))))) (0 : Int32) σ_102)) ∧ (¬ (7 : Int32) < x5_102 → (vp_in x5_102 8 ∧ wp_X7_polyAt σ_102 x5_102 (fun (r_120 : Int32) => (vp_in x5_102 8 ∧ B_102 (x5_102 + (1 : Int32)) (k_put σ_102 4 x5_102.toNatClampNeg (((σ_102 4) x5_102.toNatClampNeg) + (r_120 * r_83))))))))) (1 : Int32) σ_96)))))))))) (1 : Int32) σ_46)) ∧ (¬ p1 ≤ x3_46 → (vp_in x3_46 5 ∧ B_46 (x3_46 + (1 : Int32)) (k_put σ_46 5 x3_46.toNatClampNeg (1 : Int32)))))) (0 : Int32) σ_25)) ∧ (¬ (8 : Int32) ≤ x3_25 → (vp_in x3_25 8 ∧ B_25 (x3_25 + (1 : Int32)) (k_put σ_25 4 x3_25.toNatClampNeg (0 : Int32)))))) (0 : Int32) σ_2)) ∧ (¬ ((σ_2 1) (88 : Int32).toNatClampNeg) ≤ r_7 → Q (-5 : Int32) σ_2))))
theorem hd_X7_move : yX7_move.cls ≠ "java/lang/invoke/MethodHandle" ∧ yX7_move.cls ≠ "java/lang/invoke/VarHandle" ∧ (parseMethodDescriptor yX7_move.desc).map (fun d => d.parameters.length) = some 1 := by decide +kernel
theorem hdv_X7_move : yX7_move.cls = RX7 ∧ yX7_move.cls ≠ "java/lang/invoke/MethodHandle" ∧ yX7_move.cls ≠ "java/lang/invoke/VarHandle" ∧ (parseMethodDescriptor yX7_move.desc).map (fun d => d.parameters.length) = some 1 := ⟨rfl, hd_X7_move⟩
set_option maxHeartbeats 4000000 in
set_option maxRecDepth 100000 in
theorem c_X7_move (l : Launch) (D : va_G) (a : Nat → Nat) (cI cZ : ClassId) (σ : k_M) (p1 : Int32) (Q : Int32 → k_M → Prop) (h : wp_X7_move σ p1 Q) : Met l yX7_move wsX7_move rm_X7_move (k_PW D [(cI, .int), (cZ, .boolean)] (wM a cI cZ) σ [.ref (a 0), .int p1]) (k_Qi D (wM a cI cZ) Q) 0 0 (k_wA (wM a cI cZ)) := by
  refine k_metW (Qc := fun D => k_Qi D (wM a cI cZ) Q) (by decide) rfl (Nat.le_of_ble_eq_true rfl) ?_
  intro Γ G hD E
  unfold wp_X7_move at h
  have inX7 : ∀ w ∈ wsX70, w ∈ wsX7_move := by decide +kernel
  have lk_7 := G.2.2.2.2.1 (.fieldLink RX7 7 "FreshSharesModel" "state" "[I") (by decide +kernel)
  have lk_16 := G.2.2.2.2.1 (.fieldLink RX7 16 "FreshSharesModel" "poly" "[I") (by decide +kernel)
  have lk_19 := G.2.2.2.2.1 (.fieldLink RX7 19 "FreshSharesModel" "added" "[I") (by decide +kernel)
  have lk_22 := G.2.2.2.2.1 (.fieldLink RX7 22 "FreshSharesModel" "sealed" "[I") (by decide +kernel)
  show k_J Γ rm_X7_move 6 false (wM a cI cZ) 0 [(0, .ref (a 0)), (1, .int p1)] [] σ
  refine r_aload_n G dX7_move_0 0 rfl rfl ?_
  refine r_iload_n G dX7_move_1 1 rfl rfl ?_
  refine r_cVWi G hD (ci := 5) (cq := (RX7, TX7, 9)) [.int p1] [] (c_X7_takenFor (k_l Γ) (k_D Γ) a cI cZ _ _ _ h) 0 rfl wM_0 (cwV 1 G.2.2.2.2.1 gX7_move_X7_takenFor rfl rfl rfl hdv_X7_takenFor ⟨Nat.le_of_ble_eq_true rfl, Nat.le_of_ble_eq_true rfl⟩) [0, 1] rfl rfl rfl (Nat.le_of_ble_eq_true rfl) dX7_move_2 (fun r_2 σ_2 h => ?_)
  refine r_istore_n (lv' := [(2, .int r_2), (0, .ref (a 0)), (1, .int p1)]) G dX7_move_5 rfl (by decide) rfl ?_
  refine r_iload_n G dX7_move_6 0 rfl rfl ?_
  refine r_cSR G [.int r_2] [] (c_X7_bits (k_l Γ) (k_D Γ) _ _ h) (va_cwS 1 G.2.2.2.2.1 gX7_move_X7_bits rfl rfl rfl hd_X7_bits ⟨Nat.le_of_ble_eq_true rfl, Nat.le_of_ble_eq_true rfl⟩) [] rfl (fun _ _ => k_E0) rfl rfl (Nat.le_of_ble_eq_true rfl) dX7_move_7 (fun r_7 h => ?_)
  refine r_aload_n G dX7_move_10 1 rfl rfl ?_
  refine r_get G inX7 0 0 wM_0 rfl (by decide) lk_7 rfl rfl dX7_move_11 ?_
  refine r_bipush G (88 : Int32) dX7_move_14 kb_88 ?_
  refine r_iald G 1 0 wM_1 rfl (by unfold vp_in; decide) dX7_move_16 ?_
  refine r_icmp_ge G 23 dX7_move_17 (by decide) (fun hc => ?_) (fun hc => ?_)
  · replace h := h.1 hc
    refine r_iconst G (0 : Int32) dX7_move_23 kc_0 ?_
    refine r_istore_n (lv' := [(3, .int (0 : Int32)), (2, .int r_2), (0, .ref (a 0)), (1, .int p1)]) G dX7_move_24 rfl (by decide) rfl ?_
    obtain ⟨I_25, n_25, h, hI_25⟩ := h
    have key_25 : ∀ (n : Nat) (x3_25 : Int32) (σ_25 : k_M), I_25 n x3_25 σ_25 → k_J Γ rm_X7_move 6 false (wM a cI cZ) 25 [(0, .ref (a 0)), (1, .int p1), (2, .int r_2), (3, .int x3_25)] [] σ_25 := by
      intro n
      induction n using Nat.strongRecOn with
      | ind n ih_25 =>
        intro x3_25 σ_25 h
        replace h := hI_25 n x3_25 σ_25 h
        refine r_iload_n G dX7_move_25 3 rfl rfl ?_
        refine r_bipush G (8 : Int32) dX7_move_26 kb_8 ?_
        refine r_icmp_ge G 44 dX7_move_28 (by decide) (fun hc => ?_) (fun hc => ?_)
        · replace h := h.1 hc
          refine r_iconst G (0 : Int32) dX7_move_44 kc_0 ?_
          refine r_istore_n (lv' := [(3, .int (0 : Int32)), (0, .ref (a 0)), (1, .int p1), (2, .int r_2)]) G dX7_move_45 rfl (by decide) rfl ?_
          obtain ⟨I_46, n_46, h, hI_46⟩ := h
          have key_46 : ∀ (n : Nat) (x3_46 : Int32) (σ_46 : k_M), I_46 n x3_46 σ_46 → k_J Γ rm_X7_move 6 false (wM a cI cZ) 46 [(0, .ref (a 0)), (1, .int p1), (2, .int r_2), (3, .int x3_46)] [] σ_46 := by
            intro n
            induction n using Nat.strongRecOn with
            | ind n ih_46 =>
              intro x3_46 σ_46 h
              replace h := hI_46 n x3_46 σ_46 h
              refine r_iload_n G dX7_move_46 3 rfl rfl ?_
              refine r_iload_n G dX7_move_47 1 rfl rfl ?_
              refine r_icmp_ge G 64 dX7_move_48 (by decide) (fun hc => ?_) (fun hc => ?_)
              · replace h := h.1 hc
                refine r_iconst G (1 : Int32) dX7_move_64 kc_1 ?_
                refine r_istore_n (lv' := [(3, .int (1 : Int32)), (0, .ref (a 0)), (1, .int p1), (2, .int r_2)]) G dX7_move_65 rfl (by decide) rfl ?_
                obtain ⟨I_66, n_66, h, hI_66⟩ := h
                have key_66 : ∀ (n : Nat) (x3_66 : Int32) (σ_66 : k_M), I_66 n x3_66 σ_66 → k_J Γ rm_X7_move 6 false (wM a cI cZ) 66 [(0, .ref (a 0)), (1, .int p1), (2, .int r_2), (3, .int x3_66)] [] σ_66 := by
                  intro n
                  induction n using Nat.strongRecOn with
                  | ind n ih_66 =>
                    intro x3_66 σ_66 h
                    replace h := hI_66 n x3_66 σ_66 h
                    refine r_iload_n G dX7_move_66 3 rfl rfl ?_
                    refine r_bipush G (7 : Int32) dX7_move_67 kb_7 ?_
                    refine r_icmp_gt G 190 dX7_move_69 (by decide) (fun hc => ?_) (fun hc => ?_)
                    · replace h := h.1 hc
                      refine r_iconst G (1 : Int32) dX7_move_190 kc_1 ?_
                      refine r_istore_n (lv' := [(3, .int (1 : Int32)), (0, .ref (a 0)), (1, .int p1), (2, .int r_2)]) G dX7_move_191 rfl (by decide) rfl ?_
                      obtain ⟨I_192, n_192, h, hI_192⟩ := h
                      have key_192 : ∀ (n : Nat) (x3_192 : Int32) (σ_192 : k_M), I_192 n x3_192 σ_192 → k_J Γ rm_X7_move 6 false (wM a cI cZ) 192 [(0, .ref (a 0)), (1, .int p1), (3, .int x3_192)] [] σ_192 := by
                        intro n
                        induction n using Nat.strongRecOn with
                        | ind n ih_192 =>
                          intro x3_192 σ_192 h
                          replace h := hI_192 n x3_192 σ_192 h
                          refine r_iload_n G dX7_move_192 2 rfl rfl ?_
                          refine r_bipush G (7 : Int32) dX7_move_193 kb_7 ?_
                          refine r_icmp_gt G 235 dX7_move_195 (by decide) (fun hc => ?_) (fun hc => ?_)
                          · replace h := h.1 hc
                            refine r_iconst G (0 : Int32) dX7_move_235 kc_0 ?_
                            refine r_istore_n (lv' := [(3, .int (0 : Int32)), (0, .ref (a 0)), (1, .int p1)]) G dX7_move_236 rfl (by decide) rfl ?_
                            obtain ⟨I_237, n_237, h, hI_237⟩ := h
                            have key_237 : ∀ (n : Nat) (x3_237 : Int32) (σ_237 : k_M), I_237 n x3_237 σ_237 → k_J Γ rm_X7_move 6 false (wM a cI cZ) 237 [(0, .ref (a 0)), (1, .int p1), (3, .int x3_237)] [] σ_237 := by
                              intro n
                              induction n using Nat.strongRecOn with
                              | ind n ih_237 =>
                                intro x3_237 σ_237 h
                                replace h := hI_237 n x3_237 σ_237 h
                                refine r_iload_n G dX7_move_237 2 rfl rfl ?_
                                refine r_iload_n G dX7_move_238 1 rfl rfl ?_
                                refine r_icmp_ge G 263 dX7_move_239 (by decide) (fun hc => ?_) (fun hc => ?_)
                                · replace h := h.1 hc
                                  refine r_aload_n G dX7_move_263 0 rfl rfl ?_
                                  refine r_get G inX7 0 0 wM_0 rfl (by decide) lk_7 rfl rfl dX7_move_264 ?_
                                  refine r_bipush G (88 : Int32) dX7_move_267 kb_88 ?_
                                  refine r_iload_n G dX7_move_269 1 rfl rfl ?_
                                  refine r_iast G hD 1 0 wM_1 rfl (by unfold vp_in; decide) _ wM_1_s dX7_move_270 ?_
                                  refine r_aload_n G dX7_move_271 0 rfl rfl ?_
                                  refine r_cVWv G hD (ci := 5) (cq := (RX7, TX7, 9)) [] [] (c_X7_nextEpoch (k_l Γ) (k_D Γ) a cI cZ _ _ h) 0 rfl wM_0 (cwV 0 G.2.2.2.2.1 gX7_move_X7_nextEpoch rfl rfl rfl hdv_X7_nextEpoch ⟨Nat.le_of_ble_eq_true rfl, Nat.le_of_ble_eq_true rfl⟩) [0, 1] rfl rfl rfl (Nat.le_of_ble_eq_true rfl) dX7_move_272 (fun σ_272 h => ?_)
                                  refine r_aload_n G dX7_move_275 0 rfl rfl ?_
                                  refine r_cVWv G hD (ci := 5) (cq := (RX7, TX7, 9)) [] [] (c_X7_strike (k_l Γ) (k_D Γ) a cI cZ _ _ h) 0 rfl wM_0 (cwV 0 G.2.2.2.2.1 gX7_move_X7_strike rfl rfl rfl hdv_X7_strike ⟨Nat.le_of_ble_eq_true rfl, Nat.le_of_ble_eq_true rfl⟩) [0, 1] rfl rfl rfl (Nat.le_of_ble_eq_true rfl) dX7_move_276 (fun σ_276 h => ?_)
                                  refine r_aload_n G dX7_move_279 0 rfl rfl ?_
                                  refine r_cVR G (ci := 5) (cq := (RX7, TX7, 9)) [] [] (c_X7_having (k_l Γ) (k_D Γ) a cI cZ _ _ h) 0 rfl wM_0 (cwV 0 G.2.2.2.2.1 gX7_move_X7_having rfl rfl rfl hdv_X7_having ⟨Nat.le_of_ble_eq_true rfl, Nat.le_of_ble_eq_true rfl⟩) [0, 1] rfl (fun _ hP => hP) rfl rfl (Nat.le_of_ble_eq_true rfl) dX7_move_280 (fun r_280 h => ?_)
                                  refine r_cSR G [.int r_280] [] (c_X7_bits (k_l Γ) (k_D Γ) _ _ h) (va_cwS 1 G.2.2.2.2.1 gX7_move_X7_bits rfl rfl rfl hd_X7_bits ⟨Nat.le_of_ble_eq_true rfl, Nat.le_of_ble_eq_true rfl⟩) [] rfl (fun _ _ => k_E0) rfl rfl (Nat.le_of_ble_eq_true rfl) dX7_move_283 (fun r_283 h => ?_)
                                  exact r_iretW G E dX7_move_286 h
                                · replace h := h.2 hc
                                  refine r_aload_n G dX7_move_242 0 rfl rfl ?_
                                  refine r_get G inX7 0 0 wM_0 rfl (by decide) lk_7 rfl rfl dX7_move_243 ?_
                                  refine r_bipush G (90 : Int32) dX7_move_246 kb_90 ?_
                                  refine r_iload_n G dX7_move_248 2 rfl rfl ?_
                                  refine r_iadd G dX7_move_249 ?_
                                  refine r_aload_n G dX7_move_250 0 rfl rfl ?_
                                  refine r_get G inX7 0 6 wM_0 rfl (by decide) lk_22 rfl rfl dX7_move_251 ?_
                                  refine r_iload_n G dX7_move_254 2 rfl rfl ?_
                                  refine r_iald G 5 0 wM_5 rfl h.1 dX7_move_255 ?_
                                  replace h := h.2
                                  refine r_iast G hD 1 0 wM_1 rfl h.1 _ wM_1_s dX7_move_256 ?_
                                  replace h := h.2
                                  refine r_iinc (lv' := [(3, .int (x3_237 + (1 : Int32))), (0, .ref (a 0)), (1, .int p1)]) G 2 dX7_move_257 kc_1 rfl (by decide) rfl ?_
                                  refine r_goto G 237 dX7_move_260 (by decide) ?_
                                  obtain ⟨m_237, hm_237, h⟩ := h
                                  exact r_sub [1, 2, 0] rfl (ih_237 m_237 hm_237 _ _ h)
                            exact r_sub [1, 2, 0] rfl (key_237 n_237 _ _ h)
                          · replace h := h.2 hc
                            refine r_aload_n G dX7_move_198 0 rfl rfl ?_
                            refine r_get G inX7 0 0 wM_0 rfl (by decide) lk_7 rfl rfl dX7_move_199 ?_
                            refine r_bipush G (40 : Int32) dX7_move_202 kb_40 ?_
                            refine r_iload_n G dX7_move_204 2 rfl rfl ?_
                            refine r_iadd G dX7_move_205 ?_
                            refine r_aload_n G dX7_move_206 0 rfl rfl ?_
                            refine r_iload_n G dX7_move_207 2 rfl rfl ?_
                            refine r_cVR G (ci := 5) (cq := (RX7, TX7, 9)) [.int x3_192] [.int ((40 : Int32) + x3_192), .ref (a 1)] (c_X7_hasShare (k_l Γ) (k_D Γ) a cI cZ _ _ _ h) 0 rfl wM_0 (cwV 1 G.2.2.2.2.1 gX7_move_X7_hasShare rfl rfl rfl hdv_X7_hasShare ⟨Nat.le_of_ble_eq_true rfl, Nat.le_of_ble_eq_true rfl⟩) [0, 1] rfl (fun _ hP => hP) rfl rfl (Nat.le_of_ble_eq_true rfl) dX7_move_208 (fun r_208 h => ?_)
                            have hz_208 := h.1
                            replace h := h.2
                            refine r_if_eq G 226 dX7_move_211 (by decide) (fun hc => ?_) (fun hc => ?_)
                            · replace h := h.1 hc
                              refine r_bipush G (-6 : Int32) dX7_move_226 kb_m6 ?_
                              refine r_iast G hD 1 0 wM_1 rfl h.1 _ wM_1_s dX7_move_228 ?_
                              replace h := h.2
                              refine r_iinc (lv' := [(3, .int (x3_192 + (1 : Int32))), (0, .ref (a 0)), (1, .int p1)]) G 2 dX7_move_229 kc_1 rfl (by decide) rfl ?_
                              refine r_goto G 192 dX7_move_232 (by decide) ?_
                              obtain ⟨m_192, hm_192, h⟩ := h
                              exact r_sub [1, 2, 0] rfl (ih_192 m_192 hm_192 _ _ h)
                            · replace h := h.2 hc
                              refine r_aload_n G dX7_move_214 0 rfl rfl ?_
                              refine r_get G inX7 0 5 wM_0 rfl (by decide) lk_19 rfl rfl dX7_move_215 ?_
                              refine r_iload_n G dX7_move_218 2 rfl rfl ?_
                              refine r_iald G 4 0 wM_4 rfl h.1 dX7_move_219 ?_
                              replace h := h.2
                              refine r_cSR G [.int ((σ_192 4) x3_192.toNatClampNeg)] [.int ((40 : Int32) + x3_192), .ref (a 1)] (c_X7_mod (k_l Γ) (k_D Γ) _ _ h) (va_cwS 1 G.2.2.2.2.1 gX7_move_X7_mod rfl rfl rfl hd_X7_mod ⟨Nat.le_of_ble_eq_true rfl, Nat.le_of_ble_eq_true rfl⟩) [] rfl (fun _ _ => k_E0) rfl rfl (Nat.le_of_ble_eq_true rfl) dX7_move_220 (fun r_220 h => ?_)
                              refine r_goto G 228 dX7_move_223 (by decide) ?_
                              refine r_iast G hD 1 0 wM_1 rfl h.1 _ wM_1_s dX7_move_228 ?_
                              replace h := h.2
                              refine r_iinc (lv' := [(3, .int (x3_192 + (1 : Int32))), (0, .ref (a 0)), (1, .int p1)]) G 2 dX7_move_229 kc_1 rfl (by decide) rfl ?_
                              refine r_goto G 192 dX7_move_232 (by decide) ?_
                              obtain ⟨m_192, hm_192, h⟩ := h
                              exact r_sub [1, 2, 0] rfl (ih_192 m_192 hm_192 _ _ h)
                      exact r_sub [1, 2, 0] rfl (key_192 n_192 _ _ h)
                    · replace h := h.2 hc
                      refine r_iload_n G dX7_move_72 2 rfl rfl ?_
                      refine r_iload_n G dX7_move_73 3 rfl rfl ?_
                      refine r_cSR G [.int r_2, .int x3_66] [] (c_X7_has (k_l Γ) (k_D Γ) _ _ _ h) (va_cwS 2 G.2.2.2.2.1 gX7_move_X7_has rfl rfl rfl hd_X7_has ⟨Nat.le_of_ble_eq_true rfl, Nat.le_of_ble_eq_true rfl⟩) [] rfl (fun _ _ => k_E0) rfl rfl (Nat.le_of_ble_eq_true rfl) dX7_move_74 (fun r_74 h => ?_)
                      have hz_74 := h.1
                      replace h := h.2
                      refine r_if_eq G 184 dX7_move_77 (by decide) (fun hc => ?_) (fun hc => ?_)
                      · replace h := h.1 hc
                        refine r_iinc (lv' := [(3, .int (x3_66 + (1 : Int32))), (0, .ref (a 0)), (1, .int p1), (2, .int r_2)]) G 3 dX7_move_184 kc_1 rfl (by decide) rfl ?_
                        refine r_goto G 66 dX7_move_187 (by decide) ?_
                        obtain ⟨m_66, hm_66, h⟩ := h
                        exact r_sub [1, 2, 3, 0] rfl (ih_66 m_66 hm_66 _ _ h)
                      · replace h := h.2 hc
                        refine r_iload_n G dX7_move_80 3 rfl rfl ?_
                        refine r_iload_n G dX7_move_81 2 rfl rfl ?_
                        refine r_iconst G (0 : Int32) dX7_move_82 kc_0 ?_
                        refine r_cSR G [.int x3_66, .int r_2, .int (0 : Int32)] [] (c_X7_weight (k_l Γ) (k_D Γ) _ _ _ _ h) (va_cwS 3 G.2.2.2.2.1 gX7_move_X7_weight rfl rfl rfl hd_X7_weight ⟨Nat.le_of_ble_eq_true rfl, Nat.le_of_ble_eq_true rfl⟩) [] rfl (fun _ _ => k_E0) rfl rfl (Nat.le_of_ble_eq_true rfl) dX7_move_83 (fun r_83 h => ?_)
                        refine r_istore (lv' := [(4, .int r_83), (0, .ref (a 0)), (1, .int p1), (2, .int r_2), (3, .int x3_66)]) G dX7_move_86 (by decide) rfl ?_
                        refine r_aload_n G dX7_move_88 1 rfl rfl ?_
                        refine r_iload_n G dX7_move_89 4 rfl rfl ?_
                        refine r_aload_n G dX7_move_90 1 rfl rfl ?_
                        refine r_iload_n G dX7_move_91 4 rfl rfl ?_
                        refine r_cVR G (ci := 5) (cq := (RX7, TX7, 9)) [.int x3_66] [.int x3_66, .ref (a 0)] (c_X7_told (k_l Γ) (k_D Γ) a cI cZ _ _ _ h) 0 rfl wM_0 (cwV 1 G.2.2.2.2.1 gX7_move_X7_told rfl rfl rfl hdv_X7_told ⟨Nat.le_of_ble_eq_true rfl, Nat.le_of_ble_eq_true rfl⟩) [0, 1] rfl (fun _ hP => hP) rfl rfl (Nat.le_of_ble_eq_true rfl) dX7_move_92 (fun r_92 h => ?_)
                        refine r_iload_n G dX7_move_95 2 rfl rfl ?_
                        refine r_cVWv G hD (ci := 5) (cq := (RX7, TX7, 9)) [.int x3_66, .int r_92, .int p1] [] (c_X7_layPoly (k_l Γ) (k_D Γ) a cI cZ _ _ _ _ _ h) 0 rfl wM_0 (cwV 3 G.2.2.2.2.1 gX7_move_X7_layPoly rfl rfl rfl hdv_X7_layPoly ⟨Nat.le_of_ble_eq_true rfl, Nat.le_of_ble_eq_true rfl⟩) [0, 1] rfl rfl rfl (Nat.le_of_ble_eq_true rfl) dX7_move_96 (fun σ_96 h => ?_)
                        refine r_iconst G (1 : Int32) dX7_move_99 kc_1 ?_
                        refine r_istore (lv' := [(5, .int (1 : Int32)), (4, .int r_83), (0, .ref (a 0)), (1, .int p1), (2, .int r_2), (3, .int x3_66)]) G dX7_move_100 (by decide) rfl ?_
                        obtain ⟨I_102, n_102, h, hI_102⟩ := h
                        have key_102 : ∀ (n : Nat) (x5_102 : Int32) (σ_102 : k_M), I_102 n x5_102 σ_102 → k_J Γ rm_X7_move 6 false (wM a cI cZ) 102 [(0, .ref (a 0)), (1, .int p1), (2, .int r_2), (3, .int x3_66), (4, .int r_83), (5, .int x5_102)] [] σ_102 := by
                          intro n
                          induction n using Nat.strongRecOn with
                          | ind n ih_102 =>
                            intro x5_102 σ_102 h
                            replace h := hI_102 n x5_102 σ_102 h
                            refine r_iload G dX7_move_102 5 rfl ?_
                            refine r_bipush G (7 : Int32) dX7_move_104 kb_7 ?_
                            refine r_icmp_gt G 134 dX7_move_106 (by decide) (fun hc => ?_) (fun hc => ?_)
                            · replace h := h.1 hc
                              refine r_iconst G (0 : Int32) dX7_move_134 kc_0 ?_
                              refine r_istore (lv' := [(5, .int (0 : Int32)), (0, .ref (a 0)), (1, .int p1), (2, .int r_2), (3, .int x3_66), (4, .int r_83)]) G dX7_move_135 (by decide) rfl ?_
                              obtain ⟨I_137, n_137, h, hI_137⟩ := h
                              have key_137 : ∀ (n : Nat) (x5_137 : Int32) (σ_137 : k_M), I_137 n x5_137 σ_137 → k_J Γ rm_X7_move 6 false (wM a cI cZ) 137 [(0, .ref (a 0)), (1, .int p1), (2, .int r_2), (3, .int x3_66), (4, .int r_83), (5, .int x5_137)] [] σ_137 := by
                                intro n
                                induction n using Nat.strongRecOn with
                                | ind n ih_137 =>
                                  intro x5_137 σ_137 h
                                  replace h := hI_137 n x5_137 σ_137 h
                                  refine r_iload G dX7_move_137 5 rfl ?_
                                  refine r_iload_n G dX7_move_139 1 rfl rfl ?_
                                  refine r_icmp_ge G 184 dX7_move_140 (by decide) (fun hc => ?_) (fun hc => ?_)
                                  · replace h := h.1 hc
                                    refine r_iinc (lv' := [(3, .int (x3_66 + (1 : Int32))), (0, .ref (a 0)), (1, .int p1), (2, .int r_2), (4, .int r_83), (5, .int x5_137)]) G 3 dX7_move_184 kc_1 rfl (by decide) rfl ?_
                                    refine r_goto G 66 dX7_move_187 (by decide) ?_
                                    obtain ⟨m_66, hm_66, h⟩ := h
                                    exact r_sub [1, 2, 3, 0] rfl (ih_66 m_66 hm_66 _ _ h)
                                  · replace h := h.2 hc
                                    refine r_aload_n G dX7_move_143 0 rfl rfl ?_
                                    refine r_get G inX7 0 6 wM_0 rfl (by decide) lk_22 rfl rfl dX7_move_144 ?_
                                    refine r_iload G dX7_move_147 5 rfl ?_
                                    refine r_aload_n G dX7_move_149 0 rfl rfl ?_
                                    refine r_get G inX7 0 6 wM_0 rfl (by decide) lk_22 rfl rfl dX7_move_150 ?_
                                    refine r_iload G dX7_move_153 5 rfl ?_
                                    refine r_iald G 5 0 wM_5 rfl h.1 dX7_move_155 ?_
                                    replace h := h.2
                                    refine r_aload_n G dX7_move_156 0 rfl rfl ?_
                                    refine r_get G inX7 0 3 wM_0 rfl (by decide) lk_16 rfl rfl dX7_move_157 ?_
                                    refine r_iload G dX7_move_160 5 rfl ?_
                                    refine r_iald G 3 0 wM_3 rfl h.1 dX7_move_162 ?_
                                    replace h := h.2
                                    refine r_cSR G [.int ((σ_137 3) x5_137.toNatClampNeg)] [.int ((σ_137 5) x5_137.toNatClampNeg), .int x5_137, .ref (a 5)] (c_X7_sealOf (k_l Γ) (k_D Γ) _ _ h) (va_cwS 1 G.2.2.2.2.1 gX7_move_X7_sealOf rfl rfl rfl hd_X7_sealOf ⟨Nat.le_of_ble_eq_true rfl, Nat.le_of_ble_eq_true rfl⟩) [] rfl (fun _ _ => k_E0) rfl rfl (Nat.le_of_ble_eq_true rfl) dX7_move_163 (fun r_163 h => ?_)
                                    refine r_iload G dX7_move_166 4 rfl ?_
                                    refine r_bipush G (47 : Int32) dX7_move_168 kb_47 ?_
                                    refine r_cSR G [.int r_163, .int r_83, .int (47 : Int32)] [.int ((σ_137 5) x5_137.toNatClampNeg), .int x5_137, .ref (a 5)] (c_X7_power (k_l Γ) (k_D Γ) _ _ _ _ h) (va_cwS 3 G.2.2.2.2.1 gX7_move_X7_power rfl rfl rfl hd_X7_power ⟨Nat.le_of_ble_eq_true rfl, Nat.le_of_ble_eq_true rfl⟩) [] rfl (fun _ _ => k_E0) rfl rfl (Nat.le_of_ble_eq_true rfl) dX7_move_170 (fun r_170 h => ?_)
                                    refine r_imul G dX7_move_173 ?_
                                    refine r_bipush G (47 : Int32) dX7_move_174 kb_47 ?_
                                    refine r_irem G kne_47 dX7_move_176 ?_
                                    refine r_iast G hD 5 0 wM_5 rfl h.1 _ wM_5_s dX7_move_177 ?_
                                    replace h := h.2
                                    refine r_iinc (lv' := [(5, .int (x5_137 + (1 : Int32))), (0, .ref (a 0)), (1, .int p1), (2, .int r_2), (3, .int x3_66), (4, .int r_83)]) G 5 dX7_move_178 kc_1 rfl (by decide) rfl ?_
                                    refine r_goto G 137 dX7_move_181 (by decide) ?_
                                    obtain ⟨m_137, hm_137, h⟩ := h
                                    exact r_sub [1, 2, 3, 4, 5, 0] rfl (ih_137 m_137 hm_137 _ _ h)
                              exact r_sub [1, 2, 3, 4, 5, 0] rfl (key_137 n_137 _ _ h)
                            · replace h := h.2 hc
                              refine r_aload_n G dX7_move_109 0 rfl rfl ?_
                              refine r_get G inX7 0 5 wM_0 rfl (by decide) lk_19 rfl rfl dX7_move_110 ?_
                              refine r_iload G dX7_move_113 5 rfl ?_
                              refine r_dup2 G rfl rfl dX7_move_115 ?_
                              refine r_iald G 4 0 wM_4 rfl h.1 dX7_move_116 ?_
                              replace h := h.2
                              refine r_aload_n G dX7_move_117 0 rfl rfl ?_
                              refine r_iload G dX7_move_118 5 rfl ?_
                              refine r_cVR G (ci := 5) (cq := (RX7, TX7, 9)) [.int x5_102] [.int ((σ_102 4) x5_102.toNatClampNeg), .int x5_102, .ref (a 4)] (c_X7_polyAt (k_l Γ) (k_D Γ) a cI cZ _ _ _ h) 0 rfl wM_0 (cwV 1 G.2.2.2.2.1 gX7_move_X7_polyAt rfl rfl rfl hdv_X7_polyAt ⟨Nat.le_of_ble_eq_true rfl, Nat.le_of_ble_eq_true rfl⟩) [0, 1] rfl (fun _ hP => hP) rfl rfl (Nat.le_of_ble_eq_true rfl) dX7_move_120 (fun r_120 h => ?_)
                              refine r_iload G dX7_move_123 4 rfl ?_
                              refine r_imul G dX7_move_125 ?_
                              refine r_iadd G dX7_move_126 ?_
                              refine r_iast G hD 4 0 wM_4 rfl h.1 _ wM_4_s dX7_move_127 ?_
                              replace h := h.2
                              refine r_iinc (lv' := [(5, .int (x5_102 + (1 : Int32))), (0, .ref (a 0)), (1, .int p1), (2, .int r_2), (3, .int x3_66), (4, .int r_83)]) G 5 dX7_move_128 kc_1 rfl (by decide) rfl ?_
                              refine r_goto G 102 dX7_move_131 (by decide) ?_
                              obtain ⟨m_102, hm_102, h⟩ := h
                              exact r_sub [1, 2, 3, 4, 5, 0] rfl (ih_102 m_102 hm_102 _ _ h)
                        exact r_sub [2, 3, 4, 5, 1, 0] rfl (key_102 n_102 _ _ h)
                exact r_sub [1, 2, 3, 0] rfl (key_66 n_66 _ _ h)
              · replace h := h.2 hc
                refine r_aload_n G dX7_move_51 0 rfl rfl ?_
                refine r_get G inX7 0 6 wM_0 rfl (by decide) lk_22 rfl rfl dX7_move_52 ?_
                refine r_iload_n G dX7_move_55 3 rfl rfl ?_
                refine r_iconst G (1 : Int32) dX7_move_56 kc_1 ?_
                refine r_iast G hD 5 0 wM_5 rfl h.1 _ wM_5_s dX7_move_57 ?_
                replace h := h.2
                refine r_iinc (lv' := [(3, .int (x3_46 + (1 : Int32))), (0, .ref (a 0)), (1, .int p1), (2, .int r_2)]) G 3 dX7_move_58 kc_1 rfl (by decide) rfl ?_
                refine r_goto G 46 dX7_move_61 (by decide) ?_
                obtain ⟨m_46, hm_46, h⟩ := h
                exact r_sub [1, 2, 3, 0] rfl (ih_46 m_46 hm_46 _ _ h)
          exact r_sub [1, 2, 3, 0] rfl (key_46 n_46 _ _ h)
        · replace h := h.2 hc
          refine r_aload_n G dX7_move_31 0 rfl rfl ?_
          refine r_get G inX7 0 5 wM_0 rfl (by decide) lk_19 rfl rfl dX7_move_32 ?_
          refine r_iload_n G dX7_move_35 3 rfl rfl ?_
          refine r_iconst G (0 : Int32) dX7_move_36 kc_0 ?_
          refine r_iast G hD 4 0 wM_4 rfl h.1 _ wM_4_s dX7_move_37 ?_
          replace h := h.2
          refine r_iinc (lv' := [(3, .int (x3_25 + (1 : Int32))), (0, .ref (a 0)), (1, .int p1), (2, .int r_2)]) G 3 dX7_move_38 kc_1 rfl (by decide) rfl ?_
          refine r_goto G 25 dX7_move_41 (by decide) ?_
          obtain ⟨m_25, hm_25, h⟩ := h
          exact r_sub [1, 2, 3, 0] rfl (ih_25 m_25 hm_25 _ _ h)
    exact r_sub [2, 3, 1, 0] rfl (key_25 n_25 _ _ h)
  · replace h := h.2 hc
    refine r_bipush G (-5 : Int32) dX7_move_20 kb_m5 ?_
    exact r_iretW G E dX7_move_22 h
abbrev rm_X7_done : Room := { frames := 6, cells := 0, slots := 0, locals := 144 }
def wp_X7_done (σ : k_M) (p1 : Int32) (Q : Int32 → k_M → Prop) : Prop :=
  ((p1 = (98 : Int32) → wp_X7_rebuild σ (fun (r_86 : Int32) (σ_86 : k_M) => Q r_86 σ_86)) ∧ (¬ p1 = (98 : Int32) → ((p1 = (100 : Int32) → wp_X7_figure σ (1 : Int32) (fun (r_63 : Int32) => wp_X7_deal σ r_63 (fun (r_66 : Int32) (σ_66 : k_M) => Q r_66 σ_66))) ∧ (¬ p1 = (100 : Int32) → ((p1 = (102 : Int32) → wp_X7_fresh σ (fun (r_101 : Int32) (σ_101 : k_M) => Q r_101 σ_101)) ∧ (¬ p1 = (102 : Int32) → ((p1 = (111 : Int32) → wp_X7_open σ (fun (r_81 : Int32) (σ_81 : k_M) => Q r_81 σ_81)) ∧ (¬ p1 = (111 : Int32) → ((p1 = (115 : Int32) → wp_X7_figure σ (1 : Int32) (fun (r_93 : Int32) => wp_X7_steal σ r_93 (fun (r_96 : Int32) (σ_96 : k_M) => Q r_96 σ_96))) ∧ (¬ p1 = (115 : Int32) → ((p1 = (119 : Int32) → wp_X7_figure σ (1 : Int32) (fun (r_73 : Int32) => wp_X7_forget σ r_73 (fun (r_76 : Int32) (σ_76 : k_M) => Q r_76 σ_76))) ∧ (¬ p1 = (119 : Int32) → wp_X7_figure σ (1 : Int32) (fun (r_108 : Int32) => wp_X7_move σ r_108 (fun (r_111 : Int32) (σ_111 : k_M) => Q r_111 σ_111))))))))))))))
theorem hd_X7_done : yX7_done.cls ≠ "java/lang/invoke/MethodHandle" ∧ yX7_done.cls ≠ "java/lang/invoke/VarHandle" ∧ (parseMethodDescriptor yX7_done.desc).map (fun d => d.parameters.length) = some 1 := by decide +kernel
theorem hdv_X7_done : yX7_done.cls = RX7 ∧ yX7_done.cls ≠ "java/lang/invoke/MethodHandle" ∧ yX7_done.cls ≠ "java/lang/invoke/VarHandle" ∧ (parseMethodDescriptor yX7_done.desc).map (fun d => d.parameters.length) = some 1 := ⟨rfl, hd_X7_done⟩
set_option maxHeartbeats 4000000 in
set_option maxRecDepth 100000 in
theorem c_X7_done (l : Launch) (D : va_G) (a : Nat → Nat) (cI cZ : ClassId) (σ : k_M) (p1 : Int32) (Q : Int32 → k_M → Prop) (h : wp_X7_done σ p1 Q) : Met l yX7_done wsX7_done rm_X7_done (k_PW D [(cI, .int), (cZ, .boolean)] (wM a cI cZ) σ [.ref (a 0), .int p1]) (k_Qi D (wM a cI cZ) Q) 0 0 (k_wA (wM a cI cZ)) := by
  refine k_metW (Qc := fun D => k_Qi D (wM a cI cZ) Q) (by decide) rfl (Nat.le_of_ble_eq_true rfl) ?_
  intro Γ G hD E
  unfold wp_X7_done at h
  show k_J Γ rm_X7_done 2 false (wM a cI cZ) 0 [(0, .ref (a 0)), (1, .int p1)] [] σ
  refine r_iload_n G dX7_done_0 1 rfl rfl ?_
  rcases Classical.em (p1 = (98 : Int32)) with hs_0 | hs_0
  · replace h := h.1 hs_0
    refine r_lookup G 85 dX7_done_1 rfl (off := 84) (by rw [khit hs_0 kt_98]; rfl) (by decide) ?_
    refine r_aload_n G dX7_done_85 0 rfl rfl ?_
    refine r_cVWi G hD (ci := 5) (cq := (RX7, TX7, 9)) [] [] (c_X7_rebuild (k_l Γ) (k_D Γ) a cI cZ _ _ h) 0 rfl wM_0 (cwV 0 G.2.2.2.2.1 gX7_done_X7_rebuild rfl rfl rfl hdv_X7_rebuild ⟨Nat.le_of_ble_eq_true rfl, Nat.le_of_ble_eq_true rfl⟩) [0, 1] rfl rfl rfl (Nat.le_of_ble_eq_true rfl) dX7_done_86 (fun r_86 σ_86 h => ?_)
    exact r_iretW G E dX7_done_89 h
  replace h := h.2 hs_0
  rcases Classical.em (p1 = (100 : Int32)) with hs_1 | hs_1
  · replace h := h.1 hs_1
    refine r_lookup G 60 dX7_done_1 rfl (off := 59) (by rw [khit hs_1 kt_100]; rfl) (by decide) ?_
    refine r_aload_n G dX7_done_60 0 rfl rfl ?_
    refine r_aload_n G dX7_done_61 0 rfl rfl ?_
    refine r_iconst G (1 : Int32) dX7_done_62 kc_1 ?_
    refine r_cVR G (ci := 5) (cq := (RX7, TX7, 9)) [.int (1 : Int32)] [.ref (a 0)] (c_X7_figure (k_l Γ) (k_D Γ) a cI cZ _ _ _ h) 0 rfl wM_0 (cwV 1 G.2.2.2.2.1 gX7_done_X7_figure rfl rfl rfl hdv_X7_figure ⟨Nat.le_of_ble_eq_true rfl, Nat.le_of_ble_eq_true rfl⟩) [0, 1] rfl (fun _ hP => hP) rfl rfl (Nat.le_of_ble_eq_true rfl) dX7_done_63 (fun r_63 h => ?_)
    refine r_cVWi G hD (ci := 5) (cq := (RX7, TX7, 9)) [.int r_63] [] (c_X7_deal (k_l Γ) (k_D Γ) a cI cZ _ _ _ h) 0 rfl wM_0 (cwV 1 G.2.2.2.2.1 gX7_done_X7_deal rfl rfl rfl hdv_X7_deal ⟨Nat.le_of_ble_eq_true rfl, Nat.le_of_ble_eq_true rfl⟩) [0, 1] rfl rfl rfl (Nat.le_of_ble_eq_true rfl) dX7_done_66 (fun r_66 σ_66 h => ?_)
    exact r_iretW G E dX7_done_69 h
  replace h := h.2 hs_1
  rcases Classical.em (p1 = (102 : Int32)) with hs_2 | hs_2
  · replace h := h.1 hs_2
    refine r_lookup G 100 dX7_done_1 rfl (off := 99) (by rw [khit hs_2 kt_102]; rfl) (by decide) ?_
    refine r_aload_n G dX7_done_100 0 rfl rfl ?_
    refine r_cVWi G hD (ci := 5) (cq := (RX7, TX7, 9)) [] [] (c_X7_fresh (k_l Γ) (k_D Γ) a cI cZ _ _ h) 0 rfl wM_0 (cwV 0 G.2.2.2.2.1 gX7_done_X7_fresh rfl rfl rfl hdv_X7_fresh ⟨Nat.le_of_ble_eq_true rfl, Nat.le_of_ble_eq_true rfl⟩) [0, 1] rfl rfl rfl (Nat.le_of_ble_eq_true rfl) dX7_done_101 (fun r_101 σ_101 h => ?_)
    exact r_iretW G E dX7_done_104 h
  replace h := h.2 hs_2
  rcases Classical.em (p1 = (111 : Int32)) with hs_3 | hs_3
  · replace h := h.1 hs_3
    refine r_lookup G 80 dX7_done_1 rfl (off := 79) (by rw [khit hs_3 kt_111]; rfl) (by decide) ?_
    refine r_aload_n G dX7_done_80 0 rfl rfl ?_
    refine r_cVWi G hD (ci := 5) (cq := (RX7, TX7, 9)) [] [] (c_X7_open (k_l Γ) (k_D Γ) a cI cZ _ _ h) 0 rfl wM_0 (cwV 0 G.2.2.2.2.1 gX7_done_X7_open rfl rfl rfl hdv_X7_open ⟨Nat.le_of_ble_eq_true rfl, Nat.le_of_ble_eq_true rfl⟩) [0, 1] rfl rfl rfl (Nat.le_of_ble_eq_true rfl) dX7_done_81 (fun r_81 σ_81 h => ?_)
    exact r_iretW G E dX7_done_84 h
  replace h := h.2 hs_3
  rcases Classical.em (p1 = (115 : Int32)) with hs_4 | hs_4
  · replace h := h.1 hs_4
    refine r_lookup G 90 dX7_done_1 rfl (off := 89) (by rw [khit hs_4 kt_115]; rfl) (by decide) ?_
    refine r_aload_n G dX7_done_90 0 rfl rfl ?_
    refine r_aload_n G dX7_done_91 0 rfl rfl ?_
    refine r_iconst G (1 : Int32) dX7_done_92 kc_1 ?_
    refine r_cVR G (ci := 5) (cq := (RX7, TX7, 9)) [.int (1 : Int32)] [.ref (a 0)] (c_X7_figure (k_l Γ) (k_D Γ) a cI cZ _ _ _ h) 0 rfl wM_0 (cwV 1 G.2.2.2.2.1 gX7_done_X7_figure rfl rfl rfl hdv_X7_figure ⟨Nat.le_of_ble_eq_true rfl, Nat.le_of_ble_eq_true rfl⟩) [0, 1] rfl (fun _ hP => hP) rfl rfl (Nat.le_of_ble_eq_true rfl) dX7_done_93 (fun r_93 h => ?_)
    refine r_cVWi G hD (ci := 5) (cq := (RX7, TX7, 9)) [.int r_93] [] (c_X7_steal (k_l Γ) (k_D Γ) a cI cZ _ _ _ h) 0 rfl wM_0 (cwV 1 G.2.2.2.2.1 gX7_done_X7_steal rfl rfl rfl hdv_X7_steal ⟨Nat.le_of_ble_eq_true rfl, Nat.le_of_ble_eq_true rfl⟩) [0, 1] rfl rfl rfl (Nat.le_of_ble_eq_true rfl) dX7_done_96 (fun r_96 σ_96 h => ?_)
    exact r_iretW G E dX7_done_99 h
  replace h := h.2 hs_4
  rcases Classical.em (p1 = (119 : Int32)) with hs_5 | hs_5
  · replace h := h.1 hs_5
    refine r_lookup G 70 dX7_done_1 rfl (off := 69) (by rw [khit hs_5 kt_119]; rfl) (by decide) ?_
    refine r_aload_n G dX7_done_70 0 rfl rfl ?_
    refine r_aload_n G dX7_done_71 0 rfl rfl ?_
    refine r_iconst G (1 : Int32) dX7_done_72 kc_1 ?_
    refine r_cVR G (ci := 5) (cq := (RX7, TX7, 9)) [.int (1 : Int32)] [.ref (a 0)] (c_X7_figure (k_l Γ) (k_D Γ) a cI cZ _ _ _ h) 0 rfl wM_0 (cwV 1 G.2.2.2.2.1 gX7_done_X7_figure rfl rfl rfl hdv_X7_figure ⟨Nat.le_of_ble_eq_true rfl, Nat.le_of_ble_eq_true rfl⟩) [0, 1] rfl (fun _ hP => hP) rfl rfl (Nat.le_of_ble_eq_true rfl) dX7_done_73 (fun r_73 h => ?_)
    refine r_cVWi G hD (ci := 5) (cq := (RX7, TX7, 9)) [.int r_73] [] (c_X7_forget (k_l Γ) (k_D Γ) a cI cZ _ _ _ h) 0 rfl wM_0 (cwV 1 G.2.2.2.2.1 gX7_done_X7_forget rfl rfl rfl hdv_X7_forget ⟨Nat.le_of_ble_eq_true rfl, Nat.le_of_ble_eq_true rfl⟩) [0, 1] rfl rfl rfl (Nat.le_of_ble_eq_true rfl) dX7_done_76 (fun r_76 σ_76 h => ?_)
    exact r_iretW G E dX7_done_79 h
  replace h := h.2 hs_5
  refine r_lookup G 105 dX7_done_1 rfl (off := 104) (by show Op.lookupswitch.offset [(98, 84), (100, 59), (102, 99), (111, 79), (115, 89), (119, 69)] 104 _ = _; rw [lv_osw hs_0 kt_98, lv_osw hs_1 kt_100, lv_osw hs_2 kt_102, lv_osw hs_3 kt_111, lv_osw hs_4 kt_115, lv_osw hs_5 kt_119]; rfl) (by decide) ?_
  refine r_aload_n G dX7_done_105 0 rfl rfl ?_
  refine r_aload_n G dX7_done_106 0 rfl rfl ?_
  refine r_iconst G (1 : Int32) dX7_done_107 kc_1 ?_
  refine r_cVR G (ci := 5) (cq := (RX7, TX7, 9)) [.int (1 : Int32)] [.ref (a 0)] (c_X7_figure (k_l Γ) (k_D Γ) a cI cZ _ _ _ h) 0 rfl wM_0 (cwV 1 G.2.2.2.2.1 gX7_done_X7_figure rfl rfl rfl hdv_X7_figure ⟨Nat.le_of_ble_eq_true rfl, Nat.le_of_ble_eq_true rfl⟩) [0, 1] rfl (fun _ hP => hP) rfl rfl (Nat.le_of_ble_eq_true rfl) dX7_done_108 (fun r_108 h => ?_)
  refine r_cVWi G hD (ci := 5) (cq := (RX7, TX7, 9)) [.int r_108] [] (c_X7_move (k_l Γ) (k_D Γ) a cI cZ _ _ _ h) 0 rfl wM_0 (cwV 1 G.2.2.2.2.1 gX7_done_X7_move rfl rfl rfl hdv_X7_move ⟨Nat.le_of_ble_eq_true rfl, Nat.le_of_ble_eq_true rfl⟩) [0, 1] rfl rfl rfl (Nat.le_of_ble_eq_true rfl) dX7_done_111 (fun r_111 σ_111 h => ?_)
  exact r_iretW G E dX7_done_114 h
abbrev rm_X7_act : Room := { frames := 7, cells := 0, slots := 0, locals := 165 }
def wp_X7_act (σ : k_M) (Q : Int32 → k_M → Prop) : Prop :=
  wp_X7_faultNow σ (fun (r_1 : Int32) => ((r_1 < 0 → (∃ K_51 : Prop, ( K_51  → (∃ K_87 : Int32 → Prop, (∀ (y0_87 : Int32), K_87 y0_87 → ((y0_87 = 0 → (∃ K_114 : Prop, ( K_114  → wp_X7_done (k_put (k_put σ 1 (369 : Int32).toNatClampNeg (0 : Int32)) 1 (370 : Int32).toNatClampNeg (0 : Int32)) ((σ 2) (0 : Int32).toNatClampNeg) (fun (r_116 : Int32) (σ_116 : k_M) => ((r_116 < 0 → Q r_116 σ_116) ∧ (¬ r_116 < 0 → Q r_116 (k_put (k_put σ_116 0 2 (0 : Int32)) 1 (368 : Int32).toNatClampNeg ((((k_put σ_116 0 2 (0 : Int32)) 1) (368 : Int32).toNatClampNeg) + (1 : Int32))))))) ∧ ((((σ 2) (0 : Int32).toNatClampNeg) = (115 : Int32) → (((((k_put (k_put σ 1 (369 : Int32).toNatClampNeg (0 : Int32)) 1 (370 : Int32).toNatClampNeg (0 : Int32)) 1) (367 : Int32).toNatClampNeg) = (24 : Int32) → Q (-4 : Int32) (k_put (k_put σ 1 (369 : Int32).toNatClampNeg (0 : Int32)) 1 (370 : Int32).toNatClampNeg (0 : Int32))) ∧ (¬ (((k_put (k_put σ 1 (369 : Int32).toNatClampNeg (0 : Int32)) 1 (370 : Int32).toNatClampNeg (0 : Int32)) 1) (367 : Int32).toNatClampNeg) = (24 : Int32) → K_114))) ∧ (¬ ((σ 2) (0 : Int32).toNatClampNeg) = (115 : Int32) → K_114)))) ∧ (¬ y0_87 = 0 → Q (-4 : Int32) (k_put (k_put σ 1 (369 : Int32).toNatClampNeg (0 : Int32)) 1 (370 : Int32).toNatClampNeg (0 : Int32))))) ∧ (∃ K_86 : Prop, ( K_86  → K_87 (0 : Int32)) ∧ (∃ K_69 : Prop, ( K_69  → (((((k_put (k_put σ 1 (369 : Int32).toNatClampNeg (0 : Int32)) 1 (370 : Int32).toNatClampNeg (0 : Int32)) 1) (89 : Int32).toNatClampNeg) = (199 : Int32) → K_87 (1 : Int32)) ∧ (¬ (((k_put (k_put σ 1 (369 : Int32).toNatClampNeg (0 : Int32)) 1 (370 : Int32).toNatClampNeg (0 : Int32)) 1) (89 : Int32).toNatClampNeg) = (199 : Int32) → K_86))) ∧ ((((σ 2) (0 : Int32).toNatClampNeg) = (100 : Int32) → K_69) ∧ (¬ ((σ 2) (0 : Int32).toNatClampNeg) = (100 : Int32) → ((((σ 2) (0 : Int32).toNatClampNeg) = (102 : Int32) → K_69) ∧ (¬ ((σ 2) (0 : Int32).toNatClampNeg) = (102 : Int32) → ((((σ 2) (0 : Int32).toNatClampNeg) = (116 : Int32) → K_69) ∧ (¬ ((σ 2) (0 : Int32).toNatClampNeg) = (116 : Int32) → K_86)))))))))) ∧ ((((σ 2) (0 : Int32).toNatClampNeg) = (100 : Int32) → K_51) ∧ (¬ ((σ 2) (0 : Int32).toNatClampNeg) = (100 : Int32) → wp_X7_isDealt (k_put (k_put σ 1 (369 : Int32).toNatClampNeg (0 : Int32)) 1 (370 : Int32).toNatClampNeg (0 : Int32)) (fun (r_42 : Int32) => ((r_42 = 0 → Q (-3 : Int32) (k_put (k_put σ 1 (369 : Int32).toNatClampNeg (0 : Int32)) 1 (370 : Int32).toNatClampNeg (0 : Int32))) ∧ (¬ r_42 = 0 → K_51))))))) ∧ (¬ r_1 < 0 → Q (-7 : Int32) σ)))
theorem hd_X7_act : yX7_act.cls ≠ "java/lang/invoke/MethodHandle" ∧ yX7_act.cls ≠ "java/lang/invoke/VarHandle" ∧ (parseMethodDescriptor yX7_act.desc).map (fun d => d.parameters.length) = some 0 := by decide +kernel
theorem hdv_X7_act : yX7_act.cls = RX7 ∧ yX7_act.cls ≠ "java/lang/invoke/MethodHandle" ∧ yX7_act.cls ≠ "java/lang/invoke/VarHandle" ∧ (parseMethodDescriptor yX7_act.desc).map (fun d => d.parameters.length) = some 0 := ⟨rfl, hd_X7_act⟩
set_option maxHeartbeats 4000000 in
set_option maxRecDepth 100000 in
theorem c_X7_act (l : Launch) (D : va_G) (a : Nat → Nat) (cI cZ : ClassId) (σ : k_M) (Q : Int32 → k_M → Prop) (h : wp_X7_act σ  Q) : Met l yX7_act wsX7_act rm_X7_act (k_PW D [(cI, .int), (cZ, .boolean)] (wM a cI cZ) σ [.ref (a 0)]) (k_Qi D (wM a cI cZ) Q) 0 0 (k_wA (wM a cI cZ)) := by
  refine k_metW (Qc := fun D => k_Qi D (wM a cI cZ) Q) (by decide) rfl (Nat.le_of_ble_eq_true rfl) ?_
  intro Γ G hD E
  unfold wp_X7_act at h
  have inX7 : ∀ w ∈ wsX70, w ∈ wsX7_act := by decide +kernel
  have lk_7 := G.2.2.2.2.1 (.fieldLink RX7 7 "FreshSharesModel" "state" "[I") (by decide +kernel)
  have lk_13 := G.2.2.2.2.1 (.fieldLink RX7 13 "FreshSharesModel" "text" "[I") (by decide +kernel)
  have lk_71 := G.2.2.2.2.1 (.fieldLink RX7 71 "FreshSharesModel" "signs" "I") (by decide +kernel)
  show k_J Γ rm_X7_act 4 false (wM a cI cZ) 0 [(0, .ref (a 0))] [] σ
  refine r_aload_n G dX7_act_0 0 rfl rfl ?_
  refine r_cVR G (ci := 5) (cq := (RX7, TX7, 9)) [] [] (c_X7_faultNow (k_l Γ) (k_D Γ) a cI cZ _ _ h) 0 rfl wM_0 (cwV 0 G.2.2.2.2.1 gX7_act_X7_faultNow rfl rfl rfl hdv_X7_faultNow ⟨Nat.le_of_ble_eq_true rfl, Nat.le_of_ble_eq_true rfl⟩) [0, 1] rfl (fun _ hP => hP) rfl rfl (Nat.le_of_ble_eq_true rfl) dX7_act_1 (fun r_1 h => ?_)
  refine r_if_lt G 10 dX7_act_4 (by decide) (fun hc => ?_) (fun hc => ?_)
  · replace h := h.1 hc
    refine r_aload_n G dX7_act_10 0 rfl rfl ?_
    refine r_get G inX7 0 1 wM_0 rfl (by decide) lk_13 rfl rfl dX7_act_11 ?_
    refine r_iconst G (0 : Int32) dX7_act_14 kc_0 ?_
    refine r_iald G 2 0 wM_2 rfl (by unfold vp_in; decide) dX7_act_15 ?_
    refine r_istore_n (lv' := [(1, .int ((σ 2) (0 : Int32).toNatClampNeg)), (0, .ref (a 0))]) G dX7_act_16 rfl (by decide) rfl ?_
    refine r_aload_n G dX7_act_17 1 rfl rfl ?_
    refine r_get G inX7 0 0 wM_0 rfl (by decide) lk_7 rfl rfl dX7_act_18 ?_
    refine r_sipush G (369 : Int32) dX7_act_21 ks_369 ?_
    refine r_iconst G (0 : Int32) dX7_act_24 kc_0 ?_
    refine r_iast G hD 1 0 wM_1 rfl (by unfold vp_in; decide) _ wM_1_s dX7_act_25 ?_
    refine r_aload_n G dX7_act_26 1 rfl rfl ?_
    refine r_get G inX7 0 0 wM_0 rfl (by decide) lk_7 rfl rfl dX7_act_27 ?_
    refine r_sipush G (370 : Int32) dX7_act_30 ks_370 ?_
    refine r_iconst G (0 : Int32) dX7_act_33 kc_0 ?_
    refine r_iast G hD 1 0 wM_1 rfl (by unfold vp_in; decide) _ wM_1_s dX7_act_34 ?_
    refine r_iload_n G dX7_act_35 0 rfl rfl ?_
    refine r_bipush G (100 : Int32) dX7_act_36 kb_100 ?_
    obtain ⟨K_51, hK_51, h⟩ := h
    have kj_51 :  K_51  → k_J Γ rm_X7_act 4 false (wM a cI cZ) 51 [(0, .ref (a 0)), (1, .int ((σ 2) (0 : Int32).toNatClampNeg))] [] (k_put (k_put σ 1 (369 : Int32).toNatClampNeg (0 : Int32)) 1 (370 : Int32).toNatClampNeg (0 : Int32)) := by
      intro  h
      replace h := hK_51  h
      refine r_iload_n G dX7_act_51 1 rfl rfl ?_
      refine r_bipush G (100 : Int32) dX7_act_52 kb_100 ?_
      obtain ⟨K_87, hK_87, h⟩ := h
      have kj_87 : ∀ (y0_87 : Int32), K_87 y0_87 → k_J Γ rm_X7_act 4 false (wM a cI cZ) 87 [(0, .ref (a 0)), (1, .int ((σ 2) (0 : Int32).toNatClampNeg))] [.int y0_87] (k_put (k_put σ 1 (369 : Int32).toNatClampNeg (0 : Int32)) 1 (370 : Int32).toNatClampNeg (0 : Int32)) := by
        intro y0_87 h
        replace h := hK_87 y0_87 h
        refine r_istore_n (lv' := [(2, .int y0_87), (0, .ref (a 0)), (1, .int ((σ 2) (0 : Int32).toNatClampNeg))]) G dX7_act_87 rfl (by decide) rfl ?_
        refine r_iload_n G dX7_act_88 0 rfl rfl ?_
        refine r_if_ne G 111 dX7_act_89 (by decide) (fun hc => ?_) (fun hc => ?_)
        · replace h := h.2 hc
          refine r_bipush G (-4 : Int32) dX7_act_111 kb_m4 ?_
          exact r_iretW G E dX7_act_113 h
        · replace h := h.1 hc
          refine r_iload_n G dX7_act_92 2 rfl rfl ?_
          refine r_bipush G (115 : Int32) dX7_act_93 kb_115 ?_
          obtain ⟨K_114, hK_114, h⟩ := h
          have kj_114 :  K_114  → k_J Γ rm_X7_act 4 false (wM a cI cZ) 114 [(0, .ref (a 0)), (1, .int ((σ 2) (0 : Int32).toNatClampNeg))] [] (k_put (k_put σ 1 (369 : Int32).toNatClampNeg (0 : Int32)) 1 (370 : Int32).toNatClampNeg (0 : Int32)) := by
            intro  h
            replace h := hK_114  h
            refine r_aload_n G dX7_act_114 0 rfl rfl ?_
            refine r_iload_n G dX7_act_115 1 rfl rfl ?_
            refine r_cVWi G hD (ci := 5) (cq := (RX7, TX7, 9)) [.int ((σ 2) (0 : Int32).toNatClampNeg)] [] (c_X7_done (k_l Γ) (k_D Γ) a cI cZ _ _ _ h) 0 rfl wM_0 (cwV 1 G.2.2.2.2.1 gX7_act_X7_done rfl rfl rfl hdv_X7_done ⟨Nat.le_of_ble_eq_true rfl, Nat.le_of_ble_eq_true rfl⟩) [0, 1] rfl rfl rfl (Nat.le_of_ble_eq_true rfl) dX7_act_116 (fun r_116 σ_116 h => ?_)
            refine r_istore_n (lv' := [(3, .int r_116), (0, .ref (a 0)), (1, .int ((σ 2) (0 : Int32).toNatClampNeg))]) G dX7_act_119 rfl (by decide) rfl ?_
            refine r_iload_n G dX7_act_120 0 rfl rfl ?_
            refine r_if_lt G 141 dX7_act_121 (by decide) (fun hc => ?_) (fun hc => ?_)
            · replace h := h.1 hc
              refine r_iload_n G dX7_act_141 0 rfl rfl ?_
              exact r_iretW G E dX7_act_142 h
            · replace h := h.2 hc
              refine r_aload_n G dX7_act_124 1 rfl rfl ?_
              refine r_iconst G (0 : Int32) dX7_act_125 kc_0 ?_
              refine r_put G hD tyX7 tyX7_ok nmX7 inX7 0 2 wM_0 rfl (by decide) lk_71 rfl rfl (ty := .int) (by decide +kernel) rfl rfl (Nat.le_of_ble_eq_true rfl) _ wM_0_2 dX7_act_126 ?_
              refine r_aload_n G dX7_act_129 1 rfl rfl ?_
              refine r_get G inX7 0 0 wM_0 rfl (by decide) lk_7 rfl rfl dX7_act_130 ?_
              refine r_sipush G (368 : Int32) dX7_act_133 ks_368 ?_
              refine r_dup2 G rfl rfl dX7_act_136 ?_
              refine r_iald G 1 0 wM_1 rfl (by unfold vp_in; decide) dX7_act_137 ?_
              refine r_iconst G (1 : Int32) dX7_act_138 kc_1 ?_
              refine r_iadd G dX7_act_139 ?_
              refine r_iast G hD 1 0 wM_1 rfl (by unfold vp_in; decide) _ wM_1_s dX7_act_140 ?_
              refine r_iload_n G dX7_act_141 0 rfl rfl ?_
              exact r_iretW G E dX7_act_142 h
          refine r_icmp_ne G 114 dX7_act_95 (by decide) (fun hc => ?_) (fun hc => ?_)
          · replace h := h.2 hc
            exact r_sub [1, 2] rfl (kj_114  h)
          · replace h := h.1 hc
            refine r_aload_n G dX7_act_98 1 rfl rfl ?_
            refine r_get G inX7 0 0 wM_0 rfl (by decide) lk_7 rfl rfl dX7_act_99 ?_
            refine r_sipush G (367 : Int32) dX7_act_102 ks_367 ?_
            refine r_iald G 1 0 wM_1 rfl (by unfold vp_in; decide) dX7_act_105 ?_
            refine r_bipush G (24 : Int32) dX7_act_106 kb_24 ?_
            refine r_icmp_ne G 114 dX7_act_108 (by decide) (fun hc => ?_) (fun hc => ?_)
            · replace h := h.2 hc
              exact r_sub [1, 2] rfl (kj_114  h)
            · replace h := h.1 hc
              refine r_bipush G (-4 : Int32) dX7_act_111 kb_m4 ?_
              exact r_iretW G E dX7_act_113 h
      obtain ⟨K_86, hK_86, h⟩ := h
      have kj_86 :  K_86  → k_J Γ rm_X7_act 4 false (wM a cI cZ) 86 [(0, .ref (a 0)), (1, .int ((σ 2) (0 : Int32).toNatClampNeg))] [] (k_put (k_put σ 1 (369 : Int32).toNatClampNeg (0 : Int32)) 1 (370 : Int32).toNatClampNeg (0 : Int32)) := by
        intro  h
        replace h := hK_86  h
        refine r_iconst G (0 : Int32) dX7_act_86 kc_0 ?_
        exact r_sub [0, 1] rfl (kj_87 _ h)
      obtain ⟨K_69, hK_69, h⟩ := h
      have kj_69 :  K_69  → k_J Γ rm_X7_act 4 false (wM a cI cZ) 69 [(0, .ref (a 0)), (1, .int ((σ 2) (0 : Int32).toNatClampNeg))] [] (k_put (k_put σ 1 (369 : Int32).toNatClampNeg (0 : Int32)) 1 (370 : Int32).toNatClampNeg (0 : Int32)) := by
        intro  h
        replace h := hK_69  h
        refine r_aload_n G dX7_act_69 0 rfl rfl ?_
        refine r_get G inX7 0 0 wM_0 rfl (by decide) lk_7 rfl rfl dX7_act_70 ?_
        refine r_bipush G (89 : Int32) dX7_act_73 kb_89 ?_
        refine r_iald G 1 0 wM_1 rfl (by unfold vp_in; decide) dX7_act_75 ?_
        refine r_sipush G (199 : Int32) dX7_act_76 ks_199 ?_
        refine r_icmp_ne G 86 dX7_act_79 (by decide) (fun hc => ?_) (fun hc => ?_)
        · replace h := h.2 hc
          exact r_sub [0, 1] rfl (kj_86  h)
        · replace h := h.1 hc
          refine r_iconst G (1 : Int32) dX7_act_82 kc_1 ?_
          refine r_goto G 87 dX7_act_83 (by decide) ?_
          exact r_sub [0, 1] rfl (kj_87 _ h)
      refine r_icmp_eq G 69 dX7_act_54 (by decide) (fun hc => ?_) (fun hc => ?_)
      · replace h := h.1 hc
        exact r_sub [0, 1] rfl (kj_69  h)
      · replace h := h.2 hc
        refine r_iload_n G dX7_act_57 1 rfl rfl ?_
        refine r_bipush G (102 : Int32) dX7_act_58 kb_102 ?_
        refine r_icmp_eq G 69 dX7_act_60 (by decide) (fun hc => ?_) (fun hc => ?_)
        · replace h := h.1 hc
          exact r_sub [0, 1] rfl (kj_69  h)
        · replace h := h.2 hc
          refine r_iload_n G dX7_act_63 1 rfl rfl ?_
          refine r_bipush G (116 : Int32) dX7_act_64 kb_116 ?_
          refine r_icmp_ne G 86 dX7_act_66 (by decide) (fun hc => ?_) (fun hc => ?_)
          · replace h := h.2 hc
            exact r_sub [0, 1] rfl (kj_86  h)
          · replace h := h.1 hc
            exact r_sub [0, 1] rfl (kj_69  h)
    refine r_icmp_eq G 51 dX7_act_38 (by decide) (fun hc => ?_) (fun hc => ?_)
    · replace h := h.1 hc
      exact r_sub [1, 0] rfl (kj_51  h)
    · replace h := h.2 hc
      refine r_aload_n G dX7_act_41 1 rfl rfl ?_
      refine r_cVR G (ci := 5) (cq := (RX7, TX7, 9)) [] [] (c_X7_isDealt (k_l Γ) (k_D Γ) a cI cZ _ _ h) 0 rfl wM_0 (cwV 0 G.2.2.2.2.1 gX7_act_X7_isDealt rfl rfl rfl hdv_X7_isDealt ⟨Nat.le_of_ble_eq_true rfl, Nat.le_of_ble_eq_true rfl⟩) [0, 1] rfl (fun _ hP => hP) rfl rfl (Nat.le_of_ble_eq_true rfl) dX7_act_42 (fun r_42 h => ?_)
      have hz_42 := h.1
      replace h := h.2
      refine r_if_ne G 51 dX7_act_45 (by decide) (fun hc => ?_) (fun hc => ?_)
      · replace h := h.2 hc
        exact r_sub [1, 0] rfl (kj_51  h)
      · replace h := h.1 hc
        refine r_bipush G (-3 : Int32) dX7_act_48 kb_m3 ?_
        exact r_iretW G E dX7_act_50 h
  · replace h := h.2 hc
    refine r_bipush G (-7 : Int32) dX7_act_7 kb_m7 ?_
    exact r_iretW G E dX7_act_9 h
abbrev rm_X7_bent : Room := { frames := 2, cells := 0, slots := 0, locals := 43 }
def wp_X7_bent (σ : k_M) (p1 p2 p3 : Int32) (Q : Int32 → k_M → Prop) : Prop :=
  wp_X7_isMember p1 (fun (r_1 : Int32) => ((r_1 = 0 → Q (-1 : Int32) σ) ∧ (¬ r_1 = 0 → wp_X7_in p2 (0 : Int32) (4 : Int32) (fun (r_12 : Int32) => ((r_12 = 0 → Q (-2 : Int32) σ) ∧ (¬ r_12 = 0 → (∃ K_41 : Int32 → Prop, (∀ (y0_41 : Int32), K_41 y0_41 → wp_X7_in p3 (0 : Int32) y0_41 (fun (r_41 : Int32) => ((r_41 = 0 → Q (-2 : Int32) σ) ∧ (¬ r_41 = 0 → wp_X7_bentOf σ p1 p2 (fun (r_53 : Int32) => wp_X7_bentAt p1 p2 (fun (r_64 : Int32) => (vp_in r_64 371 ∧ Q r_53 (k_put σ 1 r_64.toNatClampNeg p3)))))))) ∧ (((2 : Int32) ≤ p2 → (((4 : Int32) ≤ p2 → K_41 (1 : Int32)) ∧ (¬ (4 : Int32) ≤ p2 → K_41 (7 : Int32)))) ∧ (¬ (2 : Int32) ≤ p2 → K_41 (22 : Int32))))))))))
theorem hd_X7_bent : yX7_bent.cls ≠ "java/lang/invoke/MethodHandle" ∧ yX7_bent.cls ≠ "java/lang/invoke/VarHandle" ∧ (parseMethodDescriptor yX7_bent.desc).map (fun d => d.parameters.length) = some 3 := by decide +kernel
theorem hdv_X7_bent : yX7_bent.cls = RX7 ∧ yX7_bent.cls ≠ "java/lang/invoke/MethodHandle" ∧ yX7_bent.cls ≠ "java/lang/invoke/VarHandle" ∧ (parseMethodDescriptor yX7_bent.desc).map (fun d => d.parameters.length) = some 3 := ⟨rfl, hd_X7_bent⟩
set_option maxHeartbeats 4000000 in
set_option maxRecDepth 100000 in
theorem c_X7_bent (l : Launch) (D : va_G) (a : Nat → Nat) (cI cZ : ClassId) (σ : k_M) (p1 p2 p3 : Int32) (Q : Int32 → k_M → Prop) (h : wp_X7_bent σ p1 p2 p3 Q) : Met l yX7_bent wsX7_bent rm_X7_bent (k_PW D [(cI, .int), (cZ, .boolean)] (wM a cI cZ) σ [.ref (a 0), .int p1, .int p2, .int p3]) (k_Qi D (wM a cI cZ) Q) 0 0 (k_wA (wM a cI cZ)) := by
  refine k_metW (Qc := fun D => k_Qi D (wM a cI cZ) Q) (by decide) rfl (Nat.le_of_ble_eq_true rfl) ?_
  intro Γ G hD E
  unfold wp_X7_bent at h
  have inX7 : ∀ w ∈ wsX70, w ∈ wsX7_bent := by decide +kernel
  have lk_7 := G.2.2.2.2.1 (.fieldLink RX7 7 "FreshSharesModel" "state" "[I") (by decide +kernel)
  show k_J Γ rm_X7_bent 5 false (wM a cI cZ) 0 [(0, .ref (a 0)), (1, .int p1), (2, .int p2), (3, .int p3)] [] σ
  refine r_iload_n G dX7_bent_0 1 rfl rfl ?_
  refine r_cSR G [.int p1] [] (c_X7_isMember (k_l Γ) (k_D Γ) _ _ h) (va_cwS 1 G.2.2.2.2.1 gX7_bent_X7_isMember rfl rfl rfl hd_X7_isMember ⟨Nat.le_of_ble_eq_true rfl, Nat.le_of_ble_eq_true rfl⟩) [] rfl (fun _ _ => k_E0) rfl rfl (Nat.le_of_ble_eq_true rfl) dX7_bent_1 (fun r_1 h => ?_)
  have hz_1 := h.1
  replace h := h.2
  refine r_if_ne G 9 dX7_bent_4 (by decide) (fun hc => ?_) (fun hc => ?_)
  · replace h := h.2 hc
    refine r_iload_n G dX7_bent_9 2 rfl rfl ?_
    refine r_iconst G (0 : Int32) dX7_bent_10 kc_0 ?_
    refine r_iconst G (4 : Int32) dX7_bent_11 kc_4 ?_
    refine r_cSR G [.int p2, .int (0 : Int32), .int (4 : Int32)] [] (c_X7_in (k_l Γ) (k_D Γ) _ _ _ _ h) (va_cwS 3 G.2.2.2.2.1 gX7_bent_X7_in rfl rfl rfl hd_X7_in ⟨Nat.le_of_ble_eq_true rfl, Nat.le_of_ble_eq_true rfl⟩) [] rfl (fun _ _ => k_E0) rfl rfl (Nat.le_of_ble_eq_true rfl) dX7_bent_12 (fun r_12 h => ?_)
    have hz_12 := h.1
    replace h := h.2
    refine r_if_eq G 47 dX7_bent_15 (by decide) (fun hc => ?_) (fun hc => ?_)
    · replace h := h.1 hc
      refine r_bipush G (-2 : Int32) dX7_bent_47 kb_m2 ?_
      exact r_iretW G E dX7_bent_49 h
    · replace h := h.2 hc
      refine r_iload_n G dX7_bent_18 3 rfl rfl ?_
      refine r_iconst G (0 : Int32) dX7_bent_19 kc_0 ?_
      refine r_iload_n G dX7_bent_20 2 rfl rfl ?_
      refine r_iconst G (2 : Int32) dX7_bent_21 kc_2 ?_
      obtain ⟨K_41, hK_41, h⟩ := h
      have kj_41 : ∀ (y0_41 : Int32), K_41 y0_41 → k_J Γ rm_X7_bent 5 false (wM a cI cZ) 41 [(0, .ref (a 0)), (1, .int p1), (2, .int p2), (3, .int p3)] [.int y0_41, .int (0 : Int32), .int p3] σ := by
        intro y0_41 h
        replace h := hK_41 y0_41 h
        refine r_cSR G [.int p3, .int (0 : Int32), .int y0_41] [] (c_X7_in (k_l Γ) (k_D Γ) _ _ _ _ h) (va_cwS 3 G.2.2.2.2.1 gX7_bent_X7_in rfl rfl rfl hd_X7_in ⟨Nat.le_of_ble_eq_true rfl, Nat.le_of_ble_eq_true rfl⟩) [] rfl (fun _ _ => k_E0) rfl rfl (Nat.le_of_ble_eq_true rfl) dX7_bent_41 (fun r_41 h => ?_)
        have hz_41 := h.1
        replace h := h.2
        refine r_if_ne G 50 dX7_bent_44 (by decide) (fun hc => ?_) (fun hc => ?_)
        · replace h := h.2 hc
          refine r_aload_n G dX7_bent_50 0 rfl rfl ?_
          refine r_iload_n G dX7_bent_51 1 rfl rfl ?_
          refine r_iload_n G dX7_bent_52 2 rfl rfl ?_
          refine r_cVR G (ci := 5) (cq := (RX7, TX7, 9)) [.int p1, .int p2] [] (c_X7_bentOf (k_l Γ) (k_D Γ) a cI cZ _ _ _ _ h) 0 rfl wM_0 (cwV 2 G.2.2.2.2.1 gX7_bent_X7_bentOf rfl rfl rfl hdv_X7_bentOf ⟨Nat.le_of_ble_eq_true rfl, Nat.le_of_ble_eq_true rfl⟩) [0, 1] rfl (fun _ hP => hP) rfl rfl (Nat.le_of_ble_eq_true rfl) dX7_bent_53 (fun r_53 h => ?_)
          refine r_istore (lv' := [(4, .int r_53), (0, .ref (a 0)), (1, .int p1), (2, .int p2), (3, .int p3)]) G dX7_bent_56 (by decide) rfl ?_
          refine r_aload_n G dX7_bent_58 1 rfl rfl ?_
          refine r_get G inX7 0 0 wM_0 rfl (by decide) lk_7 rfl rfl dX7_bent_59 ?_
          refine r_iload_n G dX7_bent_62 2 rfl rfl ?_
          refine r_iload_n G dX7_bent_63 3 rfl rfl ?_
          refine r_cSR G [.int p1, .int p2] [.ref (a 1)] (c_X7_bentAt (k_l Γ) (k_D Γ) _ _ _ h) (va_cwS 2 G.2.2.2.2.1 gX7_bent_X7_bentAt rfl rfl rfl hd_X7_bentAt ⟨Nat.le_of_ble_eq_true rfl, Nat.le_of_ble_eq_true rfl⟩) [] rfl (fun _ _ => k_E0) rfl rfl (Nat.le_of_ble_eq_true rfl) dX7_bent_64 (fun r_64 h => ?_)
          refine r_iload_n G dX7_bent_67 4 rfl rfl ?_
          refine r_iast G hD 1 0 wM_1 rfl h.1 _ wM_1_s dX7_bent_68 ?_
          replace h := h.2
          refine r_iload G dX7_bent_69 0 rfl ?_
          exact r_iretW G E dX7_bent_71 h
        · replace h := h.1 hc
          refine r_bipush G (-2 : Int32) dX7_bent_47 kb_m2 ?_
          exact r_iretW G E dX7_bent_49 h
      refine r_icmp_ge G 30 dX7_bent_22 (by decide) (fun hc => ?_) (fun hc => ?_)
      · replace h := h.1 hc
        refine r_iload_n G dX7_bent_30 2 rfl rfl ?_
        refine r_iconst G (4 : Int32) dX7_bent_31 kc_4 ?_
        refine r_icmp_ge G 40 dX7_bent_32 (by decide) (fun hc => ?_) (fun hc => ?_)
        · replace h := h.1 hc
          refine r_iconst G (1 : Int32) dX7_bent_40 kc_1 ?_
          exact r_sub [0, 1, 2, 3] rfl (kj_41 _ h)
        · replace h := h.2 hc
          refine r_bipush G (7 : Int32) dX7_bent_35 kb_7 ?_
          refine r_goto G 41 dX7_bent_37 (by decide) ?_
          exact r_sub [0, 1, 2, 3] rfl (kj_41 _ h)
      · replace h := h.2 hc
        refine r_bipush G (22 : Int32) dX7_bent_25 kb_22 ?_
        refine r_goto G 41 dX7_bent_27 (by decide) ?_
        exact r_sub [0, 1, 2, 3] rfl (kj_41 _ h)
  · replace h := h.1 hc
    refine r_iconst G (-1 : Int32) dX7_bent_7 kc_m1 ?_
    exact r_iretW G E dX7_bent_8 h
abbrev rm_X7_isEpoch : Room := { frames := 1, cells := 0, slots := 0, locals := 22 }
def wp_X7_isEpoch (σ : k_M) (p1 : Int32) (Q : Int32 → Prop) : Prop :=
  wp_X7_in p1 (0 : Int32) ((σ 1) (89 : Int32).toNatClampNeg) (fun (r_9 : Int32) => Q r_9)
theorem hd_X7_isEpoch : yX7_isEpoch.cls ≠ "java/lang/invoke/MethodHandle" ∧ yX7_isEpoch.cls ≠ "java/lang/invoke/VarHandle" ∧ (parseMethodDescriptor yX7_isEpoch.desc).map (fun d => d.parameters.length) = some 1 := by decide +kernel
theorem hdv_X7_isEpoch : yX7_isEpoch.cls = RX7 ∧ yX7_isEpoch.cls ≠ "java/lang/invoke/MethodHandle" ∧ yX7_isEpoch.cls ≠ "java/lang/invoke/VarHandle" ∧ (parseMethodDescriptor yX7_isEpoch.desc).map (fun d => d.parameters.length) = some 1 := ⟨rfl, hd_X7_isEpoch⟩
set_option maxHeartbeats 4000000 in
set_option maxRecDepth 100000 in
theorem c_X7_isEpoch (l : Launch) (D : va_G) (a : Nat → Nat) (cI cZ : ClassId) (σ : k_M) (p1 : Int32) (Q : Int32 → Prop) (h : wp_X7_isEpoch σ p1 Q) : Met l yX7_isEpoch wsX7_isEpoch rm_X7_isEpoch (k_PR D [(cI, .int), (cZ, .boolean)] (wM a cI cZ) σ [.ref (a 0), .int p1]) (vp_Si (fun r => (r = 0 ∨ r = 1) ∧ Q r)) 0 0 (fun _ => False) := by
  refine k_metR (by decide) rfl (Nat.le_of_ble_eq_true rfl) ?_
  intro Γ G E
  unfold wp_X7_isEpoch at h
  have inX7 : ∀ w ∈ wsX70, w ∈ wsX7_isEpoch := by decide +kernel
  have lk_7 := G.2.2.2.2.1 (.fieldLink RX7 7 "FreshSharesModel" "state" "[I") (by decide +kernel)
  show k_J Γ rm_X7_isEpoch 2 true (wM a cI cZ) 0 [(0, .ref (a 0)), (1, .int p1)] [] σ
  refine r_iload_n G dX7_isEpoch_0 1 rfl rfl ?_
  refine r_iconst G (0 : Int32) dX7_isEpoch_1 kc_0 ?_
  refine r_aload_n G dX7_isEpoch_2 0 rfl rfl ?_
  refine r_get G inX7 0 0 wM_0 rfl (by decide) lk_7 rfl rfl dX7_isEpoch_3 ?_
  refine r_bipush G (89 : Int32) dX7_isEpoch_6 kb_89 ?_
  refine r_iald G 1 0 wM_1 rfl (by unfold vp_in; decide) dX7_isEpoch_8 ?_
  refine r_cSR G [.int p1, .int (0 : Int32), .int ((σ 1) (89 : Int32).toNatClampNeg)] [] (c_X7_in (k_l Γ) (k_D Γ) _ _ _ _ h) (va_cwS 3 G.2.2.2.2.1 gX7_isEpoch_X7_in rfl rfl rfl hd_X7_in ⟨Nat.le_of_ble_eq_true rfl, Nat.le_of_ble_eq_true rfl⟩) [] rfl (fun _ _ => k_E0) rfl rfl (Nat.le_of_ble_eq_true rfl) dX7_isEpoch_9 (fun r_9 h => ?_)
  have hz_9 := h.1
  replace h := h.2
  exact r_zretR G E (kz_of hz_9) dX7_isEpoch_12 ⟨hz_9, h⟩
abbrev rm_X7_count : Room := { frames := 2, cells := 0, slots := 0, locals := 43 }
def wp_X7_count (σ : k_M) (p1 : Int32) (Q : Int32 → Prop) : Prop :=
  ((p1 = (0 : Int32) → Q ((σ 1) (88 : Int32).toNatClampNeg)) ∧ (¬ p1 = (0 : Int32) → ((p1 = (1 : Int32) → Q ((σ 1) (89 : Int32).toNatClampNeg)) ∧ (¬ p1 = (1 : Int32) → ((p1 = (2 : Int32) → wp_X7_having σ (fun (r_65 : Int32) => wp_X7_bits r_65 (fun (r_68 : Int32) => Q r_68))) ∧ (¬ p1 = (2 : Int32) → ((p1 = (3 : Int32) → wp_X7_having σ (fun (r_73 : Int32) => Q r_73)) ∧ (¬ p1 = (3 : Int32) → ((p1 = (4 : Int32) → Q ((σ 1) (367 : Int32).toNatClampNeg)) ∧ (¬ p1 = (4 : Int32) → ((p1 = (5 : Int32) → Q ((σ 1) (368 : Int32).toNatClampNeg)) ∧ (¬ p1 = (5 : Int32) → ((p1 = (6 : Int32) → Q (σ 0 2)) ∧ (¬ p1 = (6 : Int32) → ((p1 = (7 : Int32) → (∃ K_114 : Int32 → Prop, (∀ (y0_114 : Int32), K_114 y0_114 → ((((σ 7) (1 : Int32).toNatClampNeg) = 0 → Q (y0_114 + (0 : Int32))) ∧ (¬ ((σ 7) (1 : Int32).toNatClampNeg) = 0 → Q (y0_114 + (2 : Int32))))) ∧ ((((σ 7) (0 : Int32).toNatClampNeg) = 0 → K_114 (0 : Int32)) ∧ (¬ ((σ 7) (0 : Int32).toNatClampNeg) = 0 → K_114 (1 : Int32))))) ∧ (¬ p1 = (7 : Int32) → ((p1 ≤ (9 : Int32) → Q (-2 : Int32)) ∧ (¬ p1 ≤ (9 : Int32) → wp_X7_isEpoch σ (p1 - (10 : Int32)) (fun (r_141 : Int32) => ((r_141 = 0 → Q (-2 : Int32)) ∧ (¬ r_141 = 0 → (vp_in (((95 : Int32) + p1) - (10 : Int32)) 371 ∧ Q ((σ 1) (((95 : Int32) + p1) - (10 : Int32)).toNatClampNeg)))))))))))))))))))))))
theorem hd_X7_count : yX7_count.cls ≠ "java/lang/invoke/MethodHandle" ∧ yX7_count.cls ≠ "java/lang/invoke/VarHandle" ∧ (parseMethodDescriptor yX7_count.desc).map (fun d => d.parameters.length) = some 1 := by decide +kernel
theorem hdv_X7_count : yX7_count.cls = RX7 ∧ yX7_count.cls ≠ "java/lang/invoke/MethodHandle" ∧ yX7_count.cls ≠ "java/lang/invoke/VarHandle" ∧ (parseMethodDescriptor yX7_count.desc).map (fun d => d.parameters.length) = some 1 := ⟨rfl, hd_X7_count⟩
set_option maxHeartbeats 4000000 in
set_option maxRecDepth 100000 in
theorem c_X7_count (l : Launch) (D : va_G) (a : Nat → Nat) (cI cZ : ClassId) (σ : k_M) (p1 : Int32) (Q : Int32 → Prop) (h : wp_X7_count σ p1 Q) : Met l yX7_count wsX7_count rm_X7_count (k_PR D [(cI, .int), (cZ, .boolean)] (wM a cI cZ) σ [.ref (a 0), .int p1]) (vp_Si Q) 0 0 (fun _ => False) := by
  refine k_metR (by decide) rfl (Nat.le_of_ble_eq_true rfl) ?_
  intro Γ G E
  unfold wp_X7_count at h
  have inX7 : ∀ w ∈ wsX70, w ∈ wsX7_count := by decide +kernel
  have lk_7 := G.2.2.2.2.1 (.fieldLink RX7 7 "FreshSharesModel" "state" "[I") (by decide +kernel)
  have lk_28 := G.2.2.2.2.1 (.fieldLink RX7 28 "FreshSharesModel" "isKept" "[Z") (by decide +kernel)
  have lk_71 := G.2.2.2.2.1 (.fieldLink RX7 71 "FreshSharesModel" "signs" "I") (by decide +kernel)
  show k_J Γ rm_X7_count 2 true (wM a cI cZ) 0 [(0, .ref (a 0)), (1, .int p1)] [] σ
  refine r_iload_n G dX7_count_0 1 rfl rfl ?_
  rcases Classical.em (p1 = (0 : Int32)) with hs_0 | hs_0
  · replace h := h.1 hs_0
    refine r_tableIn G 48 dX7_count_1 0 (khit hs_0 kt_0) (by decide) (by decide) (off := 47) rfl (by decide) ?_
    refine r_aload_n G dX7_count_48 0 rfl rfl ?_
    refine r_get G inX7 0 0 wM_0 rfl (by decide) lk_7 rfl rfl dX7_count_49 ?_
    refine r_bipush G (88 : Int32) dX7_count_52 kb_88 ?_
    refine r_iald G 1 0 wM_1 rfl (by unfold vp_in; decide) dX7_count_54 ?_
    exact r_iretR G E dX7_count_55 h
  replace h := h.2 hs_0
  rcases Classical.em (p1 = (1 : Int32)) with hs_1 | hs_1
  · replace h := h.1 hs_1
    refine r_tableIn G 56 dX7_count_1 1 (khit hs_1 kt_1) (by decide) (by decide) (off := 55) rfl (by decide) ?_
    refine r_aload_n G dX7_count_56 0 rfl rfl ?_
    refine r_get G inX7 0 0 wM_0 rfl (by decide) lk_7 rfl rfl dX7_count_57 ?_
    refine r_bipush G (89 : Int32) dX7_count_60 kb_89 ?_
    refine r_iald G 1 0 wM_1 rfl (by unfold vp_in; decide) dX7_count_62 ?_
    exact r_iretR G E dX7_count_63 h
  replace h := h.2 hs_1
  rcases Classical.em (p1 = (2 : Int32)) with hs_2 | hs_2
  · replace h := h.1 hs_2
    refine r_tableIn G 64 dX7_count_1 2 (khit hs_2 kt_2) (by decide) (by decide) (off := 63) rfl (by decide) ?_
    refine r_aload_n G dX7_count_64 0 rfl rfl ?_
    refine r_cVR G (ci := 5) (cq := (RX7, TX7, 9)) [] [] (c_X7_having (k_l Γ) (k_D Γ) a cI cZ _ _ h) 0 rfl wM_0 (cwV 0 G.2.2.2.2.1 gX7_count_X7_having rfl rfl rfl hdv_X7_having ⟨Nat.le_of_ble_eq_true rfl, Nat.le_of_ble_eq_true rfl⟩) [0, 1] rfl (fun _ hP => hP) rfl rfl (Nat.le_of_ble_eq_true rfl) dX7_count_65 (fun r_65 h => ?_)
    refine r_cSR G [.int r_65] [] (c_X7_bits (k_l Γ) (k_D Γ) _ _ h) (va_cwS 1 G.2.2.2.2.1 gX7_count_X7_bits rfl rfl rfl hd_X7_bits ⟨Nat.le_of_ble_eq_true rfl, Nat.le_of_ble_eq_true rfl⟩) [] rfl (fun _ _ => k_E0) rfl rfl (Nat.le_of_ble_eq_true rfl) dX7_count_68 (fun r_68 h => ?_)
    exact r_iretR G E dX7_count_71 h
  replace h := h.2 hs_2
  rcases Classical.em (p1 = (3 : Int32)) with hs_3 | hs_3
  · replace h := h.1 hs_3
    refine r_tableIn G 72 dX7_count_1 3 (khit hs_3 kt_3) (by decide) (by decide) (off := 71) rfl (by decide) ?_
    refine r_aload_n G dX7_count_72 0 rfl rfl ?_
    refine r_cVR G (ci := 5) (cq := (RX7, TX7, 9)) [] [] (c_X7_having (k_l Γ) (k_D Γ) a cI cZ _ _ h) 0 rfl wM_0 (cwV 0 G.2.2.2.2.1 gX7_count_X7_having rfl rfl rfl hdv_X7_having ⟨Nat.le_of_ble_eq_true rfl, Nat.le_of_ble_eq_true rfl⟩) [0, 1] rfl (fun _ hP => hP) rfl rfl (Nat.le_of_ble_eq_true rfl) dX7_count_73 (fun r_73 h => ?_)
    exact r_iretR G E dX7_count_76 h
  replace h := h.2 hs_3
  rcases Classical.em (p1 = (4 : Int32)) with hs_4 | hs_4
  · replace h := h.1 hs_4
    refine r_tableIn G 77 dX7_count_1 4 (khit hs_4 kt_4) (by decide) (by decide) (off := 76) rfl (by decide) ?_
    refine r_aload_n G dX7_count_77 0 rfl rfl ?_
    refine r_get G inX7 0 0 wM_0 rfl (by decide) lk_7 rfl rfl dX7_count_78 ?_
    refine r_sipush G (367 : Int32) dX7_count_81 ks_367 ?_
    refine r_iald G 1 0 wM_1 rfl (by unfold vp_in; decide) dX7_count_84 ?_
    exact r_iretR G E dX7_count_85 h
  replace h := h.2 hs_4
  rcases Classical.em (p1 = (5 : Int32)) with hs_5 | hs_5
  · replace h := h.1 hs_5
    refine r_tableIn G 86 dX7_count_1 5 (khit hs_5 kt_5) (by decide) (by decide) (off := 85) rfl (by decide) ?_
    refine r_aload_n G dX7_count_86 0 rfl rfl ?_
    refine r_get G inX7 0 0 wM_0 rfl (by decide) lk_7 rfl rfl dX7_count_87 ?_
    refine r_sipush G (368 : Int32) dX7_count_90 ks_368 ?_
    refine r_iald G 1 0 wM_1 rfl (by unfold vp_in; decide) dX7_count_93 ?_
    exact r_iretR G E dX7_count_94 h
  replace h := h.2 hs_5
  rcases Classical.em (p1 = (6 : Int32)) with hs_6 | hs_6
  · replace h := h.1 hs_6
    refine r_tableIn G 95 dX7_count_1 6 (khit hs_6 kt_6) (by decide) (by decide) (off := 94) rfl (by decide) ?_
    refine r_aload_n G dX7_count_95 0 rfl rfl ?_
    refine r_get G inX7 0 2 wM_0 rfl (by decide) lk_71 rfl rfl dX7_count_96 ?_
    exact r_iretR G E dX7_count_99 h
  replace h := h.2 hs_6
  rcases Classical.em (p1 = (7 : Int32)) with hs_7 | hs_7
  · replace h := h.1 hs_7
    refine r_tableIn G 100 dX7_count_1 7 (khit hs_7 kt_7) (by decide) (by decide) (off := 99) rfl (by decide) ?_
    refine r_aload_n G dX7_count_100 0 rfl rfl ?_
    refine r_get G inX7 0 8 wM_0 rfl (by decide) lk_28 rfl rfl dX7_count_101 ?_
    refine r_iconst G (0 : Int32) dX7_count_104 kc_0 ?_
    refine r_zald G 7 1 wM_7 rfl (by unfold vp_in; decide) dX7_count_105 ?_
    obtain ⟨K_114, hK_114, h⟩ := h
    have kj_114 : ∀ (y0_114 : Int32), K_114 y0_114 → k_J Γ rm_X7_count 2 true (wM a cI cZ) 114 [(0, .ref (a 0))] [.int y0_114] σ := by
      intro y0_114 h
      replace h := hK_114 y0_114 h
      refine r_aload_n G dX7_count_114 0 rfl rfl ?_
      refine r_get G inX7 0 8 wM_0 rfl (by decide) lk_28 rfl rfl dX7_count_115 ?_
      refine r_iconst G (1 : Int32) dX7_count_118 kc_1 ?_
      refine r_zald G 7 1 wM_7 rfl (by unfold vp_in; decide) dX7_count_119 ?_
      refine r_if_eq G 127 dX7_count_120 (by decide) (fun hc => ?_) (fun hc => ?_)
      · replace h := h.1 hc
        refine r_iconst G (0 : Int32) dX7_count_127 kc_0 ?_
        refine r_iadd G dX7_count_128 ?_
        exact r_iretR G E dX7_count_129 h
      · replace h := h.2 hc
        refine r_iconst G (2 : Int32) dX7_count_123 kc_2 ?_
        refine r_goto G 128 dX7_count_124 (by decide) ?_
        refine r_iadd G dX7_count_128 ?_
        exact r_iretR G E dX7_count_129 h
    refine r_if_eq G 113 dX7_count_106 (by decide) (fun hc => ?_) (fun hc => ?_)
    · replace h := h.1 hc
      refine r_iconst G (0 : Int32) dX7_count_113 kc_0 ?_
      exact r_sub [0] rfl (kj_114 _ h)
    · replace h := h.2 hc
      refine r_iconst G (1 : Int32) dX7_count_109 kc_1 ?_
      refine r_goto G 114 dX7_count_110 (by decide) ?_
      exact r_sub [0] rfl (kj_114 _ h)
  replace h := h.2 hs_7
  refine r_tableOut G 130 dX7_count_1 (by have z0 := lv_neT hs_0 kt_0; have z1 := lv_neT hs_1 kt_1; have z2 := lv_neT hs_2 kt_2; have z3 := lv_neT hs_3 kt_3; have z4 := lv_neT hs_4 kt_4; have z5 := lv_neT hs_5 kt_5; have z6 := lv_neT hs_6 kt_6; have z7 := lv_neT hs_7 kt_7; omega) (by decide) ?_
  refine r_iload_n G dX7_count_130 1 rfl rfl ?_
  refine r_bipush G (9 : Int32) dX7_count_131 kb_9 ?_
  refine r_icmp_le G 162 dX7_count_133 (by decide) (fun hc => ?_) (fun hc => ?_)
  · replace h := h.1 hc
    refine r_bipush G (-2 : Int32) dX7_count_162 kb_m2 ?_
    exact r_iretR G E dX7_count_164 h
  · replace h := h.2 hc
    refine r_aload_n G dX7_count_136 0 rfl rfl ?_
    refine r_iload_n G dX7_count_137 1 rfl rfl ?_
    refine r_bipush G (10 : Int32) dX7_count_138 kb_10 ?_
    refine r_isub G dX7_count_140 ?_
    refine r_cVR G (ci := 5) (cq := (RX7, TX7, 9)) [.int (p1 - (10 : Int32))] [] (c_X7_isEpoch (k_l Γ) (k_D Γ) a cI cZ _ _ _ h) 0 rfl wM_0 (cwV 1 G.2.2.2.2.1 gX7_count_X7_isEpoch rfl rfl rfl hdv_X7_isEpoch ⟨Nat.le_of_ble_eq_true rfl, Nat.le_of_ble_eq_true rfl⟩) [0, 1] rfl (fun _ hP => hP) rfl rfl (Nat.le_of_ble_eq_true rfl) dX7_count_141 (fun r_141 h => ?_)
    have hz_141 := h.1
    replace h := h.2
    refine r_if_eq G 162 dX7_count_144 (by decide) (fun hc => ?_) (fun hc => ?_)
    · replace h := h.1 hc
      refine r_bipush G (-2 : Int32) dX7_count_162 kb_m2 ?_
      exact r_iretR G E dX7_count_164 h
    · replace h := h.2 hc
      refine r_aload_n G dX7_count_147 0 rfl rfl ?_
      refine r_get G inX7 0 0 wM_0 rfl (by decide) lk_7 rfl rfl dX7_count_148 ?_
      refine r_bipush G (95 : Int32) dX7_count_151 kb_95 ?_
      refine r_iload_n G dX7_count_153 1 rfl rfl ?_
      refine r_iadd G dX7_count_154 ?_
      refine r_bipush G (10 : Int32) dX7_count_155 kb_10 ?_
      refine r_isub G dX7_count_157 ?_
      refine r_iald G 1 0 wM_1 rfl h.1 dX7_count_158 ?_
      replace h := h.2
      refine r_goto G 164 dX7_count_159 (by decide) ?_
      exact r_iretR G E dX7_count_164 h
abbrev rm_X7_fault : Room := { frames := 4, cells := 0, slots := 0, locals := 85 }
def wp_X7_fault (σ : k_M) (Q : Int32 → Prop) : Prop :=
  wp_X7_faultNow σ (fun (r_1 : Int32) => Q r_1)
theorem hd_X7_fault : yX7_fault.cls ≠ "java/lang/invoke/MethodHandle" ∧ yX7_fault.cls ≠ "java/lang/invoke/VarHandle" ∧ (parseMethodDescriptor yX7_fault.desc).map (fun d => d.parameters.length) = some 0 := by decide +kernel
theorem hdv_X7_fault : yX7_fault.cls = RX7 ∧ yX7_fault.cls ≠ "java/lang/invoke/MethodHandle" ∧ yX7_fault.cls ≠ "java/lang/invoke/VarHandle" ∧ (parseMethodDescriptor yX7_fault.desc).map (fun d => d.parameters.length) = some 0 := ⟨rfl, hd_X7_fault⟩
set_option maxHeartbeats 4000000 in
set_option maxRecDepth 100000 in
theorem c_X7_fault (l : Launch) (D : va_G) (a : Nat → Nat) (cI cZ : ClassId) (σ : k_M) (Q : Int32 → Prop) (h : wp_X7_fault σ  Q) : Met l yX7_fault wsX7_fault rm_X7_fault (k_PR D [(cI, .int), (cZ, .boolean)] (wM a cI cZ) σ [.ref (a 0)]) (vp_Si Q) 0 0 (fun _ => False) := by
  refine k_metR (by decide) rfl (Nat.le_of_ble_eq_true rfl) ?_
  intro Γ G E
  unfold wp_X7_fault at h
  show k_J Γ rm_X7_fault 1 true (wM a cI cZ) 0 [(0, .ref (a 0))] [] σ
  refine r_aload_n G dX7_fault_0 0 rfl rfl ?_
  refine r_cVR G (ci := 5) (cq := (RX7, TX7, 9)) [] [] (c_X7_faultNow (k_l Γ) (k_D Γ) a cI cZ _ _ h) 0 rfl wM_0 (cwV 0 G.2.2.2.2.1 gX7_fault_X7_faultNow rfl rfl rfl hdv_X7_faultNow ⟨Nat.le_of_ble_eq_true rfl, Nat.le_of_ble_eq_true rfl⟩) [0, 1] rfl (fun _ hP => hP) rfl rfl (Nat.le_of_ble_eq_true rfl) dX7_fault_1 (fun r_1 h => ?_)
  exact r_iretR G E dX7_fault_4 h
abbrev rm_X7_fits : Room := { frames := 3, cells := 0, slots := 0, locals := 68 }
def wp_X7_fits (σ : k_M) (p1 p2 : Int32) (Q : Int32 → Prop) : Prop :=
  wp_X7_isValue p1 (fun (r_1 : Int32) => ((r_1 = 0 → Q (-2 : Int32)) ∧ (¬ r_1 = 0 → wp_X7_isValue p2 (fun (r_8 : Int32) => ((r_8 = 0 → Q (-2 : Int32)) ∧ (¬ r_8 = 0 → wp_X7_isDealt σ (fun (r_18 : Int32) => ((r_18 = 0 → Q (-3 : Int32)) ∧ (¬ r_18 = 0 → wp_X7_isFit σ p1 p2 (fun (r_32 : Int32) => ((r_32 = 0 → Q (0 : Int32)) ∧ (¬ r_32 = 0 → Q (1 : Int32)))))))))))))
theorem hd_X7_fits : yX7_fits.cls ≠ "java/lang/invoke/MethodHandle" ∧ yX7_fits.cls ≠ "java/lang/invoke/VarHandle" ∧ (parseMethodDescriptor yX7_fits.desc).map (fun d => d.parameters.length) = some 2 := by decide +kernel
theorem hdv_X7_fits : yX7_fits.cls = RX7 ∧ yX7_fits.cls ≠ "java/lang/invoke/MethodHandle" ∧ yX7_fits.cls ≠ "java/lang/invoke/VarHandle" ∧ (parseMethodDescriptor yX7_fits.desc).map (fun d => d.parameters.length) = some 2 := ⟨rfl, hd_X7_fits⟩
set_option maxHeartbeats 4000000 in
set_option maxRecDepth 100000 in
theorem c_X7_fits (l : Launch) (D : va_G) (a : Nat → Nat) (cI cZ : ClassId) (σ : k_M) (p1 p2 : Int32) (Q : Int32 → Prop) (h : wp_X7_fits σ p1 p2 Q) : Met l yX7_fits wsX7_fits rm_X7_fits (k_PR D [(cI, .int), (cZ, .boolean)] (wM a cI cZ) σ [.ref (a 0), .int p1, .int p2]) (vp_Si Q) 0 0 (fun _ => False) := by
  refine k_metR (by decide) rfl (Nat.le_of_ble_eq_true rfl) ?_
  intro Γ G E
  unfold wp_X7_fits at h
  show k_J Γ rm_X7_fits 3 true (wM a cI cZ) 0 [(0, .ref (a 0)), (1, .int p1), (2, .int p2)] [] σ
  refine r_iload_n G dX7_fits_0 1 rfl rfl ?_
  refine r_cSR G [.int p1] [] (c_X7_isValue (k_l Γ) (k_D Γ) _ _ h) (va_cwS 1 G.2.2.2.2.1 gX7_fits_X7_isValue rfl rfl rfl hd_X7_isValue ⟨Nat.le_of_ble_eq_true rfl, Nat.le_of_ble_eq_true rfl⟩) [] rfl (fun _ _ => k_E0) rfl rfl (Nat.le_of_ble_eq_true rfl) dX7_fits_1 (fun r_1 h => ?_)
  have hz_1 := h.1
  replace h := h.2
  refine r_if_eq G 14 dX7_fits_4 (by decide) (fun hc => ?_) (fun hc => ?_)
  · replace h := h.1 hc
    refine r_bipush G (-2 : Int32) dX7_fits_14 kb_m2 ?_
    exact r_iretR G E dX7_fits_16 h
  · replace h := h.2 hc
    refine r_iload_n G dX7_fits_7 2 rfl rfl ?_
    refine r_cSR G [.int p2] [] (c_X7_isValue (k_l Γ) (k_D Γ) _ _ h) (va_cwS 1 G.2.2.2.2.1 gX7_fits_X7_isValue rfl rfl rfl hd_X7_isValue ⟨Nat.le_of_ble_eq_true rfl, Nat.le_of_ble_eq_true rfl⟩) [] rfl (fun _ _ => k_E0) rfl rfl (Nat.le_of_ble_eq_true rfl) dX7_fits_8 (fun r_8 h => ?_)
    have hz_8 := h.1
    replace h := h.2
    refine r_if_ne G 17 dX7_fits_11 (by decide) (fun hc => ?_) (fun hc => ?_)
    · replace h := h.2 hc
      refine r_aload_n G dX7_fits_17 0 rfl rfl ?_
      refine r_cVR G (ci := 5) (cq := (RX7, TX7, 9)) [] [] (c_X7_isDealt (k_l Γ) (k_D Γ) a cI cZ _ _ h) 0 rfl wM_0 (cwV 0 G.2.2.2.2.1 gX7_fits_X7_isDealt rfl rfl rfl hdv_X7_isDealt ⟨Nat.le_of_ble_eq_true rfl, Nat.le_of_ble_eq_true rfl⟩) [0, 1] rfl (fun _ hP => hP) rfl rfl (Nat.le_of_ble_eq_true rfl) dX7_fits_18 (fun r_18 h => ?_)
      have hz_18 := h.1
      replace h := h.2
      refine r_if_ne G 29 dX7_fits_21 (by decide) (fun hc => ?_) (fun hc => ?_)
      · replace h := h.2 hc
        refine r_aload_n G dX7_fits_29 0 rfl rfl ?_
        refine r_iload_n G dX7_fits_30 1 rfl rfl ?_
        refine r_iload_n G dX7_fits_31 2 rfl rfl ?_
        refine r_cVR G (ci := 5) (cq := (RX7, TX7, 9)) [.int p1, .int p2] [] (c_X7_isFit (k_l Γ) (k_D Γ) a cI cZ _ _ _ _ h) 0 rfl wM_0 (cwV 2 G.2.2.2.2.1 gX7_fits_X7_isFit rfl rfl rfl hdv_X7_isFit ⟨Nat.le_of_ble_eq_true rfl, Nat.le_of_ble_eq_true rfl⟩) [0, 1] rfl (fun _ hP => hP) rfl rfl (Nat.le_of_ble_eq_true rfl) dX7_fits_32 (fun r_32 h => ?_)
        have hz_32 := h.1
        replace h := h.2
        refine r_if_eq G 42 dX7_fits_35 (by decide) (fun hc => ?_) (fun hc => ?_)
        · replace h := h.1 hc
          refine r_iconst G (0 : Int32) dX7_fits_42 kc_0 ?_
          exact r_iretR G E dX7_fits_43 h
        · replace h := h.2 hc
          refine r_iconst G (1 : Int32) dX7_fits_38 kc_1 ?_
          refine r_goto G 43 dX7_fits_39 (by decide) ?_
          exact r_iretR G E dX7_fits_43 h
      · replace h := h.1 hc
        refine r_bipush G (-3 : Int32) dX7_fits_24 kb_m3 ?_
        refine r_goto G 43 dX7_fits_26 (by decide) ?_
        exact r_iretR G E dX7_fits_43 h
    · replace h := h.1 hc
      refine r_bipush G (-2 : Int32) dX7_fits_14 kb_m2 ?_
      exact r_iretR G E dX7_fits_16 h
abbrev rm_X7_image : Room := { frames := 1, cells := 0, slots := 0, locals := 22 }
def wp_X7_image (σ : k_M) (p1 : Int32) (Q : Int32 → k_M → Prop) : Prop :=
  wp_X7_in p1 (0 : Int32) (1 : Int32) (fun (r_3 : Int32) => ((r_3 = 0 → Q (-2 : Int32) σ) ∧ (¬ r_3 = 0 → (k_lp2 (fun (B_14 : Int32 → k_M → Prop) (x2_14 : Int32) (σ_14 : k_M) => (((371 : Int32) ≤ x2_14 → (vp_in p1 2 ∧ Q (1 : Int32) (k_put σ_14 7 p1.toNatClampNeg (1 : Int32)))) ∧ (¬ (371 : Int32) ≤ x2_14 → (vp_in x2_14 371 ∧ (vp_in (((371 : Int32) * p1) + x2_14) 742 ∧ B_14 (x2_14 + (1 : Int32)) (k_put σ_14 6 (((371 : Int32) * p1) + x2_14).toNatClampNeg ((σ_14 1) x2_14.toNatClampNeg))))))) (0 : Int32) σ))))
theorem hd_X7_image : yX7_image.cls ≠ "java/lang/invoke/MethodHandle" ∧ yX7_image.cls ≠ "java/lang/invoke/VarHandle" ∧ (parseMethodDescriptor yX7_image.desc).map (fun d => d.parameters.length) = some 1 := by decide +kernel
theorem hdv_X7_image : yX7_image.cls = RX7 ∧ yX7_image.cls ≠ "java/lang/invoke/MethodHandle" ∧ yX7_image.cls ≠ "java/lang/invoke/VarHandle" ∧ (parseMethodDescriptor yX7_image.desc).map (fun d => d.parameters.length) = some 1 := ⟨rfl, hd_X7_image⟩
set_option maxHeartbeats 4000000 in
set_option maxRecDepth 100000 in
theorem c_X7_image (l : Launch) (D : va_G) (a : Nat → Nat) (cI cZ : ClassId) (σ : k_M) (p1 : Int32) (Q : Int32 → k_M → Prop) (h : wp_X7_image σ p1 Q) : Met l yX7_image wsX7_image rm_X7_image (k_PW D [(cI, .int), (cZ, .boolean)] (wM a cI cZ) σ [.ref (a 0), .int p1]) (k_Qi D (wM a cI cZ) Q) 0 0 (k_wA (wM a cI cZ)) := by
  refine k_metW (Qc := fun D => k_Qi D (wM a cI cZ) Q) (by decide) rfl (Nat.le_of_ble_eq_true rfl) ?_
  intro Γ G hD E
  unfold wp_X7_image at h
  have inX7 : ∀ w ∈ wsX70, w ∈ wsX7_image := by decide +kernel
  have lk_7 := G.2.2.2.2.1 (.fieldLink RX7 7 "FreshSharesModel" "state" "[I") (by decide +kernel)
  have lk_25 := G.2.2.2.2.1 (.fieldLink RX7 25 "FreshSharesModel" "images" "[I") (by decide +kernel)
  have lk_28 := G.2.2.2.2.1 (.fieldLink RX7 28 "FreshSharesModel" "isKept" "[Z") (by decide +kernel)
  show k_J Γ rm_X7_image 3 false (wM a cI cZ) 0 [(0, .ref (a 0)), (1, .int p1)] [] σ
  refine r_iload_n G dX7_image_0 1 rfl rfl ?_
  refine r_iconst G (0 : Int32) dX7_image_1 kc_0 ?_
  refine r_iconst G (1 : Int32) dX7_image_2 kc_1 ?_
  refine r_cSR G [.int p1, .int (0 : Int32), .int (1 : Int32)] [] (c_X7_in (k_l Γ) (k_D Γ) _ _ _ _ h) (va_cwS 3 G.2.2.2.2.1 gX7_image_X7_in rfl rfl rfl hd_X7_in ⟨Nat.le_of_ble_eq_true rfl, Nat.le_of_ble_eq_true rfl⟩) [] rfl (fun _ _ => k_E0) rfl rfl (Nat.le_of_ble_eq_true rfl) dX7_image_3 (fun r_3 h => ?_)
  have hz_3 := h.1
  replace h := h.2
  refine r_if_ne G 12 dX7_image_6 (by decide) (fun hc => ?_) (fun hc => ?_)
  · replace h := h.2 hc
    refine r_iconst G (0 : Int32) dX7_image_12 kc_0 ?_
    refine r_istore_n (lv' := [(2, .int (0 : Int32)), (0, .ref (a 0)), (1, .int p1)]) G dX7_image_13 rfl (by decide) rfl ?_
    obtain ⟨I_14, n_14, h, hI_14⟩ := h
    have key_14 : ∀ (n : Nat) (x2_14 : Int32) (σ_14 : k_M), I_14 n x2_14 σ_14 → k_J Γ rm_X7_image 3 false (wM a cI cZ) 14 [(0, .ref (a 0)), (1, .int p1), (2, .int x2_14)] [] σ_14 := by
      intro n
      induction n using Nat.strongRecOn with
      | ind n ih_14 =>
        intro x2_14 σ_14 h
        replace h := hI_14 n x2_14 σ_14 h
        refine r_iload_n G dX7_image_14 2 rfl rfl ?_
        refine r_sipush G (371 : Int32) dX7_image_15 ks_371 ?_
        refine r_icmp_ge G 45 dX7_image_18 (by decide) (fun hc => ?_) (fun hc => ?_)
        · replace h := h.1 hc
          refine r_aload_n G dX7_image_45 0 rfl rfl ?_
          refine r_get G inX7 0 8 wM_0 rfl (by decide) lk_28 rfl rfl dX7_image_46 ?_
          refine r_iload_n G dX7_image_49 1 rfl rfl ?_
          refine r_iconst G (1 : Int32) dX7_image_50 kc_1 ?_
          refine r_zast G hD 7 1 wM_7 rfl h.1 rfl _ wM_7_s dX7_image_51 ?_
          replace h := h.2
          refine r_iconst G (1 : Int32) dX7_image_52 kc_1 ?_
          exact r_iretW G E dX7_image_53 h
        · replace h := h.2 hc
          refine r_aload_n G dX7_image_21 0 rfl rfl ?_
          refine r_get G inX7 0 7 wM_0 rfl (by decide) lk_25 rfl rfl dX7_image_22 ?_
          refine r_sipush G (371 : Int32) dX7_image_25 ks_371 ?_
          refine r_iload_n G dX7_image_28 1 rfl rfl ?_
          refine r_imul G dX7_image_29 ?_
          refine r_iload_n G dX7_image_30 2 rfl rfl ?_
          refine r_iadd G dX7_image_31 ?_
          refine r_aload_n G dX7_image_32 0 rfl rfl ?_
          refine r_get G inX7 0 0 wM_0 rfl (by decide) lk_7 rfl rfl dX7_image_33 ?_
          refine r_iload_n G dX7_image_36 2 rfl rfl ?_
          refine r_iald G 1 0 wM_1 rfl h.1 dX7_image_37 ?_
          replace h := h.2
          refine r_iast G hD 6 0 wM_6 rfl h.1 _ wM_6_s dX7_image_38 ?_
          replace h := h.2
          refine r_iinc (lv' := [(2, .int (x2_14 + (1 : Int32))), (0, .ref (a 0)), (1, .int p1)]) G 2 dX7_image_39 kc_1 rfl (by decide) rfl ?_
          refine r_goto G 14 dX7_image_42 (by decide) ?_
          obtain ⟨m_14, hm_14, h⟩ := h
          exact r_sub [1, 2, 0] rfl (ih_14 m_14 hm_14 _ _ h)
    exact r_sub [1, 2, 0] rfl (key_14 n_14 _ _ h)
  · replace h := h.1 hc
    refine r_bipush G (-2 : Int32) dX7_image_9 kb_m2 ?_
    exact r_iretW G E dX7_image_11 h
abbrev rm_X7_lootOf : Room := { frames := 0, cells := 0, slots := 0, locals := 0 }
def wp_X7_lootOf (σ : k_M) (p1 p2 : Int32) (Q : Int32 → Prop) : Prop :=
  (vp_in (((295 : Int32) + ((3 : Int32) * p1)) + p2) 371 ∧ Q ((σ 1) (((295 : Int32) + ((3 : Int32) * p1)) + p2).toNatClampNeg))
theorem hd_X7_lootOf : yX7_lootOf.cls ≠ "java/lang/invoke/MethodHandle" ∧ yX7_lootOf.cls ≠ "java/lang/invoke/VarHandle" ∧ (parseMethodDescriptor yX7_lootOf.desc).map (fun d => d.parameters.length) = some 2 := by decide +kernel
theorem hdv_X7_lootOf : yX7_lootOf.cls = RX7 ∧ yX7_lootOf.cls ≠ "java/lang/invoke/MethodHandle" ∧ yX7_lootOf.cls ≠ "java/lang/invoke/VarHandle" ∧ (parseMethodDescriptor yX7_lootOf.desc).map (fun d => d.parameters.length) = some 2 := ⟨rfl, hd_X7_lootOf⟩
set_option maxHeartbeats 4000000 in
set_option maxRecDepth 100000 in
theorem c_X7_lootOf (l : Launch) (D : va_G) (a : Nat → Nat) (cI cZ : ClassId) (σ : k_M) (p1 p2 : Int32) (Q : Int32 → Prop) (h : wp_X7_lootOf σ p1 p2 Q) : Met l yX7_lootOf wsX7_lootOf rm_X7_lootOf (k_PR D [(cI, .int), (cZ, .boolean)] (wM a cI cZ) σ [.ref (a 0), .int p1, .int p2]) (vp_Si Q) 0 0 (fun _ => False) := by
  refine k_metR (by decide) rfl (Nat.le_of_ble_eq_true rfl) ?_
  intro Γ G E
  unfold wp_X7_lootOf at h
  have inX7 : ∀ w ∈ wsX70, w ∈ wsX7_lootOf := by decide +kernel
  have lk_7 := G.2.2.2.2.1 (.fieldLink RX7 7 "FreshSharesModel" "state" "[I") (by decide +kernel)
  show k_J Γ rm_X7_lootOf 3 true (wM a cI cZ) 0 [(0, .ref (a 0)), (1, .int p1), (2, .int p2)] [] σ
  refine r_aload_n G dX7_lootOf_0 0 rfl rfl ?_
  refine r_get G inX7 0 0 wM_0 rfl (by decide) lk_7 rfl rfl dX7_lootOf_1 ?_
  refine r_sipush G (295 : Int32) dX7_lootOf_4 ks_295 ?_
  refine r_iconst G (3 : Int32) dX7_lootOf_7 kc_3 ?_
  refine r_iload_n G dX7_lootOf_8 1 rfl rfl ?_
  refine r_imul G dX7_lootOf_9 ?_
  refine r_iadd G dX7_lootOf_10 ?_
  refine r_iload_n G dX7_lootOf_11 2 rfl rfl ?_
  refine r_iadd G dX7_lootOf_12 ?_
  refine r_iald G 1 0 wM_1 rfl h.1 dX7_lootOf_13 ?_
  replace h := h.2
  exact r_iretR G E dX7_lootOf_14 h
