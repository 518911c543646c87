def wE : k_M → va_W := fun _ => []
def k_0 : k_M := fun _ _ => 0
theorem k_E0 {D : va_G} {σ : k_M} {H : Heap} : va_P D vwCl (wE σ) H := fun k q h => by simp [wE] at h
def wC (a : Nat → Nat) (cI cO : ClassId) (gI : Nat → Option Nat) : k_M → va_W := fun σ => [(a 0, .inr (4, [.ref (a 1), .ref (a 3), .ref (a 4), .ref (a 18)])), (a 1, .inr (3, [.ref (a 2), .int (σ 1 1)])), (a 2, .inl (cI, 10, .inl (σ 2))), (a 3, .inr (2, [.ref (a 4), .ref (a 14), .ref (a 15), .ref (a 16), .ref (a 17), .int (σ 3 5)])), (a 4, .inr (0, [.ref (a 5), .ref (a 6), .ref (a 7), .ref (a 8), .ref (a 9), .ref (a 10), .int (σ 4 6), .int (σ 4 7), .int (σ 4 8), .int (σ 4 9), .int (σ 4 10), .int (σ 4 11)])), (a 5, .inl (cI, 40, .inl (σ 5))), (a 6, .inl (cI, 40, .inl (σ 6))), (a 7, .inl (cI, 8, .inl (σ 7))), (a 8, .inl (cI, 5, .inl (σ 8))), (a 9, .inl (cI, 200, .inl (σ 9))), (a 10, .inr (1, [.ref (a 11), .ref (a 12), .ref (a 13), .int (σ 10 3)])), (a 11, .inl (cI, 24, .inl (σ 11))), (a 12, .inl (cI, 24, .inl (σ 12))), (a 13, .inl (cI, 24, .inl (σ 13))), (a 14, .inl (cI, 8, .inl (σ 14))), (a 15, .inl (cI, 40, .inl (σ 15))), (a 16, .inl (cI, 5, .inl (σ 16))), (a 17, .inl (cI, 8, .inl (σ 17))), (a 18, .inl (cO, 2, .inr (.inr (.inr (.inr gI)))))]
theorem wC_0 {a : Nat → Nat} {cI cO : ClassId} {gI : Nat → Option Nat} {σ : k_M} : ((wC a cI cO gI) σ)[0]? = some (a 0, .inr (4, [.ref (a 1), .ref (a 3), .ref (a 4), .ref (a 18)])) := rfl
theorem wC_1 {a : Nat → Nat} {cI cO : ClassId} {gI : Nat → Option Nat} {σ : k_M} : ((wC a cI cO gI) σ)[1]? = some (a 1, .inr (3, [.ref (a 2), .int (σ 1 1)])) := rfl
theorem wC_1_1 {a : Nat → Nat} {cI cO : ClassId} {gI : Nat → Option Nat} {σ : k_M} {v : Int32} : ((wC a cI cO gI) σ).set 1 (a 1, .inr (3, List.set [.ref (a 2), .int (σ 1 1)] 1 (.int v))) = (wC a cI cO gI) (k_put σ 1 1 v) := rfl
theorem wC_2 {a : Nat → Nat} {cI cO : ClassId} {gI : Nat → Option Nat} {σ : k_M} : ((wC a cI cO gI) σ)[2]? = some (a 2, .inl (cI, 10, .inl (σ 2))) := rfl
theorem wC_2_s {a : Nat → Nat} {cI cO : ClassId} {gI : Nat → Option Nat} {σ : k_M} {k : Nat} {v : Int32} : ((wC a cI cO gI) σ).set 2 (a 2, .inl (cI, 10, .inl (upd (σ 2) k v))) = (wC a cI cO gI) (k_put σ 2 k v) := rfl
theorem wC_3 {a : Nat → Nat} {cI cO : ClassId} {gI : Nat → Option Nat} {σ : k_M} : ((wC a cI cO gI) σ)[3]? = some (a 3, .inr (2, [.ref (a 4), .ref (a 14), .ref (a 15), .ref (a 16), .ref (a 17), .int (σ 3 5)])) := rfl
theorem wC_3_5 {a : Nat → Nat} {cI cO : ClassId} {gI : Nat → Option Nat} {σ : k_M} {v : Int32} : ((wC a cI cO gI) σ).set 3 (a 3, .inr (2, List.set [.ref (a 4), .ref (a 14), .ref (a 15), .ref (a 16), .ref (a 17), .int (σ 3 5)] 5 (.int v))) = (wC a cI cO gI) (k_put σ 3 5 v) := rfl
theorem wC_4 {a : Nat → Nat} {cI cO : ClassId} {gI : Nat → Option Nat} {σ : k_M} : ((wC a cI cO gI) σ)[4]? = some (a 4, .inr (0, [.ref (a 5), .ref (a 6), .ref (a 7), .ref (a 8), .ref (a 9), .ref (a 10), .int (σ 4 6), .int (σ 4 7), .int (σ 4 8), .int (σ 4 9), .int (σ 4 10), .int (σ 4 11)])) := rfl
theorem wC_4_6 {a : Nat → Nat} {cI cO : ClassId} {gI : Nat → Option Nat} {σ : k_M} {v : Int32} : ((wC a cI cO gI) σ).set 4 (a 4, .inr (0, List.set [.ref (a 5), .ref (a 6), .ref (a 7), .ref (a 8), .ref (a 9), .ref (a 10), .int (σ 4 6), .int (σ 4 7), .int (σ 4 8), .int (σ 4 9), .int (σ 4 10), .int (σ 4 11)] 6 (.int v))) = (wC a cI cO gI) (k_put σ 4 6 v) := rfl
theorem wC_4_7 {a : Nat → Nat} {cI cO : ClassId} {gI : Nat → Option Nat} {σ : k_M} {v : Int32} : ((wC a cI cO gI) σ).set 4 (a 4, .inr (0, List.set [.ref (a 5), .ref (a 6), .ref (a 7), .ref (a 8), .ref (a 9), .ref (a 10), .int (σ 4 6), .int (σ 4 7), .int (σ 4 8), .int (σ 4 9), .int (σ 4 10), .int (σ 4 11)] 7 (.int v))) = (wC a cI cO gI) (k_put σ 4 7 v) := rfl
theorem wC_4_8 {a : Nat → Nat} {cI cO : ClassId} {gI : Nat → Option Nat} {σ : k_M} {v : Int32} : ((wC a cI cO gI) σ).set 4 (a 4, .inr (0, List.set [.ref (a 5), .ref (a 6), .ref (a 7), .ref (a 8), .ref (a 9), .ref (a 10), .int (σ 4 6), .int (σ 4 7), .int (σ 4 8), .int (σ 4 9), .int (σ 4 10), .int (σ 4 11)] 8 (.int v))) = (wC a cI cO gI) (k_put σ 4 8 v) := rfl
theorem wC_4_9 {a : Nat → Nat} {cI cO : ClassId} {gI : Nat → Option Nat} {σ : k_M} {v : Int32} : ((wC a cI cO gI) σ).set 4 (a 4, .inr (0, List.set [.ref (a 5), .ref (a 6), .ref (a 7), .ref (a 8), .ref (a 9), .ref (a 10), .int (σ 4 6), .int (σ 4 7), .int (σ 4 8), .int (σ 4 9), .int (σ 4 10), .int (σ 4 11)] 9 (.int v))) = (wC a cI cO gI) (k_put σ 4 9 v) := rfl
theorem wC_4_10 {a : Nat → Nat} {cI cO : ClassId} {gI : Nat → Option Nat} {σ : k_M} {v : Int32} : ((wC a cI cO gI) σ).set 4 (a 4, .inr (0, List.set [.ref (a 5), .ref (a 6), .ref (a 7), .ref (a 8), .ref (a 9), .ref (a 10), .int (σ 4 6), .int (σ 4 7), .int (σ 4 8), .int (σ 4 9), .int (σ 4 10), .int (σ 4 11)] 10 (.int v))) = (wC a cI cO gI) (k_put σ 4 10 v) := rfl
theorem wC_4_11 {a : Nat → Nat} {cI cO : ClassId} {gI : Nat → Option Nat} {σ : k_M} {v : Int32} : ((wC a cI cO gI) σ).set 4 (a 4, .inr (0, List.set [.ref (a 5), .ref (a 6), .ref (a 7), .ref (a 8), .ref (a 9), .ref (a 10), .int (σ 4 6), .int (σ 4 7), .int (σ 4 8), .int (σ 4 9), .int (σ 4 10), .int (σ 4 11)] 11 (.int v))) = (wC a cI cO gI) (k_put σ 4 11 v) := rfl
theorem wC_5 {a : Nat → Nat} {cI cO : ClassId} {gI : Nat → Option Nat} {σ : k_M} : ((wC a cI cO gI) σ)[5]? = some (a 5, .inl (cI, 40, .inl (σ 5))) := rfl
theorem wC_5_s {a : Nat → Nat} {cI cO : ClassId} {gI : Nat → Option Nat} {σ : k_M} {k : Nat} {v : Int32} : ((wC a cI cO gI) σ).set 5 (a 5, .inl (cI, 40, .inl (upd (σ 5) k v))) = (wC a cI cO gI) (k_put σ 5 k v) := rfl
theorem wC_6 {a : Nat → Nat} {cI cO : ClassId} {gI : Nat → Option Nat} {σ : k_M} : ((wC a cI cO gI) σ)[6]? = some (a 6, .inl (cI, 40, .inl (σ 6))) := rfl
theorem wC_6_s {a : Nat → Nat} {cI cO : ClassId} {gI : Nat → Option Nat} {σ : k_M} {k : Nat} {v : Int32} : ((wC a cI cO gI) σ).set 6 (a 6, .inl (cI, 40, .inl (upd (σ 6) k v))) = (wC a cI cO gI) (k_put σ 6 k v) := rfl
theorem wC_7 {a : Nat → Nat} {cI cO : ClassId} {gI : Nat → Option Nat} {σ : k_M} : ((wC a cI cO gI) σ)[7]? = some (a 7, .inl (cI, 8, .inl (σ 7))) := rfl
theorem wC_7_s {a : Nat → Nat} {cI cO : ClassId} {gI : Nat → Option Nat} {σ : k_M} {k : Nat} {v : Int32} : ((wC a cI cO gI) σ).set 7 (a 7, .inl (cI, 8, .inl (upd (σ 7) k v))) = (wC a cI cO gI) (k_put σ 7 k v) := rfl
theorem wC_8 {a : Nat → Nat} {cI cO : ClassId} {gI : Nat → Option Nat} {σ : k_M} : ((wC a cI cO gI) σ)[8]? = some (a 8, .inl (cI, 5, .inl (σ 8))) := rfl
theorem wC_8_s {a : Nat → Nat} {cI cO : ClassId} {gI : Nat → Option Nat} {σ : k_M} {k : Nat} {v : Int32} : ((wC a cI cO gI) σ).set 8 (a 8, .inl (cI, 5, .inl (upd (σ 8) k v))) = (wC a cI cO gI) (k_put σ 8 k v) := rfl
theorem wC_9 {a : Nat → Nat} {cI cO : ClassId} {gI : Nat → Option Nat} {σ : k_M} : ((wC a cI cO gI) σ)[9]? = some (a 9, .inl (cI, 200, .inl (σ 9))) := rfl
theorem wC_9_s {a : Nat → Nat} {cI cO : ClassId} {gI : Nat → Option Nat} {σ : k_M} {k : Nat} {v : Int32} : ((wC a cI cO gI) σ).set 9 (a 9, .inl (cI, 200, .inl (upd (σ 9) k v))) = (wC a cI cO gI) (k_put σ 9 k v) := rfl
theorem wC_10 {a : Nat → Nat} {cI cO : ClassId} {gI : Nat → Option Nat} {σ : k_M} : ((wC a cI cO gI) σ)[10]? = some (a 10, .inr (1, [.ref (a 11), .ref (a 12), .ref (a 13), .int (σ 10 3)])) := rfl
theorem wC_10_3 {a : Nat → Nat} {cI cO : ClassId} {gI : Nat → Option Nat} {σ : k_M} {v : Int32} : ((wC a cI cO gI) σ).set 10 (a 10, .inr (1, List.set [.ref (a 11), .ref (a 12), .ref (a 13), .int (σ 10 3)] 3 (.int v))) = (wC a cI cO gI) (k_put σ 10 3 v) := rfl
theorem wC_11 {a : Nat → Nat} {cI cO : ClassId} {gI : Nat → Option Nat} {σ : k_M} : ((wC a cI cO gI) σ)[11]? = some (a 11, .inl (cI, 24, .inl (σ 11))) := rfl
theorem wC_11_s {a : Nat → Nat} {cI cO : ClassId} {gI : Nat → Option Nat} {σ : k_M} {k : Nat} {v : Int32} : ((wC a cI cO gI) σ).set 11 (a 11, .inl (cI, 24, .inl (upd (σ 11) k v))) = (wC a cI cO gI) (k_put σ 11 k v) := rfl
theorem wC_12 {a : Nat → Nat} {cI cO : ClassId} {gI : Nat → Option Nat} {σ : k_M} : ((wC a cI cO gI) σ)[12]? = some (a 12, .inl (cI, 24, .inl (σ 12))) := rfl
theorem wC_12_s {a : Nat → Nat} {cI cO : ClassId} {gI : Nat → Option Nat} {σ : k_M} {k : Nat} {v : Int32} : ((wC a cI cO gI) σ).set 12 (a 12, .inl (cI, 24, .inl (upd (σ 12) k v))) = (wC a cI cO gI) (k_put σ 12 k v) := rfl
theorem wC_13 {a : Nat → Nat} {cI cO : ClassId} {gI : Nat → Option Nat} {σ : k_M} : ((wC a cI cO gI) σ)[13]? = some (a 13, .inl (cI, 24, .inl (σ 13))) := rfl
theorem wC_13_s {a : Nat → Nat} {cI cO : ClassId} {gI : Nat → Option Nat} {σ : k_M} {k : Nat} {v : Int32} : ((wC a cI cO gI) σ).set 13 (a 13, .inl (cI, 24, .inl (upd (σ 13) k v))) = (wC a cI cO gI) (k_put σ 13 k v) := rfl
theorem wC_14 {a : Nat → Nat} {cI cO : ClassId} {gI : Nat → Option Nat} {σ : k_M} : ((wC a cI cO gI) σ)[14]? = some (a 14, .inl (cI, 8, .inl (σ 14))) := rfl
theorem wC_14_s {a : Nat → Nat} {cI cO : ClassId} {gI : Nat → Option Nat} {σ : k_M} {k : Nat} {v : Int32} : ((wC a cI cO gI) σ).set 14 (a 14, .inl (cI, 8, .inl (upd (σ 14) k v))) = (wC a cI cO gI) (k_put σ 14 k v) := rfl
theorem wC_15 {a : Nat → Nat} {cI cO : ClassId} {gI : Nat → Option Nat} {σ : k_M} : ((wC a cI cO gI) σ)[15]? = some (a 15, .inl (cI, 40, .inl (σ 15))) := rfl
theorem wC_15_s {a : Nat → Nat} {cI cO : ClassId} {gI : Nat → Option Nat} {σ : k_M} {k : Nat} {v : Int32} : ((wC a cI cO gI) σ).set 15 (a 15, .inl (cI, 40, .inl (upd (σ 15) k v))) = (wC a cI cO gI) (k_put σ 15 k v) := rfl
theorem wC_16 {a : Nat → Nat} {cI cO : ClassId} {gI : Nat → Option Nat} {σ : k_M} : ((wC a cI cO gI) σ)[16]? = some (a 16, .inl (cI, 5, .inl (σ 16))) := rfl
theorem wC_16_s {a : Nat → Nat} {cI cO : ClassId} {gI : Nat → Option Nat} {σ : k_M} {k : Nat} {v : Int32} : ((wC a cI cO gI) σ).set 16 (a 16, .inl (cI, 5, .inl (upd (σ 16) k v))) = (wC a cI cO gI) (k_put σ 16 k v) := rfl
theorem wC_17 {a : Nat → Nat} {cI cO : ClassId} {gI : Nat → Option Nat} {σ : k_M} : ((wC a cI cO gI) σ)[17]? = some (a 17, .inl (cI, 8, .inl (σ 17))) := rfl
theorem wC_17_s {a : Nat → Nat} {cI cO : ClassId} {gI : Nat → Option Nat} {σ : k_M} {k : Nat} {v : Int32} : ((wC a cI cO gI) σ).set 17 (a 17, .inl (cI, 8, .inl (upd (σ 17) k v))) = (wC a cI cO gI) (k_put σ 17 k v) := rfl
theorem wC_18 {a : Nat → Nat} {cI cO : ClassId} {gI : Nat → Option Nat} {σ : k_M} : ((wC a cI cO gI) σ)[18]? = some (a 18, .inl (cO, 2, .inr (.inr (.inr (.inr gI))))) := rfl
def wM (a : Nat → Nat) (cI cZ : ClassId) : k_M → va_W := fun σ => [(a 0, .inr (5, [.ref (a 1), .ref (a 2), .int (σ 0 2), .ref (a 3), .int (σ 0 4), .ref (a 4), .ref (a 5), .ref (a 6), .ref (a 7)])), (a 1, .inl (cI, 371, .inl (σ 1))), (a 2, .inl (cI, 10, .inl (σ 2))), (a 3, .inl (cI, 5, .inl (σ 3))), (a 4, .inl (cI, 8, .inl (σ 4))), (a 5, .inl (cI, 5, .inl (σ 5))), (a 6, .inl (cI, 742, .inl (σ 6))), (a 7, .inl (cZ, 2, .inl (σ 7)))]
theorem wM_0 {a : Nat → Nat} {cI cZ : ClassId} {σ : k_M} : ((wM a cI cZ) σ)[0]? = some (a 0, .inr (5, [.ref (a 1), .ref (a 2), .int (σ 0 2), .ref (a 3), .int (σ 0 4), .ref (a 4), .ref (a 5), .ref (a 6), .ref (a 7)])) := rfl
theorem wM_0_2 {a : Nat → Nat} {cI cZ : ClassId} {σ : k_M} {v : Int32} : ((wM a cI cZ) σ).set 0 (a 0, .inr (5, List.set [.ref (a 1), .ref (a 2), .int (σ 0 2), .ref (a 3), .int (σ 0 4), .ref (a 4), .ref (a 5), .ref (a 6), .ref (a 7)] 2 (.int v))) = (wM a cI cZ) (k_put σ 0 2 v) := rfl
theorem wM_0_4 {a : Nat → Nat} {cI cZ : ClassId} {σ : k_M} {v : Int32} : ((wM a cI cZ) σ).set 0 (a 0, .inr (5, List.set [.ref (a 1), .ref (a 2), .int (σ 0 2), .ref (a 3), .int (σ 0 4), .ref (a 4), .ref (a 5), .ref (a 6), .ref (a 7)] 4 (.int v))) = (wM a cI cZ) (k_put σ 0 4 v) := rfl
theorem wM_1 {a : Nat → Nat} {cI cZ : ClassId} {σ : k_M} : ((wM a cI cZ) σ)[1]? = some (a 1, .inl (cI, 371, .inl (σ 1))) := rfl
theorem wM_1_s {a : Nat → Nat} {cI cZ : ClassId} {σ : k_M} {k : Nat} {v : Int32} : ((wM a cI cZ) σ).set 1 (a 1, .inl (cI, 371, .inl (upd (σ 1) k v))) = (wM a cI cZ) (k_put σ 1 k v) := rfl
theorem wM_2 {a : Nat → Nat} {cI cZ : ClassId} {σ : k_M} : ((wM a cI cZ) σ)[2]? = some (a 2, .inl (cI, 10, .inl (σ 2))) := rfl
theorem wM_2_s {a : Nat → Nat} {cI cZ : ClassId} {σ : k_M} {k : Nat} {v : Int32} : ((wM a cI cZ) σ).set 2 (a 2, .inl (cI, 10, .inl (upd (σ 2) k v))) = (wM a cI cZ) (k_put σ 2 k v) := rfl
theorem wM_3 {a : Nat → Nat} {cI cZ : ClassId} {σ : k_M} : ((wM a cI cZ) σ)[3]? = some (a 3, .inl (cI, 5, .inl (σ 3))) := rfl
theorem wM_3_s {a : Nat → Nat} {cI cZ : ClassId} {σ : k_M} {k : Nat} {v : Int32} : ((wM a cI cZ) σ).set 3 (a 3, .inl (cI, 5, .inl (upd (σ 3) k v))) = (wM a cI cZ) (k_put σ 3 k v) := rfl
theorem wM_4 {a : Nat → Nat} {cI cZ : ClassId} {σ : k_M} : ((wM a cI cZ) σ)[4]? = some (a 4, .inl (cI, 8, .inl (σ 4))) := rfl
theorem wM_4_s {a : Nat → Nat} {cI cZ : ClassId} {σ : k_M} {k : Nat} {v : Int32} : ((wM a cI cZ) σ).set 4 (a 4, .inl (cI, 8, .inl (upd (σ 4) k v))) = (wM a cI cZ) (k_put σ 4 k v) := rfl
theorem wM_5 {a : Nat → Nat} {cI cZ : ClassId} {σ : k_M} : ((wM a cI cZ) σ)[5]? = some (a 5, .inl (cI, 5, .inl (σ 5))) := rfl
theorem wM_5_s {a : Nat → Nat} {cI cZ : ClassId} {σ : k_M} {k : Nat} {v : Int32} : ((wM a cI cZ) σ).set 5 (a 5, .inl (cI, 5, .inl (upd (σ 5) k v))) = (wM a cI cZ) (k_put σ 5 k v) := rfl
theorem wM_6 {a : Nat → Nat} {cI cZ : ClassId} {σ : k_M} : ((wM a cI cZ) σ)[6]? = some (a 6, .inl (cI, 742, .inl (σ 6))) := rfl
theorem wM_6_s {a : Nat → Nat} {cI cZ : ClassId} {σ : k_M} {k : Nat} {v : Int32} : ((wM a cI cZ) σ).set 6 (a 6, .inl (cI, 742, .inl (upd (σ 6) k v))) = (wM a cI cZ) (k_put σ 6 k v) := rfl
theorem wM_7 {a : Nat → Nat} {cI cZ : ClassId} {σ : k_M} : ((wM a cI cZ) σ)[7]? = some (a 7, .inl (cZ, 2, .inl (σ 7))) := rfl
theorem wM_7_s {a : Nat → Nat} {cI cZ : ClassId} {σ : k_M} {k : Nat} {v : Int32} : ((wM a cI cZ) σ).set 7 (a 7, .inl (cZ, 2, .inl (upd (σ 7) k v))) = (wM a cI cZ) (k_put σ 7 k v) := rfl
def wK (a : Nat → Nat) (cI : ClassId) : k_M → va_W := fun σ => [(a 0, .inr (0, [.ref (a 1), .ref (a 2), .ref (a 3), .ref (a 4), .ref (a 5), .ref (a 6), .int (σ 0 6), .int (σ 0 7), .int (σ 0 8), .int (σ 0 9), .int (σ 0 10), .int (σ 0 11)])), (a 1, .inl (cI, 40, .inl (σ 1))), (a 2, .inl (cI, 40, .inl (σ 2))), (a 3, .inl (cI, 8, .inl (σ 3))), (a 4, .inl (cI, 5, .inl (σ 4))), (a 5, .inl (cI, 200, .inl (σ 5))), (a 6, .inr (1, [.ref (a 7), .ref (a 8), .ref (a 9), .int (σ 6 3)])), (a 7, .inl (cI, 24, .inl (σ 7))), (a 8, .inl (cI, 24, .inl (σ 8))), (a 9, .inl (cI, 24, .inl (σ 9))), (a 10, .inr (0, [.ref (a 11), .ref (a 12), .ref (a 13), .ref (a 14), .ref (a 15), .ref (a 16), .int (σ 10 6), .int (σ 10 7), .int (σ 10 8), .int (σ 10 9), .int (σ 10 10), .int (σ 10 11)])), (a 11, .inl (cI, 40, .inl (σ 11))), (a 12, .inl (cI, 40, .inl (σ 12))), (a 13, .inl (cI, 8, .inl (σ 13))), (a 14, .inl (cI, 5, .inl (σ 14))), (a 15, .inl (cI, 200, .inl (σ 15))), (a 16, .inr (1, [.ref (a 17), .ref (a 18), .ref (a 19), .int (σ 16 3)])), (a 17, .inl (cI, 24, .inl (σ 17))), (a 18, .inl (cI, 24, .inl (σ 18))), (a 19, .inl (cI, 24, .inl (σ 19)))]
theorem wK_0 {a : Nat → Nat} {cI : ClassId} {σ : k_M} : ((wK a cI) σ)[0]? = some (a 0, .inr (0, [.ref (a 1), .ref (a 2), .ref (a 3), .ref (a 4), .ref (a 5), .ref (a 6), .int (σ 0 6), .int (σ 0 7), .int (σ 0 8), .int (σ 0 9), .int (σ 0 10), .int (σ 0 11)])) := rfl
theorem wK_0_6 {a : Nat → Nat} {cI : ClassId} {σ : k_M} {v : Int32} : ((wK a cI) σ).set 0 (a 0, .inr (0, List.set [.ref (a 1), .ref (a 2), .ref (a 3), .ref (a 4), .ref (a 5), .ref (a 6), .int (σ 0 6), .int (σ 0 7), .int (σ 0 8), .int (σ 0 9), .int (σ 0 10), .int (σ 0 11)] 6 (.int v))) = (wK a cI) (k_put σ 0 6 v) := rfl
theorem wK_0_7 {a : Nat → Nat} {cI : ClassId} {σ : k_M} {v : Int32} : ((wK a cI) σ).set 0 (a 0, .inr (0, List.set [.ref (a 1), .ref (a 2), .ref (a 3), .ref (a 4), .ref (a 5), .ref (a 6), .int (σ 0 6), .int (σ 0 7), .int (σ 0 8), .int (σ 0 9), .int (σ 0 10), .int (σ 0 11)] 7 (.int v))) = (wK a cI) (k_put σ 0 7 v) := rfl
theorem wK_0_8 {a : Nat → Nat} {cI : ClassId} {σ : k_M} {v : Int32} : ((wK a cI) σ).set 0 (a 0, .inr (0, List.set [.ref (a 1), .ref (a 2), .ref (a 3), .ref (a 4), .ref (a 5), .ref (a 6), .int (σ 0 6), .int (σ 0 7), .int (σ 0 8), .int (σ 0 9), .int (σ 0 10), .int (σ 0 11)] 8 (.int v))) = (wK a cI) (k_put σ 0 8 v) := rfl
theorem wK_0_9 {a : Nat → Nat} {cI : ClassId} {σ : k_M} {v : Int32} : ((wK a cI) σ).set 0 (a 0, .inr (0, List.set [.ref (a 1), .ref (a 2), .ref (a 3), .ref (a 4), .ref (a 5), .ref (a 6), .int (σ 0 6), .int (σ 0 7), .int (σ 0 8), .int (σ 0 9), .int (σ 0 10), .int (σ 0 11)] 9 (.int v))) = (wK a cI) (k_put σ 0 9 v) := rfl
theorem wK_0_10 {a : Nat → Nat} {cI : ClassId} {σ : k_M} {v : Int32} : ((wK a cI) σ).set 0 (a 0, .inr (0, List.set [.ref (a 1), .ref (a 2), .ref (a 3), .ref (a 4), .ref (a 5), .ref (a 6), .int (σ 0 6), .int (σ 0 7), .int (σ 0 8), .int (σ 0 9), .int (σ 0 10), .int (σ 0 11)] 10 (.int v))) = (wK a cI) (k_put σ 0 10 v) := rfl
theorem wK_0_11 {a : Nat → Nat} {cI : ClassId} {σ : k_M} {v : Int32} : ((wK a cI) σ).set 0 (a 0, .inr (0, List.set [.ref (a 1), .ref (a 2), .ref (a 3), .ref (a 4), .ref (a 5), .ref (a 6), .int (σ 0 6), .int (σ 0 7), .int (σ 0 8), .int (σ 0 9), .int (σ 0 10), .int (σ 0 11)] 11 (.int v))) = (wK a cI) (k_put σ 0 11 v) := rfl
theorem wK_1 {a : Nat → Nat} {cI : ClassId} {σ : k_M} : ((wK a cI) σ)[1]? = some (a 1, .inl (cI, 40, .inl (σ 1))) := rfl
theorem wK_1_c {a : Nat → Nat} {cI : ClassId} {σ : k_M} {f : Nat → Int32} : ((wK a cI) σ).set 1 (a 1, .inl (cI, 40, .inl f)) = (wK a cI) (k_set σ 1 f) := rfl
theorem wK_1_s {a : Nat → Nat} {cI : ClassId} {σ : k_M} {k : Nat} {v : Int32} : ((wK a cI) σ).set 1 (a 1, .inl (cI, 40, .inl (upd (σ 1) k v))) = (wK a cI) (k_put σ 1 k v) := rfl
theorem wK_2 {a : Nat → Nat} {cI : ClassId} {σ : k_M} : ((wK a cI) σ)[2]? = some (a 2, .inl (cI, 40, .inl (σ 2))) := rfl
theorem wK_2_c {a : Nat → Nat} {cI : ClassId} {σ : k_M} {f : Nat → Int32} : ((wK a cI) σ).set 2 (a 2, .inl (cI, 40, .inl f)) = (wK a cI) (k_set σ 2 f) := rfl
theorem wK_2_s {a : Nat → Nat} {cI : ClassId} {σ : k_M} {k : Nat} {v : Int32} : ((wK a cI) σ).set 2 (a 2, .inl (cI, 40, .inl (upd (σ 2) k v))) = (wK a cI) (k_put σ 2 k v) := rfl
theorem wK_3 {a : Nat → Nat} {cI : ClassId} {σ : k_M} : ((wK a cI) σ)[3]? = some (a 3, .inl (cI, 8, .inl (σ 3))) := rfl
theorem wK_3_c {a : Nat → Nat} {cI : ClassId} {σ : k_M} {f : Nat → Int32} : ((wK a cI) σ).set 3 (a 3, .inl (cI, 8, .inl f)) = (wK a cI) (k_set σ 3 f) := rfl
theorem wK_3_s {a : Nat → Nat} {cI : ClassId} {σ : k_M} {k : Nat} {v : Int32} : ((wK a cI) σ).set 3 (a 3, .inl (cI, 8, .inl (upd (σ 3) k v))) = (wK a cI) (k_put σ 3 k v) := rfl
theorem wK_4 {a : Nat → Nat} {cI : ClassId} {σ : k_M} : ((wK a cI) σ)[4]? = some (a 4, .inl (cI, 5, .inl (σ 4))) := rfl
theorem wK_4_c {a : Nat → Nat} {cI : ClassId} {σ : k_M} {f : Nat → Int32} : ((wK a cI) σ).set 4 (a 4, .inl (cI, 5, .inl f)) = (wK a cI) (k_set σ 4 f) := rfl
theorem wK_4_s {a : Nat → Nat} {cI : ClassId} {σ : k_M} {k : Nat} {v : Int32} : ((wK a cI) σ).set 4 (a 4, .inl (cI, 5, .inl (upd (σ 4) k v))) = (wK a cI) (k_put σ 4 k v) := rfl
theorem wK_5 {a : Nat → Nat} {cI : ClassId} {σ : k_M} : ((wK a cI) σ)[5]? = some (a 5, .inl (cI, 200, .inl (σ 5))) := rfl
theorem wK_5_c {a : Nat → Nat} {cI : ClassId} {σ : k_M} {f : Nat → Int32} : ((wK a cI) σ).set 5 (a 5, .inl (cI, 200, .inl f)) = (wK a cI) (k_set σ 5 f) := rfl
theorem wK_5_s {a : Nat → Nat} {cI : ClassId} {σ : k_M} {k : Nat} {v : Int32} : ((wK a cI) σ).set 5 (a 5, .inl (cI, 200, .inl (upd (σ 5) k v))) = (wK a cI) (k_put σ 5 k v) := rfl
theorem wK_6 {a : Nat → Nat} {cI : ClassId} {σ : k_M} : ((wK a cI) σ)[6]? = some (a 6, .inr (1, [.ref (a 7), .ref (a 8), .ref (a 9), .int (σ 6 3)])) := rfl
theorem wK_6_3 {a : Nat → Nat} {cI : ClassId} {σ : k_M} {v : Int32} : ((wK a cI) σ).set 6 (a 6, .inr (1, List.set [.ref (a 7), .ref (a 8), .ref (a 9), .int (σ 6 3)] 3 (.int v))) = (wK a cI) (k_put σ 6 3 v) := rfl
theorem wK_7 {a : Nat → Nat} {cI : ClassId} {σ : k_M} : ((wK a cI) σ)[7]? = some (a 7, .inl (cI, 24, .inl (σ 7))) := rfl
theorem wK_7_c {a : Nat → Nat} {cI : ClassId} {σ : k_M} {f : Nat → Int32} : ((wK a cI) σ).set 7 (a 7, .inl (cI, 24, .inl f)) = (wK a cI) (k_set σ 7 f) := rfl
theorem wK_7_s {a : Nat → Nat} {cI : ClassId} {σ : k_M} {k : Nat} {v : Int32} : ((wK a cI) σ).set 7 (a 7, .inl (cI, 24, .inl (upd (σ 7) k v))) = (wK a cI) (k_put σ 7 k v) := rfl
theorem wK_8 {a : Nat → Nat} {cI : ClassId} {σ : k_M} : ((wK a cI) σ)[8]? = some (a 8, .inl (cI, 24, .inl (σ 8))) := rfl
theorem wK_8_c {a : Nat → Nat} {cI : ClassId} {σ : k_M} {f : Nat → Int32} : ((wK a cI) σ).set 8 (a 8, .inl (cI, 24, .inl f)) = (wK a cI) (k_set σ 8 f) := rfl
theorem wK_8_s {a : Nat → Nat} {cI : ClassId} {σ : k_M} {k : Nat} {v : Int32} : ((wK a cI) σ).set 8 (a 8, .inl (cI, 24, .inl (upd (σ 8) k v))) = (wK a cI) (k_put σ 8 k v) := rfl
theorem wK_9 {a : Nat → Nat} {cI : ClassId} {σ : k_M} : ((wK a cI) σ)[9]? = some (a 9, .inl (cI, 24, .inl (σ 9))) := rfl
theorem wK_9_c {a : Nat → Nat} {cI : ClassId} {σ : k_M} {f : Nat → Int32} : ((wK a cI) σ).set 9 (a 9, .inl (cI, 24, .inl f)) = (wK a cI) (k_set σ 9 f) := rfl
theorem wK_9_s {a : Nat → Nat} {cI : ClassId} {σ : k_M} {k : Nat} {v : Int32} : ((wK a cI) σ).set 9 (a 9, .inl (cI, 24, .inl (upd (σ 9) k v))) = (wK a cI) (k_put σ 9 k v) := rfl
theorem wK_10 {a : Nat → Nat} {cI : ClassId} {σ : k_M} : ((wK a cI) σ)[10]? = some (a 10, .inr (0, [.ref (a 11), .ref (a 12), .ref (a 13), .ref (a 14), .ref (a 15), .ref (a 16), .int (σ 10 6), .int (σ 10 7), .int (σ 10 8), .int (σ 10 9), .int (σ 10 10), .int (σ 10 11)])) := rfl
theorem wK_10_6 {a : Nat → Nat} {cI : ClassId} {σ : k_M} {v : Int32} : ((wK a cI) σ).set 10 (a 10, .inr (0, List.set [.ref (a 11), .ref (a 12), .ref (a 13), .ref (a 14), .ref (a 15), .ref (a 16), .int (σ 10 6), .int (σ 10 7), .int (σ 10 8), .int (σ 10 9), .int (σ 10 10), .int (σ 10 11)] 6 (.int v))) = (wK a cI) (k_put σ 10 6 v) := rfl
theorem wK_10_7 {a : Nat → Nat} {cI : ClassId} {σ : k_M} {v : Int32} : ((wK a cI) σ).set 10 (a 10, .inr (0, List.set [.ref (a 11), .ref (a 12), .ref (a 13), .ref (a 14), .ref (a 15), .ref (a 16), .int (σ 10 6), .int (σ 10 7), .int (σ 10 8), .int (σ 10 9), .int (σ 10 10), .int (σ 10 11)] 7 (.int v))) = (wK a cI) (k_put σ 10 7 v) := rfl
theorem wK_10_8 {a : Nat → Nat} {cI : ClassId} {σ : k_M} {v : Int32} : ((wK a cI) σ).set 10 (a 10, .inr (0, List.set [.ref (a 11), .ref (a 12), .ref (a 13), .ref (a 14), .ref (a 15), .ref (a 16), .int (σ 10 6), .int (σ 10 7), .int (σ 10 8), .int (σ 10 9), .int (σ 10 10), .int (σ 10 11)] 8 (.int v))) = (wK a cI) (k_put σ 10 8 v) := rfl
theorem wK_10_9 {a : Nat → Nat} {cI : ClassId} {σ : k_M} {v : Int32} : ((wK a cI) σ).set 10 (a 10, .inr (0, List.set [.ref (a 11), .ref (a 12), .ref (a 13), .ref (a 14), .ref (a 15), .ref (a 16), .int (σ 10 6), .int (σ 10 7), .int (σ 10 8), .int (σ 10 9), .int (σ 10 10), .int (σ 10 11)] 9 (.int v))) = (wK a cI) (k_put σ 10 9 v) := rfl
theorem wK_10_10 {a : Nat → Nat} {cI : ClassId} {σ : k_M} {v : Int32} : ((wK a cI) σ).set 10 (a 10, .inr (0, List.set [.ref (a 11), .ref (a 12), .ref (a 13), .ref (a 14), .ref (a 15), .ref (a 16), .int (σ 10 6), .int (σ 10 7), .int (σ 10 8), .int (σ 10 9), .int (σ 10 10), .int (σ 10 11)] 10 (.int v))) = (wK a cI) (k_put σ 10 10 v) := rfl
theorem wK_10_11 {a : Nat → Nat} {cI : ClassId} {σ : k_M} {v : Int32} : ((wK a cI) σ).set 10 (a 10, .inr (0, List.set [.ref (a 11), .ref (a 12), .ref (a 13), .ref (a 14), .ref (a 15), .ref (a 16), .int (σ 10 6), .int (σ 10 7), .int (σ 10 8), .int (σ 10 9), .int (σ 10 10), .int (σ 10 11)] 11 (.int v))) = (wK a cI) (k_put σ 10 11 v) := rfl
theorem wK_11 {a : Nat → Nat} {cI : ClassId} {σ : k_M} : ((wK a cI) σ)[11]? = some (a 11, .inl (cI, 40, .inl (σ 11))) := rfl
theorem wK_11_c {a : Nat → Nat} {cI : ClassId} {σ : k_M} {f : Nat → Int32} : ((wK a cI) σ).set 11 (a 11, .inl (cI, 40, .inl f)) = (wK a cI) (k_set σ 11 f) := rfl
theorem wK_11_s {a : Nat → Nat} {cI : ClassId} {σ : k_M} {k : Nat} {v : Int32} : ((wK a cI) σ).set 11 (a 11, .inl (cI, 40, .inl (upd (σ 11) k v))) = (wK a cI) (k_put σ 11 k v) := rfl
theorem wK_12 {a : Nat → Nat} {cI : ClassId} {σ : k_M} : ((wK a cI) σ)[12]? = some (a 12, .inl (cI, 40, .inl (σ 12))) := rfl
theorem wK_12_c {a : Nat → Nat} {cI : ClassId} {σ : k_M} {f : Nat → Int32} : ((wK a cI) σ).set 12 (a 12, .inl (cI, 40, .inl f)) = (wK a cI) (k_set σ 12 f) := rfl
theorem wK_12_s {a : Nat → Nat} {cI : ClassId} {σ : k_M} {k : Nat} {v : Int32} : ((wK a cI) σ).set 12 (a 12, .inl (cI, 40, .inl (upd (σ 12) k v))) = (wK a cI) (k_put σ 12 k v) := rfl
theorem wK_13 {a : Nat → Nat} {cI : ClassId} {σ : k_M} : ((wK a cI) σ)[13]? = some (a 13, .inl (cI, 8, .inl (σ 13))) := rfl
theorem wK_13_c {a : Nat → Nat} {cI : ClassId} {σ : k_M} {f : Nat → Int32} : ((wK a cI) σ).set 13 (a 13, .inl (cI, 8, .inl f)) = (wK a cI) (k_set σ 13 f) := rfl
theorem wK_13_s {a : Nat → Nat} {cI : ClassId} {σ : k_M} {k : Nat} {v : Int32} : ((wK a cI) σ).set 13 (a 13, .inl (cI, 8, .inl (upd (σ 13) k v))) = (wK a cI) (k_put σ 13 k v) := rfl
theorem wK_14 {a : Nat → Nat} {cI : ClassId} {σ : k_M} : ((wK a cI) σ)[14]? = some (a 14, .inl (cI, 5, .inl (σ 14))) := rfl
theorem wK_14_c {a : Nat → Nat} {cI : ClassId} {σ : k_M} {f : Nat → Int32} : ((wK a cI) σ).set 14 (a 14, .inl (cI, 5, .inl f)) = (wK a cI) (k_set σ 14 f) := rfl
theorem wK_14_s {a : Nat → Nat} {cI : ClassId} {σ : k_M} {k : Nat} {v : Int32} : ((wK a cI) σ).set 14 (a 14, .inl (cI, 5, .inl (upd (σ 14) k v))) = (wK a cI) (k_put σ 14 k v) := rfl
theorem wK_15 {a : Nat → Nat} {cI : ClassId} {σ : k_M} : ((wK a cI) σ)[15]? = some (a 15, .inl (cI, 200, .inl (σ 15))) := rfl
theorem wK_15_c {a : Nat → Nat} {cI : ClassId} {σ : k_M} {f : Nat → Int32} : ((wK a cI) σ).set 15 (a 15, .inl (cI, 200, .inl f)) = (wK a cI) (k_set σ 15 f) := rfl
theorem wK_15_s {a : Nat → Nat} {cI : ClassId} {σ : k_M} {k : Nat} {v : Int32} : ((wK a cI) σ).set 15 (a 15, .inl (cI, 200, .inl (upd (σ 15) k v))) = (wK a cI) (k_put σ 15 k v) := rfl
theorem wK_16 {a : Nat → Nat} {cI : ClassId} {σ : k_M} : ((wK a cI) σ)[16]? = some (a 16, .inr (1, [.ref (a 17), .ref (a 18), .ref (a 19), .int (σ 16 3)])) := rfl
theorem wK_16_3 {a : Nat → Nat} {cI : ClassId} {σ : k_M} {v : Int32} : ((wK a cI) σ).set 16 (a 16, .inr (1, List.set [.ref (a 17), .ref (a 18), .ref (a 19), .int (σ 16 3)] 3 (.int v))) = (wK a cI) (k_put σ 16 3 v) := rfl
theorem wK_17 {a : Nat → Nat} {cI : ClassId} {σ : k_M} : ((wK a cI) σ)[17]? = some (a 17, .inl (cI, 24, .inl (σ 17))) := rfl
theorem wK_17_c {a : Nat → Nat} {cI : ClassId} {σ : k_M} {f : Nat → Int32} : ((wK a cI) σ).set 17 (a 17, .inl (cI, 24, .inl f)) = (wK a cI) (k_set σ 17 f) := rfl
theorem wK_17_s {a : Nat → Nat} {cI : ClassId} {σ : k_M} {k : Nat} {v : Int32} : ((wK a cI) σ).set 17 (a 17, .inl (cI, 24, .inl (upd (σ 17) k v))) = (wK a cI) (k_put σ 17 k v) := rfl
theorem wK_18 {a : Nat → Nat} {cI : ClassId} {σ : k_M} : ((wK a cI) σ)[18]? = some (a 18, .inl (cI, 24, .inl (σ 18))) := rfl
theorem wK_18_c {a : Nat → Nat} {cI : ClassId} {σ : k_M} {f : Nat → Int32} : ((wK a cI) σ).set 18 (a 18, .inl (cI, 24, .inl f)) = (wK a cI) (k_set σ 18 f) := rfl
theorem wK_18_s {a : Nat → Nat} {cI : ClassId} {σ : k_M} {k : Nat} {v : Int32} : ((wK a cI) σ).set 18 (a 18, .inl (cI, 24, .inl (upd (σ 18) k v))) = (wK a cI) (k_put σ 18 k v) := rfl
theorem wK_19 {a : Nat → Nat} {cI : ClassId} {σ : k_M} : ((wK a cI) σ)[19]? = some (a 19, .inl (cI, 24, .inl (σ 19))) := rfl
theorem wK_19_c {a : Nat → Nat} {cI : ClassId} {σ : k_M} {f : Nat → Int32} : ((wK a cI) σ).set 19 (a 19, .inl (cI, 24, .inl f)) = (wK a cI) (k_set σ 19 f) := rfl
theorem wK_19_s {a : Nat → Nat} {cI : ClassId} {σ : k_M} {k : Nat} {v : Int32} : ((wK a cI) σ).set 19 (a 19, .inl (cI, 24, .inl (upd (σ 19) k v))) = (wK a cI) (k_put σ 19 k v) := rfl
theorem kb_m7 : (Int8.ofInt (-7)).toInt32 = (-7 : Int32) := by decide
theorem kb_m6 : (Int8.ofInt (-6)).toInt32 = (-6 : Int32) := by decide
theorem kb_m5 : (Int8.ofInt (-5)).toInt32 = (-5 : Int32) := by decide
theorem kb_m4 : (Int8.ofInt (-4)).toInt32 = (-4 : Int32) := by decide
theorem kb_m3 : (Int8.ofInt (-3)).toInt32 = (-3 : Int32) := by decide
theorem kb_m2 : (Int8.ofInt (-2)).toInt32 = (-2 : Int32) := by decide
theorem kb_7 : (Int8.ofInt (7)).toInt32 = (7 : Int32) := by decide
theorem kb_8 : (Int8.ofInt (8)).toInt32 = (8 : Int32) := by decide
theorem kb_9 : (Int8.ofInt (9)).toInt32 = (9 : Int32) := by decide
theorem kb_10 : (Int8.ofInt (10)).toInt32 = (10 : Int32) := by decide
theorem kb_14 : (Int8.ofInt (14)).toInt32 = (14 : Int32) := by decide
theorem kb_15 : (Int8.ofInt (15)).toInt32 = (15 : Int32) := by decide
theorem kb_16 : (Int8.ofInt (16)).toInt32 = (16 : Int32) := by decide
theorem kb_21 : (Int8.ofInt (21)).toInt32 = (21 : Int32) := by decide
theorem kb_22 : (Int8.ofInt (22)).toInt32 = (22 : Int32) := by decide
theorem kb_23 : (Int8.ofInt (23)).toInt32 = (23 : Int32) := by decide
theorem kb_24 : (Int8.ofInt (24)).toInt32 = (24 : Int32) := by decide
theorem kb_33 : (Int8.ofInt (33)).toInt32 = (33 : Int32) := by decide
theorem kb_40 : (Int8.ofInt (40)).toInt32 = (40 : Int32) := by decide
theorem kb_47 : (Int8.ofInt (47)).toInt32 = (47 : Int32) := by decide
theorem kb_48 : (Int8.ofInt (48)).toInt32 = (48 : Int32) := by decide
theorem kb_63 : (Int8.ofInt (63)).toInt32 = (63 : Int32) := by decide
theorem kb_88 : (Int8.ofInt (88)).toInt32 = (88 : Int32) := by decide
theorem kb_89 : (Int8.ofInt (89)).toInt32 = (89 : Int32) := by decide
theorem kb_90 : (Int8.ofInt (90)).toInt32 = (90 : Int32) := by decide
theorem kb_95 : (Int8.ofInt (95)).toInt32 = (95 : Int32) := by decide
theorem kb_100 : (Int8.ofInt (100)).toInt32 = (100 : Int32) := by decide
theorem kb_102 : (Int8.ofInt (102)).toInt32 = (102 : Int32) := by decide
theorem kb_115 : (Int8.ofInt (115)).toInt32 = (115 : Int32) := by decide
theorem kb_116 : (Int8.ofInt (116)).toInt32 = (116 : Int32) := by decide
theorem kb_126 : (Int8.ofInt (126)).toInt32 = (126 : Int32) := by decide
theorem kc_m1 : Int32.ofInt (-1) = (-1 : Int32) := by decide
theorem kc_0 : Int32.ofInt (0) = (0 : Int32) := by decide
theorem kc_1 : Int32.ofInt (1) = (1 : Int32) := by decide
theorem kc_2 : Int32.ofInt (2) = (2 : Int32) := by decide
theorem kc_3 : Int32.ofInt (3) = (3 : Int32) := by decide
theorem kc_4 : Int32.ofInt (4) = (4 : Int32) := by decide
theorem kc_5 : Int32.ofInt (5) = (5 : Int32) := by decide
theorem ks_m255 : (Int16.ofInt (-255)).toInt32 = (-255 : Int32) := by decide
theorem ks_199 : (Int16.ofInt (199)).toInt32 = (199 : Int32) := by decide
theorem ks_200 : (Int16.ofInt (200)).toInt32 = (200 : Int32) := by decide
theorem ks_254 : (Int16.ofInt (254)).toInt32 = (254 : Int32) := by decide
theorem ks_295 : (Int16.ofInt (295)).toInt32 = (295 : Int32) := by decide
theorem ks_367 : (Int16.ofInt (367)).toInt32 = (367 : Int32) := by decide
theorem ks_368 : (Int16.ofInt (368)).toInt32 = (368 : Int32) := by decide
theorem ks_369 : (Int16.ofInt (369)).toInt32 = (369 : Int32) := by decide
theorem ks_370 : (Int16.ofInt (370)).toInt32 = (370 : Int32) := by decide
theorem ks_371 : (Int16.ofInt (371)).toInt32 = (371 : Int32) := by decide
theorem kne_23 : ¬ (23 : Int32) = 0 := by decide
theorem kne_47 : ¬ (47 : Int32) = 0 := by decide
theorem kt_0 : (0 : Int32).toInt = 0 := by decide
theorem kt_1 : (1 : Int32).toInt = 1 := by decide
theorem kt_2 : (2 : Int32).toInt = 2 := by decide
theorem kt_3 : (3 : Int32).toInt = 3 := by decide
theorem kt_4 : (4 : Int32).toInt = 4 := by decide
theorem kt_5 : (5 : Int32).toInt = 5 := by decide
theorem kt_6 : (6 : Int32).toInt = 6 := by decide
theorem kt_7 : (7 : Int32).toInt = 7 := by decide
theorem kt_98 : (98 : Int32).toInt = 98 := by decide
theorem kt_99 : (99 : Int32).toInt = 99 := by decide
theorem kt_100 : (100 : Int32).toInt = 100 := by decide
theorem kt_101 : (101 : Int32).toInt = 101 := by decide
theorem kt_102 : (102 : Int32).toInt = 102 := by decide
theorem kt_103 : (103 : Int32).toInt = 103 := by decide
theorem kt_104 : (104 : Int32).toInt = 104 := by decide
theorem kt_105 : (105 : Int32).toInt = 105 := by decide
theorem kt_106 : (106 : Int32).toInt = 106 := by decide
theorem kt_107 : (107 : Int32).toInt = 107 := by decide
theorem kt_108 : (108 : Int32).toInt = 108 := by decide
theorem kt_109 : (109 : Int32).toInt = 109 := by decide
theorem kt_110 : (110 : Int32).toInt = 110 := by decide
theorem kt_111 : (111 : Int32).toInt = 111 := by decide
theorem kt_112 : (112 : Int32).toInt = 112 := by decide
theorem kt_113 : (113 : Int32).toInt = 113 := by decide
theorem kt_114 : (114 : Int32).toInt = 114 := by decide
theorem kt_115 : (115 : Int32).toInt = 115 := by decide
theorem kt_116 : (116 : Int32).toInt = 116 := by decide
theorem kt_117 : (117 : Int32).toInt = 117 := by decide
theorem kt_118 : (118 : Int32).toInt = 118 := by decide
theorem kt_119 : (119 : Int32).toInt = 119 := by decide
theorem ka_5 : Int32.ofNat 5 = (5 : Int32) := by decide
theorem ka_8 : Int32.ofNat 8 = (8 : Int32) := by decide
theorem ka_40 : Int32.ofNat 40 = (40 : Int32) := by decide
theorem ka_200 : Int32.ofNat 200 = (200 : Int32) := by decide
theorem khit {x k : Int32} {z : Int} (h : x = k) (hk : k.toInt = z) : x.toInt = z := by rw [h, hk]
theorem kz_0 : narrow .boolean (.int 0) = .int 0 := by decide +kernel
theorem kz_1 : narrow .boolean (.int 1) = .int 1 := by decide +kernel
theorem kz_of {r : Int32} (h : r = 0 ∨ r = 1) : narrow .boolean (.int r) = .int r := by
  rcases h with rfl | rfl
  · exact kz_0
  · exact kz_1
theorem kzo_0 : (0 : Int32) = 0 ∨ (0 : Int32) = 1 := Or.inl rfl
theorem kzo_1 : (1 : Int32) = 0 ∨ (1 : Int32) = 1 := Or.inr rfl
