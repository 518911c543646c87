/-! ===== BEGIN words of one list among another's, by their places ===== -/
theorem goodIn_r {big : List Cond} (ws : List Cond) (ps : List Nat) (hp : ws = ps.filterMap (fun i => big[i]?)) (h : ws.all goodWord = true) : GoodIn big ws := by
  intro w hw
  have h1 := List.all_eq_true.mp h w hw
  rw [hp] at hw
  obtain ⟨i, -, hi⟩ := List.mem_filterMap.mp hw
  have hm : w ∈ big := by first | exact List.mem_of_getElem? hi | exact List.getElem?_mem hi
  exact ⟨hm, good_of_word h1⟩
theorem goodIn_app {big a b : List Cond} (ha : GoodIn big a) (hb : GoodIn big b) : GoodIn big (a ++ b) := fun w h => (List.mem_append.mp h).elim (ha w) (hb w)
theorem goodIn_ca {big a b : List Cond} {c : Cond} (ha : GoodIn big (c :: a)) (hb : GoodIn big b) : GoodIn big (c :: (a ++ b)) := fun w h => (List.mem_cons.mp h).elim (fun e => ha w (List.mem_cons.mpr (Or.inl e))) (fun h => (List.mem_append.mp h).elim (fun h => ha w (List.mem_cons.mpr (Or.inr h))) (hb w))
theorem goodIn_sub {big ws : List Cond} (hm : ∀ w ∈ ws, w ∈ big) (h : ws.all goodWord = true) : GoodIn big ws := fun w hw => ⟨hm w hw, good_of_word (List.all_eq_true.mp h w hw)⟩
/-! ===== END ===== -/

/-! ===== BEGIN printed: names, fields, word lists, decode rows ===== -/
def RX0 : String := "FreshShares$Circle"
def TX0 : u_T := fun k => match k with
  | 0 => ("FreshShares$Circle", "rows", "[I", true)
  | 1 => ("FreshShares$Circle", "bends", "[I", true)
  | 2 => ("FreshShares$Circle", "shares", "[I", true)
  | 3 => ("FreshShares$Circle", "seals", "[I", true)
  | 4 => ("FreshShares$Circle", "thresholds", "[I", true)
  | 5 => ("FreshShares$Circle", "stolen", "LFreshShares$Loot;", true)
  | 6 => ("FreshShares$Circle", "holders", "I", false)
  | 7 => ("FreshShares$Circle", "threshold", "I", false)
  | 8 => ("FreshShares$Circle", "epoch", "I", false)
  | 9 => ("FreshShares$Circle", "liars", "I", false)
  | 10 => ("FreshShares$Circle", "struck", "I", false)
  | _ => ("FreshShares$Circle", "ordersDone", "I", false)
def tyX0 : Nat → FieldType := fun k => match k with
  | 0 => .array .int
  | 1 => .array .int
  | 2 => .array .int
  | 3 => .array .int
  | 4 => .array .int
  | 5 => .object "FreshShares$Loot"
  | 6 => .int
  | 7 => .int
  | 8 => .int
  | 9 => .int
  | 10 => .int
  | _ => .int
abbrev wsX00 : List Cond := u_ws RX0 TX0 12
theorem nmX0 : ∀ a, a < 12 → ∀ b, b < 12 → a ≠ b → (TX0 a).2.1 ≠ (TX0 b).2.1 := by decide +kernel
theorem tyX0_ok : ∀ k, k < 12 → parseFieldDescriptor (TX0 k).2.2.1 = some (tyX0 k) := by decide +kernel
abbrev cX0_init : ByteArray := prog_2_method_1_code
def yX0_init : MethodName := ⟨RX0, "<init>", "()V"⟩
abbrev cX0_copyFrom : ByteArray := prog_2_method_2_code
def yX0_copyFrom : MethodName := ⟨RX0, "copyFrom", "(LFreshShares$Circle;)V"⟩
abbrev cX0_isDealt : ByteArray := prog_2_method_3_code
def yX0_isDealt : MethodName := ⟨RX0, "isDealt", "()Z"⟩
abbrev cX0_isLastEpoch : ByteArray := prog_2_method_4_code
def yX0_isLastEpoch : MethodName := ⟨RX0, "isLastEpoch", "()Z"⟩
abbrev cX0_wasEpoch : ByteArray := prog_2_method_5_code
def yX0_wasEpoch : MethodName := ⟨RX0, "wasEpoch", "(I)Z"⟩
abbrev cX0_thresholdOf : ByteArray := prog_2_method_6_code
def yX0_thresholdOf : MethodName := ⟨RX0, "thresholdOf", "(I)I"⟩
abbrev cX0_beginEpoch : ByteArray := prog_2_method_7_code
def yX0_beginEpoch : MethodName := ⟨RX0, "beginEpoch", "(I)V"⟩
abbrev cX0_bend : ByteArray := prog_2_method_8_code
def yX0_bend : MethodName := ⟨RX0, "bend", "(II)I"⟩
abbrev cX0_tells : ByteArray := prog_2_method_9_code
def yX0_tells : MethodName := ⟨RX0, "tells", "(I)I"⟩
abbrev cX0_firstLostEpoch : ByteArray := prog_2_method_10_code
def yX0_firstLostEpoch : MethodName := ⟨RX0, "firstLostEpoch", "()I"⟩
def RX1 : String := "FreshShares$Loot"
def TX1 : u_T := fun k => match k with
  | 0 => ("FreshShares$Loot", "members", "[I", true)
  | 1 => ("FreshShares$Loot", "epochs", "[I", true)
  | 2 => ("FreshShares$Loot", "shares", "[I", true)
  | _ => ("FreshShares$Loot", "size", "I", false)
def tyX1 : Nat → FieldType := fun k => match k with
  | 0 => .array .int
  | 1 => .array .int
  | 2 => .array .int
  | _ => .int
abbrev wsX10 : List Cond := u_ws RX1 TX1 4
theorem nmX1 : ∀ a, a < 4 → ∀ b, b < 4 → a ≠ b → (TX1 a).2.1 ≠ (TX1 b).2.1 := by decide +kernel
theorem tyX1_ok : ∀ k, k < 4 → parseFieldDescriptor (TX1 k).2.2.1 = some (tyX1 k) := by decide +kernel
abbrev cX1_init : ByteArray := prog_3_method_1_code
def yX1_init : MethodName := ⟨RX1, "<init>", "()V"⟩
abbrev cX1_copyFrom : ByteArray := prog_3_method_2_code
def yX1_copyFrom : MethodName := ⟨RX1, "copyFrom", "(LFreshShares$Loot;)V"⟩
abbrev cX1_isFull : ByteArray := prog_3_method_3_code
def yX1_isFull : MethodName := ⟨RX1, "isFull", "()Z"⟩
abbrev cX1_add : ByteArray := prog_3_method_4_code
def yX1_add : MethodName := ⟨RX1, "add", "(III)V"⟩
abbrev cX1_victims : ByteArray := prog_3_method_5_code
def yX1_victims : MethodName := ⟨RX1, "victims", "(I)I"⟩
abbrev cX1_firstShare : ByteArray := prog_3_method_6_code
def yX1_firstShare : MethodName := ⟨RX1, "firstShare", "(II)I"⟩
def RX2 : String := "FreshShares$Orders"
def TX2 : u_T := fun k => match k with
  | 0 => ("FreshShares$Orders", "circle", "LFreshShares$Circle;", true)
  | 1 => ("FreshShares$Orders", "told", "[I", true)
  | 2 => ("FreshShares$Orders", "polynomials", "[I", true)
  | 3 => ("FreshShares$Orders", "sealsSent", "[I", true)
  | 4 => ("FreshShares$Orders", "factors", "[I", true)
  | _ => ("FreshShares$Orders", "taken", "I", false)
def tyX2 : Nat → FieldType := fun k => match k with
  | 0 => .object "FreshShares$Circle"
  | 1 => .array .int
  | 2 => .array .int
  | 3 => .array .int
  | 4 => .array .int
  | _ => .int
abbrev wsX20 : List Cond := u_ws RX2 TX2 6
theorem nmX2 : ∀ a, a < 6 → ∀ b, b < 6 → a ≠ b → (TX2 a).2.1 ≠ (TX2 b).2.1 := by decide +kernel
theorem tyX2_ok : ∀ k, k < 6 → parseFieldDescriptor (TX2 k).2.2.1 = some (tyX2 k) := by decide +kernel
abbrev cX2_init : ByteArray := prog_4_method_1_code
def yX2_init : MethodName := ⟨RX2, "<init>", "()V"⟩
abbrev cX2_perform : ByteArray := prog_4_method_2_code
def yX2_perform : MethodName := ⟨RX2, "perform", "(LFreshShares$Script;)I"⟩
abbrev cX2_isFull : ByteArray := prog_4_method_3_code
def yX2_isFull : MethodName := ⟨RX2, "isFull", "(I)Z"⟩
abbrev cX2_deal : ByteArray := prog_4_method_4_code
def yX2_deal : MethodName := ⟨RX2, "deal", "(I)I"⟩
abbrev cX2_lose : ByteArray := prog_4_method_5_code
def yX2_lose : MethodName := ⟨RX2, "lose", "(I)I"⟩
abbrev cX2_openedByThose : ByteArray := prog_4_method_6_code
def yX2_openedByThose : MethodName := ⟨RX2, "openedByThose", "(II)I"⟩
abbrev cX2_hear : ByteArray := prog_4_method_7_code
def yX2_hear : MethodName := ⟨RX2, "hear", "(I)Z"⟩
abbrev cX2_rebuild : ByteArray := prog_4_method_8_code
def yX2_rebuild : MethodName := ⟨RX2, "rebuild", "(II)I"⟩
abbrev cX2_steal : ByteArray := prog_4_method_9_code
def yX2_steal : MethodName := ⟨RX2, "steal", "(I)I"⟩
abbrev cX2_fresh : ByteArray := prog_4_method_10_code
def yX2_fresh : MethodName := ⟨RX2, "fresh", "()I"⟩
abbrev cX2_move : ByteArray := prog_4_method_11_code
def yX2_move : MethodName := ⟨RX2, "move", "(II)I"⟩
abbrev cX2_offer : ByteArray := prog_4_method_12_code
def yX2_offer : MethodName := ⟨RX2, "offer", "(III)V"⟩
abbrev cX2_sent : ByteArray := prog_4_method_13_code
def yX2_sent : MethodName := ⟨RX2, "sent", "(III)I"⟩
abbrev cX2_pourTaken : ByteArray := prog_4_method_14_code
def yX2_pourTaken : MethodName := ⟨RX2, "pourTaken", "(I)V"⟩
abbrev cX2_pour : ByteArray := prog_4_method_15_code
def yX2_pour : MethodName := ⟨RX2, "pour", "(II)V"⟩
abbrev cX2_closeEpoch : ByteArray := prog_4_method_16_code
def yX2_closeEpoch : MethodName := ⟨RX2, "closeEpoch", "(I)I"⟩
abbrev cX2_polynomialAt : ByteArray := prog_4_method_17_code
def yX2_polynomialAt : MethodName := ⟨RX2, "polynomialAt", "([IIII)I"⟩
abbrev cX2_opened : ByteArray := prog_4_method_18_code
def yX2_opened : MethodName := ⟨RX2, "opened", "(II)I"⟩
abbrev cX2_worldsLeft : ByteArray := prog_4_method_19_code
def yX2_worldsLeft : MethodName := ⟨RX2, "worldsLeft", "(II)I"⟩
def RX3 : String := "FreshShares$Script"
def TX3 : u_T := fun k => match k with
  | 0 => ("FreshShares$Script", "signs", "[I", true)
  | _ => ("FreshShares$Script", "length", "I", false)
def tyX3 : Nat → FieldType := fun k => match k with
  | 0 => .array .int
  | _ => .int
abbrev wsX30 : List Cond := u_ws RX3 TX3 2
theorem nmX3 : ∀ a, a < 2 → ∀ b, b < 2 → a ≠ b → (TX3 a).2.1 ≠ (TX3 b).2.1 := by decide +kernel
theorem tyX3_ok : ∀ k, k < 2 → parseFieldDescriptor (TX3 k).2.2.1 = some (tyX3 k) := by decide +kernel
abbrev cX3_init : ByteArray := prog_5_method_1_code
def yX3_init : MethodName := ⟨RX3, "<init>", "()V"⟩
abbrev cX3_append : ByteArray := prog_5_method_2_code
def yX3_append : MethodName := ⟨RX3, "append", "(I)Z"⟩
abbrev cX3_signAt : ByteArray := prog_5_method_3_code
def yX3_signAt : MethodName := ⟨RX3, "signAt", "(I)I"⟩
abbrev cX3_letter : ByteArray := prog_5_method_4_code
def yX3_letter : MethodName := ⟨RX3, "letter", "()I"⟩
abbrev cX3_figureAt : ByteArray := prog_5_method_5_code
def yX3_figureAt : MethodName := ⟨RX3, "figureAt", "(I)I"⟩
abbrev cX3_faultPlace : ByteArray := prog_5_method_6_code
def yX3_faultPlace : MethodName := ⟨RX3, "faultPlace", "()I"⟩
abbrev cX3_members : ByteArray := prog_5_method_7_code
def yX3_members : MethodName := ⟨RX3, "members", "()I"⟩
abbrev cX3_canStand : ByteArray := prog_5_method_8_code
def yX3_canStand : MethodName := ⟨RX3, "canStand", "(I)Z"⟩
abbrev cX3_firstOfSet : ByteArray := prog_5_method_9_code
def yX3_firstOfSet : MethodName := ⟨RX3, "firstOfSet", "()I"⟩
abbrev cX3_fewestSigns : ByteArray := prog_5_method_10_code
def yX3_fewestSigns : MethodName := ⟨RX3, "fewestSigns", "()I"⟩
abbrev cX3_isLetter : ByteArray := prog_5_method_11_code
def yX3_isLetter : MethodName := ⟨RX3, "isLetter", "(I)Z"⟩
def RX4 : String := "FreshShares$Sets"
def TX4 : u_T := fun k => match k with
  | _ => ("", "", "", false)
def tyX4 : Nat → FieldType := fun k => match k with
  | _ => .int
abbrev wsX40 : List Cond := u_ws RX4 TX4 0
theorem nmX4 : ∀ a, a < 0 → ∀ b, b < 0 → a ≠ b → (TX4 a).2.1 ≠ (TX4 b).2.1 := by decide +kernel
theorem tyX4_ok : ∀ k, k < 0 → parseFieldDescriptor (TX4 k).2.2.1 = some (tyX4 k) := by decide +kernel
abbrev cX4_only : ByteArray := prog_6_method_2_code
def yX4_only : MethodName := ⟨RX4, "only", "(I)I"⟩
abbrev cX4_has : ByteArray := prog_6_method_3_code
def yX4_has : MethodName := ⟨RX4, "has", "(II)Z"⟩
abbrev cX4_lowest : ByteArray := prog_6_method_4_code
def yX4_lowest : MethodName := ⟨RX4, "lowest", "(II)I"⟩
def RX5 : String := "FreshShares$Sums"
def TX5 : u_T := fun k => match k with
  | _ => ("", "", "", false)
def tyX5 : Nat → FieldType := fun k => match k with
  | _ => .int
abbrev wsX50 : List Cond := u_ws RX5 TX5 0
theorem nmX5 : ∀ a, a < 0 → ∀ b, b < 0 → a ≠ b → (TX5 a).2.1 ≠ (TX5 b).2.1 := by decide +kernel
theorem tyX5_ok : ∀ k, k < 0 → parseFieldDescriptor (TX5 k).2.2.1 = some (tyX5 k) := by decide +kernel
abbrev cX5_plus : ByteArray := prog_7_method_2_code
def yX5_plus : MethodName := ⟨RX5, "plus", "(II)I"⟩
abbrev cX5_times : ByteArray := prog_7_method_3_code
def yX5_times : MethodName := ⟨RX5, "times", "(II)I"⟩
abbrev cX5_less : ByteArray := prog_7_method_4_code
def yX5_less : MethodName := ⟨RX5, "less", "(II)I"⟩
abbrev cX5_inverse : ByteArray := prog_7_method_5_code
def yX5_inverse : MethodName := ⟨RX5, "inverse", "(I)I"⟩
abbrev cX5_joined : ByteArray := prog_7_method_6_code
def yX5_joined : MethodName := ⟨RX5, "joined", "(II)I"⟩
abbrev cX5_raised : ByteArray := prog_7_method_7_code
def yX5_raised : MethodName := ⟨RX5, "raised", "(II)I"⟩
abbrev cX5_sealOf : ByteArray := prog_7_method_8_code
def yX5_sealOf : MethodName := ⟨RX5, "sealOf", "(I)I"⟩
abbrev cX5_fitting : ByteArray := prog_7_method_9_code
def yX5_fitting : MethodName := ⟨RX5, "fitting", "(II[II)Z"⟩
abbrev cX5_weight : ByteArray := prog_7_method_10_code
def yX5_weight : MethodName := ⟨RX5, "weight", "(III)I"⟩
abbrev cX5_weighed : ByteArray := prog_7_method_11_code
def yX5_weighed : MethodName := ⟨RX5, "weighed", "([III)I"⟩
def RX6 : String := "FreshShares"
def TX6 : u_T := fun k => match k with
  | 0 => ("FreshShares", "script", "LFreshShares$Script;", true)
  | 1 => ("FreshShares", "orders", "LFreshShares$Orders;", true)
  | 2 => ("FreshShares", "circle", "LFreshShares$Circle;", true)
  | _ => ("FreshShares", "images", "[LFreshShares$Circle;", true)
def tyX6 : Nat → FieldType := fun k => match k with
  | 0 => .object "FreshShares$Script"
  | 1 => .object "FreshShares$Orders"
  | 2 => .object "FreshShares$Circle"
  | _ => .array (.object "FreshShares$Circle")
abbrev wsX60 : List Cond := u_ws RX6 TX6 4
theorem nmX6 : ∀ a, a < 4 → ∀ b, b < 4 → a ≠ b → (TX6 a).2.1 ≠ (TX6 b).2.1 := by decide +kernel
theorem tyX6_ok : ∀ k, k < 4 → parseFieldDescriptor (TX6 k).2.2.1 = some (tyX6 k) := by decide +kernel
abbrev cX6_init : ByteArray := prog_1_method_1_code
def yX6_init : MethodName := ⟨RX6, "<init>", "()V"⟩
abbrev cX6_row : ByteArray := prog_1_method_2_code
def yX6_row : MethodName := ⟨RX6, "row", "(III)I"⟩
abbrev cX6_bent : ByteArray := prog_1_method_3_code
def yX6_bent : MethodName := ⟨RX6, "bent", "(III)I"⟩
abbrev cX6_member : ByteArray := prog_1_method_4_code
def yX6_member : MethodName := ⟨RX6, "member", "(II)I"⟩
abbrev cX6_say : ByteArray := prog_1_method_5_code
def yX6_say : MethodName := ⟨RX6, "say", "(I)I"⟩
abbrev cX6_wipe : ByteArray := prog_1_method_6_code
def yX6_wipe : MethodName := ⟨RX6, "wipe", "()I"⟩
abbrev cX6_fault : ByteArray := prog_1_method_7_code
def yX6_fault : MethodName := ⟨RX6, "fault", "()I"⟩
abbrev cX6_act : ByteArray := prog_1_method_8_code
def yX6_act : MethodName := ⟨RX6, "act", "()I"⟩
abbrev cX6_named : ByteArray := prog_1_method_9_code
def yX6_named : MethodName := ⟨RX6, "named", "(I)I"⟩
abbrev cX6_fits : ByteArray := prog_1_method_10_code
def yX6_fits : MethodName := ⟨RX6, "fits", "(II)I"⟩
abbrev cX6_seal : ByteArray := prog_1_method_11_code
def yX6_seal : MethodName := ⟨RX6, "seal", "(I)I"⟩
abbrev cX6_weighs : ByteArray := prog_1_method_12_code
def yX6_weighs : MethodName := ⟨RX6, "weighs", "(III)I"⟩
abbrev cX6_loot : ByteArray := prog_1_method_13_code
def yX6_loot : MethodName := ⟨RX6, "loot", "(II)I"⟩
abbrev cX6_worlds : ByteArray := prog_1_method_14_code
def yX6_worlds : MethodName := ⟨RX6, "worlds", "(II)I"⟩
abbrev cX6_thief : ByteArray := prog_1_method_15_code
def yX6_thief : MethodName := ⟨RX6, "thief", "(I)I"⟩
abbrev cX6_image : ByteArray := prog_1_method_16_code
def yX6_image : MethodName := ⟨RX6, "image", "(I)I"⟩
abbrev cX6_restore : ByteArray := prog_1_method_17_code
def yX6_restore : MethodName := ⟨RX6, "restore", "(I)I"⟩
abbrev cX6_count : ByteArray := prog_1_method_18_code
def yX6_count : MethodName := ⟨RX6, "count", "(I)I"⟩
abbrev cX6_keptImages : ByteArray := prog_1_method_19_code
def yX6_keptImages : MethodName := ⟨RX6, "keptImages", "()I"⟩
abbrev cX6_shareFacts : ByteArray := prog_1_method_20_code
def yX6_shareFacts : MethodName := ⟨RX6, "shareFacts", "(II)I"⟩
abbrev cX6_isMember : ByteArray := prog_1_method_21_code
def yX6_isMember : MethodName := ⟨RX6, "isMember", "(I)Z"⟩
abbrev cX6_isValue : ByteArray := prog_1_method_22_code
def yX6_isValue : MethodName := ⟨RX6, "isValue", "(I)Z"⟩
abbrev cX6_highestBend : ByteArray := prog_1_method_23_code
def yX6_highestBend : MethodName := ⟨RX6, "highestBend", "(I)I"⟩
def RX7 : String := "FreshSharesModel"
def TX7 : u_T := fun k => match k with
  | 0 => ("FreshSharesModel", "state", "[I", true)
  | 1 => ("FreshSharesModel", "text", "[I", true)
  | 2 => ("FreshSharesModel", "signs", "I", false)
  | 3 => ("FreshSharesModel", "poly", "[I", true)
  | 4 => ("FreshSharesModel", "size", "I", false)
  | 5 => ("FreshSharesModel", "added", "[I", true)
  | 6 => ("FreshSharesModel", "sealed", "[I", true)
  | 7 => ("FreshSharesModel", "images", "[I", true)
  | _ => ("FreshSharesModel", "isKept", "[Z", true)
def tyX7 : Nat → FieldType := fun k => match k with
  | 0 => .array .int
  | 1 => .array .int
  | 2 => .int
  | 3 => .array .int
  | 4 => .int
  | 5 => .array .int
  | 6 => .array .int
  | 7 => .array .int
  | _ => .array .boolean
abbrev wsX70 : List Cond := u_ws RX7 TX7 9
theorem nmX7 : ∀ a, a < 9 → ∀ b, b < 9 → a ≠ b → (TX7 a).2.1 ≠ (TX7 b).2.1 := by decide +kernel
theorem tyX7_ok : ∀ k, k < 9 → parseFieldDescriptor (TX7 k).2.2.1 = some (tyX7 k) := by decide +kernel
abbrev cX7_init : ByteArray := prog_9_method_1_code
def yX7_init : MethodName := ⟨RX7, "<init>", "()V"⟩
abbrev cX7_in : ByteArray := prog_9_method_2_code
def yX7_in : MethodName := ⟨RX7, "in", "(III)Z"⟩
abbrev cX7_isMember : ByteArray := prog_9_method_3_code
def yX7_isMember : MethodName := ⟨RX7, "isMember", "(I)Z"⟩
abbrev cX7_isValue : ByteArray := prog_9_method_4_code
def yX7_isValue : MethodName := ⟨RX7, "isValue", "(I)Z"⟩
abbrev cX7_bentAt : ByteArray := prog_9_method_5_code
def yX7_bentAt : MethodName := ⟨RX7, "bentAt", "(II)I"⟩
abbrev cX7_bentOf : ByteArray := prog_9_method_6_code
def yX7_bentOf : MethodName := ⟨RX7, "bentOf", "(II)I"⟩
abbrev cX7_has : ByteArray := prog_9_method_7_code
def yX7_has : MethodName := ⟨RX7, "has", "(II)Z"⟩
abbrev cX7_isDealt : ByteArray := prog_9_method_8_code
def yX7_isDealt : MethodName := ⟨RX7, "isDealt", "()Z"⟩
abbrev cX7_mod : ByteArray := prog_9_method_9_code
def yX7_mod : MethodName := ⟨RX7, "mod", "(I)I"⟩
abbrev cX7_power : ByteArray := prog_9_method_10_code
def yX7_power : MethodName := ⟨RX7, "power", "(III)I"⟩
abbrev cX7_sealOf : ByteArray := prog_9_method_11_code
def yX7_sealOf : MethodName := ⟨RX7, "sealOf", "(I)I"⟩
abbrev cX7_row : ByteArray := prog_9_method_12_code
def yX7_row : MethodName := ⟨RX7, "row", "(III)I"⟩
abbrev cX7_bent : ByteArray := prog_9_method_13_code
def yX7_bent : MethodName := ⟨RX7, "bent", "(III)I"⟩
abbrev cX7_hasShare : ByteArray := prog_9_method_14_code
def yX7_hasShare : MethodName := ⟨RX7, "hasShare", "(I)Z"⟩
abbrev cX7_told : ByteArray := prog_9_method_15_code
def yX7_told : MethodName := ⟨RX7, "told", "(I)I"⟩
abbrev cX7_isFit : ByteArray := prog_9_method_16_code
def yX7_isFit : MethodName := ⟨RX7, "isFit", "(II)Z"⟩
abbrev cX7_member : ByteArray := prog_9_method_17_code
def yX7_member : MethodName := ⟨RX7, "member", "(II)I"⟩
abbrev cX7_say : ByteArray := prog_9_method_18_code
def yX7_say : MethodName := ⟨RX7, "say", "(I)I"⟩
abbrev cX7_wipe : ByteArray := prog_9_method_19_code
def yX7_wipe : MethodName := ⟨RX7, "wipe", "()I"⟩
abbrev cX7_figure : ByteArray := prog_9_method_20_code
def yX7_figure : MethodName := ⟨RX7, "figure", "(I)I"⟩
abbrev cX7_leastOf : ByteArray := prog_9_method_21_code
def yX7_leastOf : MethodName := ⟨RX7, "leastOf", "(I)I"⟩
abbrev cX7_canStand : ByteArray := prog_9_method_22_code
def yX7_canStand : MethodName := ⟨RX7, "canStand", "(I)Z"⟩
abbrev cX7_faultNow : ByteArray := prog_9_method_23_code
def yX7_faultNow : MethodName := ⟨RX7, "faultNow", "()I"⟩
abbrev cX7_fault : ByteArray := prog_9_method_24_code
def yX7_fault : MethodName := ⟨RX7, "fault", "()I"⟩
abbrev cX7_inverse : ByteArray := prog_9_method_25_code
def yX7_inverse : MethodName := ⟨RX7, "inverse", "(I)I"⟩
abbrev cX7_weight : ByteArray := prog_9_method_26_code
def yX7_weight : MethodName := ⟨RX7, "weight", "(III)I"⟩
abbrev cX7_weighs : ByteArray := prog_9_method_27_code
def yX7_weighs : MethodName := ⟨RX7, "weighs", "(III)I"⟩
abbrev cX7_polyAt : ByteArray := prog_9_method_28_code
def yX7_polyAt : MethodName := ⟨RX7, "polyAt", "(I)I"⟩
abbrev cX7_fitsPoly : ByteArray := prog_9_method_29_code
def yX7_fitsPoly : MethodName := ⟨RX7, "fitsPoly", "(II)Z"⟩
abbrev cX7_layPoly : ByteArray := prog_9_method_30_code
def yX7_layPoly : MethodName := ⟨RX7, "layPoly", "(III)V"⟩
abbrev cX7_having : ByteArray := prog_9_method_31_code
def yX7_having : MethodName := ⟨RX7, "having", "()I"⟩
abbrev cX7_bits : ByteArray := prog_9_method_32_code
def yX7_bits : MethodName := ⟨RX7, "bits", "(I)I"⟩
abbrev cX7_isStruck : ByteArray := prog_9_method_33_code
def yX7_isStruck : MethodName := ⟨RX7, "isStruck", "(I)Z"⟩
abbrev cX7_strike : ByteArray := prog_9_method_34_code
def yX7_strike : MethodName := ⟨RX7, "strike", "()V"⟩
abbrev cX7_nextEpoch : ByteArray := prog_9_method_35_code
def yX7_nextEpoch : MethodName := ⟨RX7, "nextEpoch", "()V"⟩
abbrev cX7_deal : ByteArray := prog_9_method_36_code
def yX7_deal : MethodName := ⟨RX7, "deal", "(I)I"⟩
abbrev cX7_forget : ByteArray := prog_9_method_37_code
def yX7_forget : MethodName := ⟨RX7, "forget", "(I)I"⟩
abbrev cX7_honest : ByteArray := prog_9_method_38_code
def yX7_honest : MethodName := ⟨RX7, "honest", "(I)I"⟩
abbrev cX7_firstOf : ByteArray := prog_9_method_39_code
def yX7_firstOf : MethodName := ⟨RX7, "firstOf", "(II)I"⟩
abbrev cX7_together : ByteArray := prog_9_method_40_code
def yX7_together : MethodName := ⟨RX7, "together", "(II)I"⟩
abbrev cX7_open : ByteArray := prog_9_method_41_code
def yX7_open : MethodName := ⟨RX7, "open", "()I"⟩
abbrev cX7_rebuild : ByteArray := prog_9_method_42_code
def yX7_rebuild : MethodName := ⟨RX7, "rebuild", "()I"⟩
abbrev cX7_steal : ByteArray := prog_9_method_43_code
def yX7_steal : MethodName := ⟨RX7, "steal", "(I)I"⟩
abbrev cX7_fresh : ByteArray := prog_9_method_44_code
def yX7_fresh : MethodName := ⟨RX7, "fresh", "()I"⟩
abbrev cX7_takenFor : ByteArray := prog_9_method_45_code
def yX7_takenFor : MethodName := ⟨RX7, "takenFor", "(I)I"⟩
abbrev cX7_move : ByteArray := prog_9_method_46_code
def yX7_move : MethodName := ⟨RX7, "move", "(I)I"⟩
abbrev cX7_done : ByteArray := prog_9_method_47_code
def yX7_done : MethodName := ⟨RX7, "done", "(I)I"⟩
abbrev cX7_act : ByteArray := prog_9_method_48_code
def yX7_act : MethodName := ⟨RX7, "act", "()I"⟩
abbrev cX7_named : ByteArray := prog_9_method_49_code
def yX7_named : MethodName := ⟨RX7, "named", "(I)I"⟩
abbrev cX7_fits : ByteArray := prog_9_method_50_code
def yX7_fits : MethodName := ⟨RX7, "fits", "(II)I"⟩
abbrev cX7_seal : ByteArray := prog_9_method_51_code
def yX7_seal : MethodName := ⟨RX7, "seal", "(I)I"⟩
abbrev cX7_loot : ByteArray := prog_9_method_52_code
def yX7_loot : MethodName := ⟨RX7, "loot", "(II)I"⟩
abbrev cX7_lootOf : ByteArray := prog_9_method_53_code
def yX7_lootOf : MethodName := ⟨RX7, "lootOf", "(II)I"⟩
abbrev cX7_isWorld : ByteArray := prog_9_method_54_code
def yX7_isWorld : MethodName := ⟨RX7, "isWorld", "(I)Z"⟩
abbrev cX7_isEpoch : ByteArray := prog_9_method_55_code
def yX7_isEpoch : MethodName := ⟨RX7, "isEpoch", "(I)Z"⟩
abbrev cX7_worlds : ByteArray := prog_9_method_56_code
def yX7_worlds : MethodName := ⟨RX7, "worlds", "(II)I"⟩
abbrev cX7_lootFrom : ByteArray := prog_9_method_57_code
def yX7_lootFrom : MethodName := ⟨RX7, "lootFrom", "(II)I"⟩
abbrev cX7_robbed : ByteArray := prog_9_method_58_code
def yX7_robbed : MethodName := ⟨RX7, "robbed", "(I)I"⟩
abbrev cX7_opened : ByteArray := prog_9_method_59_code
def yX7_opened : MethodName := ⟨RX7, "opened", "(II)I"⟩
abbrev cX7_thief : ByteArray := prog_9_method_60_code
def yX7_thief : MethodName := ⟨RX7, "thief", "(I)I"⟩
abbrev cX7_image : ByteArray := prog_9_method_61_code
def yX7_image : MethodName := ⟨RX7, "image", "(I)I"⟩
abbrev cX7_restore : ByteArray := prog_9_method_62_code
def yX7_restore : MethodName := ⟨RX7, "restore", "(I)I"⟩
abbrev cX7_count : ByteArray := prog_9_method_63_code
def yX7_count : MethodName := ⟨RX7, "count", "(I)I"⟩
def RJ6 : String := "java/lang/Integer"
def TJ6 : u_T := fun k => match k with
  | _ => ("", "", "", false)
def tyJ6 : Nat → FieldType := fun k => match k with
  | _ => .int
abbrev wsJ60 : List Cond := u_ws RJ6 TJ6 0
theorem nmJ6 : ∀ a, a < 0 → ∀ b, b < 0 → a ≠ b → (TJ6 a).2.1 ≠ (TJ6 b).2.1 := by decide +kernel
theorem tyJ6_ok : ∀ k, k < 0 → parseFieldDescriptor (TJ6 k).2.2.1 = some (tyJ6 k) := by decide +kernel
abbrev cJ6_bitCount_0f7a4 : ByteArray := prog_10_method_49_code
def yJ6_bitCount_0f7a4 : MethodName := ⟨RJ6, "bitCount", "(I)I"⟩
def RJ9 : String := "java/lang/Math"
def TJ9 : u_T := fun k => match k with
  | _ => ("", "", "", false)
def tyJ9 : Nat → FieldType := fun k => match k with
  | _ => .int
abbrev wsJ90 : List Cond := u_ws RJ9 TJ9 0
theorem nmJ9 : ∀ a, a < 0 → ∀ b, b < 0 → a ≠ b → (TJ9 a).2.1 ≠ (TJ9 b).2.1 := by decide +kernel
theorem tyJ9_ok : ∀ k, k < 0 → parseFieldDescriptor (TJ9 k).2.2.1 = some (tyJ9 k) := by decide +kernel
abbrev cJ9_min_7cf53 : ByteArray := prog_11_method_69_code
def yJ9_min_7cf53 : MethodName := ⟨RJ9, "min", "(II)I"⟩
def RJ10 : String := "java/lang/System"
def TJ10 : u_T := fun k => match k with
  | _ => ("", "", "", false)
def tyJ10 : Nat → FieldType := fun k => match k with
  | _ => .int
abbrev wsJ100 : List Cond := u_ws RJ10 TJ10 0
theorem nmJ10 : ∀ a, a < 0 → ∀ b, b < 0 → a ≠ b → (TJ10 a).2.1 ≠ (TJ10 b).2.1 := by decide +kernel
theorem tyJ10_ok : ∀ k, k < 0 → parseFieldDescriptor (TJ10 k).2.2.1 = some (tyJ10 k) := by decide +kernel
def RJ7 : String := "java/util/Arrays"
def TJ7 : u_T := fun k => match k with
  | _ => ("", "", "", false)
def tyJ7 : Nat → FieldType := fun k => match k with
  | _ => .int
abbrev wsJ70 : List Cond := u_ws RJ7 TJ7 0
theorem nmJ7 : ∀ a, a < 0 → ∀ b, b < 0 → a ≠ b → (TJ7 a).2.1 ≠ (TJ7 b).2.1 := by decide +kernel
theorem tyJ7_ok : ∀ k, k < 0 → parseFieldDescriptor (TJ7 k).2.2.1 = some (tyJ7 k) := by decide +kernel
abbrev cJ7_fill_53178 : ByteArray := prog_13_method_103_code
def yJ7_fill_53178 : MethodName := ⟨RJ7, "fill", "([II)V"⟩
def RL : String := "FreshSharesLaw"
abbrev cL_law : ByteArray := code
def yL_law : MethodName := ⟨RL, "law", "([I)Z"⟩
def wsX1_init : List Cond := .code yX1_init cX1_init 1 none :: ([.methodLink RX1 3 objectInit, .instanceMethod objectInit, .code objectInit ⟨#[0xb1]⟩ 1 none, .arrayClass .int, .fieldLink RX1 9 "FreshShares$Loot" "members" "[I", .fieldLink RX1 15 "FreshShares$Loot" "epochs" "[I", .fieldLink RX1 18 "FreshShares$Loot" "shares" "[I", .fieldLink RX1 21 "FreshShares$Loot" "size" "I"] ++ wsX10)
def wsX0_init_r1 : List Cond := [Cond.methodLink RX0 3 objectInit, Cond.instanceMethod objectInit, Cond.code objectInit ⟨#[0xb1]⟩ 1 none, Cond.arrayClass .int, Cond.fieldLink RX0 9 "FreshShares$Circle" "rows" "[I", Cond.fieldLink RX0 15 "FreshShares$Circle" "bends" "[I", Cond.fieldLink RX0 18 "FreshShares$Circle" "shares" "[I", Cond.fieldLink RX0 21 "FreshShares$Circle" "seals" "[I", Cond.fieldLink RX0 24 "FreshShares$Circle" "thresholds" "[I", Cond.classLink RX0 27 RX1, Cond.instantiable RX1 4, Cond.initialized RX1, Cond.fieldLink RX0 30 "FreshShares$Circle" "stolen" "LFreshShares$Loot;", Cond.fieldLink RX0 34 "FreshShares$Circle" "holders" "I", Cond.fieldLink RX0 38 "FreshShares$Circle" "threshold" "I", Cond.fieldLink RX0 41 "FreshShares$Circle" "epoch" "I", Cond.fieldLink RX0 44 "FreshShares$Circle" "liars" "I", Cond.fieldLink RX0 47 "FreshShares$Circle" "struck" "I", Cond.fieldLink RX0 50 "FreshShares$Circle" "ordersDone" "I", Cond.methodLink RX0 29 yX1_init, Cond.instanceMethod yX1_init, Cond.code yX1_init cX1_init 1 none, Cond.methodLink RX1 3 objectInit, Cond.fieldLink RX1 9 "FreshShares$Loot" "members" "[I"]
def wsX0_init_r2 : List Cond := [Cond.fieldLink RX1 15 "FreshShares$Loot" "epochs" "[I", Cond.fieldLink RX1 18 "FreshShares$Loot" "shares" "[I", Cond.fieldLink RX1 21 "FreshShares$Loot" "size" "I"]
def wsX0_init : List Cond := .code yX0_init cX0_init 2 none :: ((wsX0_init_r1 ++ wsX0_init_r2) ++ wsX00 ++ wsX10)
def wsX1_copyFrom : List Cond := .code yX1_copyFrom cX1_copyFrom 2 none :: ([.fieldLink RX1 9 "FreshShares$Loot" "members" "[I", .methodLink RX1 25 arraycopyName, .native arraycopyName, .static arraycopyName, .initialized "java/lang/System", .fieldLink RX1 15 "FreshShares$Loot" "epochs" "[I", .fieldLink RX1 18 "FreshShares$Loot" "shares" "[I", .fieldLink RX1 21 "FreshShares$Loot" "size" "I"] ++ wsX10)
def wsX0_copyFrom_r1 : List Cond := [Cond.fieldLink RX0 9 "FreshShares$Circle" "rows" "[I", Cond.methodLink RX0 53 arraycopyName, Cond.native arraycopyName, Cond.static arraycopyName, Cond.initialized "java/lang/System", Cond.fieldLink RX0 15 "FreshShares$Circle" "bends" "[I", Cond.fieldLink RX0 18 "FreshShares$Circle" "shares" "[I", Cond.fieldLink RX0 21 "FreshShares$Circle" "seals" "[I", Cond.fieldLink RX0 24 "FreshShares$Circle" "thresholds" "[I", Cond.fieldLink RX0 30 "FreshShares$Circle" "stolen" "LFreshShares$Loot;", Cond.fieldLink RX0 34 "FreshShares$Circle" "holders" "I", Cond.fieldLink RX0 38 "FreshShares$Circle" "threshold" "I", Cond.fieldLink RX0 41 "FreshShares$Circle" "epoch" "I", Cond.fieldLink RX0 44 "FreshShares$Circle" "liars" "I", Cond.fieldLink RX0 47 "FreshShares$Circle" "struck" "I", Cond.fieldLink RX0 50 "FreshShares$Circle" "ordersDone" "I", Cond.methodLink RX0 59 yX1_copyFrom, Cond.instanceMethod yX1_copyFrom, Cond.selects RX1 yX1_copyFrom yX1_copyFrom, Cond.initialized RX1, Cond.code yX1_copyFrom cX1_copyFrom 2 none, Cond.fieldLink RX1 9 "FreshShares$Loot" "members" "[I", Cond.methodLink RX1 25 arraycopyName, Cond.fieldLink RX1 15 "FreshShares$Loot" "epochs" "[I"]
def wsX0_copyFrom_r2 : List Cond := [Cond.fieldLink RX1 18 "FreshShares$Loot" "shares" "[I", Cond.fieldLink RX1 21 "FreshShares$Loot" "size" "I"]
def wsX0_copyFrom : List Cond := .code yX0_copyFrom cX0_copyFrom 2 none :: ((wsX0_copyFrom_r1 ++ wsX0_copyFrom_r2) ++ wsX00 ++ wsX10)
def wsX0_isDealt : List Cond := .code yX0_isDealt cX0_isDealt 1 (some .boolean) :: ([.fieldLink RX0 41 "FreshShares$Circle" "epoch" "I"] ++ wsX00)
def wsX0_isLastEpoch : List Cond := .code yX0_isLastEpoch cX0_isLastEpoch 1 (some .boolean) :: ([.fieldLink RX0 41 "FreshShares$Circle" "epoch" "I"] ++ wsX00)
def wsX0_wasEpoch : List Cond := .code yX0_wasEpoch cX0_wasEpoch 2 (some .boolean) :: ([.fieldLink RX0 41 "FreshShares$Circle" "epoch" "I"] ++ wsX00)
def wsX0_thresholdOf : List Cond := .code yX0_thresholdOf cX0_thresholdOf 2 (some .int) :: ([.fieldLink RX0 24 "FreshShares$Circle" "thresholds" "[I", .methodLink RX0 63 yX0_wasEpoch, .instanceMethod yX0_wasEpoch, .selects RX0 yX0_wasEpoch yX0_wasEpoch, .initialized RX0, .code yX0_wasEpoch cX0_wasEpoch 2 (some .boolean), .fieldLink RX0 41 "FreshShares$Circle" "epoch" "I"] ++ wsX00)
def wsX0_beginEpoch : List Cond := .code yX0_beginEpoch cX0_beginEpoch 2 none :: ([.fieldLink RX0 41 "FreshShares$Circle" "epoch" "I", .fieldLink RX0 38 "FreshShares$Circle" "threshold" "I", .fieldLink RX0 24 "FreshShares$Circle" "thresholds" "[I", .methodLink RX0 67 yX0_isLastEpoch, .instanceMethod yX0_isLastEpoch, .selects RX0 yX0_isLastEpoch yX0_isLastEpoch, .initialized RX0, .code yX0_isLastEpoch cX0_isLastEpoch 1 (some .boolean)] ++ wsX00)
def wsX0_bend : List Cond := .code yX0_bend cX0_bend 3 (some .int) :: ([.fieldLink RX0 15 "FreshShares$Circle" "bends" "[I"] ++ wsX00)
def wsX5_plus : List Cond := .code yX5_plus cX5_plus 2 (some .int) :: ([])
def wsX0_tells : List Cond := .code yX0_tells cX0_tells 2 (some .int) :: ([.fieldLink RX0 18 "FreshShares$Circle" "shares" "[I", .methodLink RX0 71 yX0_bend, .instanceMethod yX0_bend, .selects RX0 yX0_bend yX0_bend, .initialized RX0, .code yX0_bend cX0_bend 3 (some .int), .fieldLink RX0 15 "FreshShares$Circle" "bends" "[I", .methodLink RX0 75 yX5_plus, .static yX5_plus, .initialized RX5, .code yX5_plus cX5_plus 2 (some .int)] ++ wsX00)
def wsX4_only : List Cond := .code yX4_only cX4_only 1 (some .int) :: ([])
def wsX1_victims : List Cond := .code yX1_victims cX1_victims 4 (some .int) :: ([.fieldLink RX1 21 "FreshShares$Loot" "size" "I", .fieldLink RX1 15 "FreshShares$Loot" "epochs" "[I", .fieldLink RX1 9 "FreshShares$Loot" "members" "[I", .methodLink RX1 35 yX4_only, .static yX4_only, .initialized RX4, .code yX4_only cX4_only 1 (some .int)] ++ wsX10)
def wsJ6_bitCount_0f7a4 : List Cond := .code yJ6_bitCount_0f7a4 cJ6_bitCount_0f7a4 1 (some .int) :: ([.constant RJ6 265 (1431655765), .constant RJ6 266 (858993459), .constant RJ6 267 (252645135)])
def wsX0_firstLostEpoch_r1 : List Cond := [Cond.fieldLink RX0 30 "FreshShares$Circle" "stolen" "LFreshShares$Loot;", Cond.methodLink RX0 86 yX1_victims, Cond.instanceMethod yX1_victims, Cond.selects RX1 yX1_victims yX1_victims, Cond.initialized RX1, Cond.code yX1_victims cX1_victims 4 (some .int), Cond.fieldLink RX1 21 "FreshShares$Loot" "size" "I", Cond.fieldLink RX1 15 "FreshShares$Loot" "epochs" "[I", Cond.fieldLink RX1 9 "FreshShares$Loot" "members" "[I", Cond.methodLink RX1 35 yX4_only, Cond.static yX4_only, Cond.initialized RX4, Cond.code yX4_only cX4_only 1 (some .int), Cond.methodLink RX0 90 yJ6_bitCount_0f7a4, Cond.static yJ6_bitCount_0f7a4, Cond.initialized RJ6, Cond.code yJ6_bitCount_0f7a4 cJ6_bitCount_0f7a4 1 (some .int), Cond.constant RJ6 265 (1431655765), Cond.constant RJ6 266 (858993459), Cond.constant RJ6 267 (252645135), Cond.methodLink RX0 95 yX0_thresholdOf, Cond.instanceMethod yX0_thresholdOf, Cond.selects RX0 yX0_thresholdOf yX0_thresholdOf, Cond.initialized RX0]
def wsX0_firstLostEpoch_r2 : List Cond := [Cond.code yX0_thresholdOf cX0_thresholdOf 2 (some .int), Cond.fieldLink RX0 24 "FreshShares$Circle" "thresholds" "[I", Cond.methodLink RX0 63 yX0_wasEpoch, Cond.instanceMethod yX0_wasEpoch, Cond.selects RX0 yX0_wasEpoch yX0_wasEpoch, Cond.code yX0_wasEpoch cX0_wasEpoch 2 (some .boolean), Cond.fieldLink RX0 41 "FreshShares$Circle" "epoch" "I"]
def wsX0_firstLostEpoch : List Cond := .code yX0_firstLostEpoch cX0_firstLostEpoch 3 (some .int) :: ((wsX0_firstLostEpoch_r1 ++ wsX0_firstLostEpoch_r2) ++ wsX00 ++ wsX10)
def wsX1_isFull : List Cond := .code yX1_isFull cX1_isFull 1 (some .boolean) :: ([.fieldLink RX1 21 "FreshShares$Loot" "size" "I"] ++ wsX10)
def wsX1_add : List Cond := .code yX1_add cX1_add 4 none :: ([.fieldLink RX1 9 "FreshShares$Loot" "members" "[I", .fieldLink RX1 21 "FreshShares$Loot" "size" "I", .fieldLink RX1 15 "FreshShares$Loot" "epochs" "[I", .fieldLink RX1 18 "FreshShares$Loot" "shares" "[I", .methodLink RX1 31 yX1_isFull, .instanceMethod yX1_isFull, .selects RX1 yX1_isFull yX1_isFull, .initialized RX1, .code yX1_isFull cX1_isFull 1 (some .boolean)] ++ wsX10)
def wsX1_firstShare : List Cond := .code yX1_firstShare cX1_firstShare 4 (some .int) :: ([.fieldLink RX1 21 "FreshShares$Loot" "size" "I", .fieldLink RX1 9 "FreshShares$Loot" "members" "[I", .fieldLink RX1 15 "FreshShares$Loot" "epochs" "[I", .fieldLink RX1 18 "FreshShares$Loot" "shares" "[I"] ++ wsX10)
def wsX2_init_r1 : List Cond := [Cond.methodLink RX2 3 objectInit, Cond.instanceMethod objectInit, Cond.code objectInit ⟨#[0xb1]⟩ 1 none, Cond.classLink RX2 9 RX0, Cond.instantiable RX0 12, Cond.initialized RX0, Cond.fieldLink RX2 12 "FreshShares$Orders" "circle" "LFreshShares$Circle;", Cond.arrayClass .int, Cond.fieldLink RX2 18 "FreshShares$Orders" "told" "[I", Cond.fieldLink RX2 22 "FreshShares$Orders" "polynomials" "[I", Cond.fieldLink RX2 25 "FreshShares$Orders" "sealsSent" "[I", Cond.fieldLink RX2 28 "FreshShares$Orders" "factors" "[I", Cond.fieldLink RX2 31 "FreshShares$Orders" "taken" "I", Cond.methodLink RX2 11 yX0_init, Cond.instanceMethod yX0_init, Cond.code yX0_init cX0_init 2 none, Cond.methodLink RX0 3 objectInit, Cond.fieldLink RX0 9 "FreshShares$Circle" "rows" "[I", Cond.fieldLink RX0 15 "FreshShares$Circle" "bends" "[I", Cond.fieldLink RX0 18 "FreshShares$Circle" "shares" "[I", Cond.fieldLink RX0 21 "FreshShares$Circle" "seals" "[I", Cond.fieldLink RX0 24 "FreshShares$Circle" "thresholds" "[I", Cond.classLink RX0 27 RX1, Cond.instantiable RX1 4]
def wsX2_init_r2 : List Cond := [Cond.initialized RX1, Cond.fieldLink RX0 30 "FreshShares$Circle" "stolen" "LFreshShares$Loot;", Cond.fieldLink RX0 34 "FreshShares$Circle" "holders" "I", Cond.fieldLink RX0 38 "FreshShares$Circle" "threshold" "I", Cond.fieldLink RX0 41 "FreshShares$Circle" "epoch" "I", Cond.fieldLink RX0 44 "FreshShares$Circle" "liars" "I", Cond.fieldLink RX0 47 "FreshShares$Circle" "struck" "I", Cond.fieldLink RX0 50 "FreshShares$Circle" "ordersDone" "I", Cond.methodLink RX0 29 yX1_init, Cond.instanceMethod yX1_init, Cond.code yX1_init cX1_init 1 none, Cond.methodLink RX1 3 objectInit, Cond.fieldLink RX1 9 "FreshShares$Loot" "members" "[I", Cond.fieldLink RX1 15 "FreshShares$Loot" "epochs" "[I", Cond.fieldLink RX1 18 "FreshShares$Loot" "shares" "[I", Cond.fieldLink RX1 21 "FreshShares$Loot" "size" "I"]
def wsX2_init : List Cond := .code yX2_init cX2_init 1 none :: ((wsX2_init_r1 ++ wsX2_init_r2) ++ wsX00 ++ wsX20 ++ wsX10)
def wsX3_signAt : List Cond := .code yX3_signAt cX3_signAt 2 (some .int) :: ([.fieldLink RX3 15 "FreshShares$Script" "length" "I", .fieldLink RX3 9 "FreshShares$Script" "signs" "[I"] ++ wsX30)
def wsX3_letter : List Cond := .code yX3_letter cX3_letter 1 (some .int) :: ([.methodLink RX3 19 yX3_signAt, .instanceMethod yX3_signAt, .selects RX3 yX3_signAt yX3_signAt, .initialized RX3, .code yX3_signAt cX3_signAt 2 (some .int), .fieldLink RX3 15 "FreshShares$Script" "length" "I", .fieldLink RX3 9 "FreshShares$Script" "signs" "[I"] ++ wsX30)
def wsX2_isFull : List Cond := .code yX2_isFull cX2_isFull 2 (some .boolean) :: ([.fieldLink RX2 12 "FreshShares$Orders" "circle" "LFreshShares$Circle;", .methodLink RX2 84 yX0_isLastEpoch, .instanceMethod yX0_isLastEpoch, .selects RX0 yX0_isLastEpoch yX0_isLastEpoch, .initialized RX0, .code yX0_isLastEpoch cX0_isLastEpoch 1 (some .boolean), .fieldLink RX0 41 "FreshShares$Circle" "epoch" "I", .methodLink RX2 91 yX1_isFull, .instanceMethod yX1_isFull, .selects RX1 yX1_isFull yX1_isFull, .initialized RX1, .code yX1_isFull cX1_isFull 1 (some .boolean), .fieldLink RX1 21 "FreshShares$Loot" "size" "I"] ++ wsX20 ++ wsX00 ++ wsX10)
def wsX3_figureAt : List Cond := .code yX3_figureAt cX3_figureAt 2 (some .int) :: ([.methodLink RX3 19 yX3_signAt, .instanceMethod yX3_signAt, .selects RX3 yX3_signAt yX3_signAt, .initialized RX3, .code yX3_signAt cX3_signAt 2 (some .int), .fieldLink RX3 15 "FreshShares$Script" "length" "I", .fieldLink RX3 9 "FreshShares$Script" "signs" "[I"] ++ wsX30)
def wsX3_firstOfSet : List Cond := .code yX3_firstOfSet cX3_firstOfSet 1 (some .int) :: ([.methodLink RX3 45 yX3_letter, .instanceMethod yX3_letter, .selects RX3 yX3_letter yX3_letter, .initialized RX3, .code yX3_letter cX3_letter 1 (some .int), .methodLink RX3 19 yX3_signAt, .instanceMethod yX3_signAt, .selects RX3 yX3_signAt yX3_signAt, .code yX3_signAt cX3_signAt 2 (some .int), .fieldLink RX3 15 "FreshShares$Script" "length" "I", .fieldLink RX3 9 "FreshShares$Script" "signs" "[I"] ++ wsX30)
def wsX6_isMember : List Cond := .code yX6_isMember cX6_isMember 1 (some .boolean) :: ([])
def wsX3_members_r1 : List Cond := [Cond.fieldLink RX3 15 "FreshShares$Script" "length" "I", Cond.methodLink RX3 31 yX3_firstOfSet, Cond.instanceMethod yX3_firstOfSet, Cond.selects RX3 yX3_firstOfSet yX3_firstOfSet, Cond.initialized RX3, Cond.code yX3_firstOfSet cX3_firstOfSet 1 (some .int), Cond.methodLink RX3 45 yX3_letter, Cond.instanceMethod yX3_letter, Cond.selects RX3 yX3_letter yX3_letter, Cond.code yX3_letter cX3_letter 1 (some .int), Cond.methodLink RX3 19 yX3_signAt, Cond.instanceMethod yX3_signAt, Cond.selects RX3 yX3_signAt yX3_signAt, Cond.code yX3_signAt cX3_signAt 2 (some .int), Cond.fieldLink RX3 9 "FreshShares$Script" "signs" "[I", Cond.methodLink RX3 34 yX3_figureAt, Cond.instanceMethod yX3_figureAt, Cond.selects RX3 yX3_figureAt yX3_figureAt, Cond.code yX3_figureAt cX3_figureAt 2 (some .int), Cond.static yX6_isMember, Cond.initialized RX6, Cond.code yX6_isMember cX6_isMember 1 (some .boolean), Cond.methodLink RX3 40 yX4_only, Cond.static yX4_only]
def wsX3_members_r2 : List Cond := [Cond.initialized RX4, Cond.code yX4_only cX4_only 1 (some .int)]
def wsX3_members : List Cond := .code yX3_members cX3_members 3 (some .int) :: ((wsX3_members_r1 ++ wsX3_members_r2) ++ wsX30)
def wsX5_raised : List Cond := .code yX5_raised cX5_raised 4 (some .int) :: ([])
def wsX5_sealOf : List Cond := .code yX5_sealOf cX5_sealOf 1 (some .int) :: ([.methodLink RX5 9 yX5_raised, .static yX5_raised, .initialized RX5, .code yX5_raised cX5_raised 4 (some .int)])
def wsX5_times : List Cond := .code yX5_times cX5_times 2 (some .int) :: ([])
def wsX2_polynomialAt : List Cond := .code yX2_polynomialAt cX2_polynomialAt 8 (some .int) :: ([.methodLink RX2 208 Lib.Math.min.name, .static Lib.Math.min.name, .initialized "java/lang/Math", .code Lib.Math.min.name Lib.Math.min.code 2 (some .int), .methodLink RX2 199 yX5_times, .static yX5_times, .initialized RX5, .code yX5_times cX5_times 2 (some .int), .methodLink RX2 192 yX5_plus, .static yX5_plus, .code yX5_plus cX5_plus 2 (some .int)])
def wsX2_deal_r1 : List Cond := [Cond.fieldLink RX2 12 "FreshShares$Orders" "circle" "LFreshShares$Circle;", Cond.methodLink RX2 101 yX5_sealOf, Cond.static yX5_sealOf, Cond.initialized RX5, Cond.code yX5_sealOf cX5_sealOf 1 (some .int), Cond.methodLink RX5 9 yX5_raised, Cond.static yX5_raised, Cond.code yX5_raised cX5_raised 4 (some .int), Cond.methodLink RX2 109 yX2_polynomialAt, Cond.static yX2_polynomialAt, Cond.initialized RX2, Cond.code yX2_polynomialAt cX2_polynomialAt 8 (some .int), Cond.methodLink RX2 208 Lib.Math.min.name, Cond.static Lib.Math.min.name, Cond.initialized "java/lang/Math", Cond.code Lib.Math.min.name Lib.Math.min.code 2 (some .int), Cond.methodLink RX2 199 yX5_times, Cond.static yX5_times, Cond.code yX5_times cX5_times 2 (some .int), Cond.methodLink RX2 192 yX5_plus, Cond.static yX5_plus, Cond.code yX5_plus cX5_plus 2 (some .int), Cond.methodLink RX2 116 yX0_beginEpoch, Cond.instanceMethod yX0_beginEpoch]
def wsX2_deal_r2 : List Cond := [Cond.selects RX0 yX0_beginEpoch yX0_beginEpoch, Cond.initialized RX0, Cond.code yX0_beginEpoch cX0_beginEpoch 2 none, Cond.fieldLink RX0 41 "FreshShares$Circle" "epoch" "I", Cond.fieldLink RX0 38 "FreshShares$Circle" "threshold" "I", Cond.fieldLink RX0 24 "FreshShares$Circle" "thresholds" "[I", Cond.methodLink RX0 67 yX0_isLastEpoch, Cond.instanceMethod yX0_isLastEpoch, Cond.selects RX0 yX0_isLastEpoch yX0_isLastEpoch, Cond.code yX0_isLastEpoch cX0_isLastEpoch 1 (some .boolean)]
def wsX2_deal : List Cond := .code yX2_deal cX2_deal 3 (some .int) :: ((wsX2_deal_r1 ++ wsX2_deal_r2) ++ wsX20 ++ wsX00)
def wsX4_has : List Cond := .code yX4_has cX4_has 2 (some .boolean) :: ([])
def wsX2_sent : List Cond := .code yX2_sent cX2_sent 5 (some .int) :: ([.fieldLink RX2 12 "FreshShares$Orders" "circle" "LFreshShares$Circle;", .fieldLink RX2 22 "FreshShares$Orders" "polynomials" "[I", .methodLink RX2 189 yX0_bend, .instanceMethod yX0_bend, .selects RX0 yX0_bend yX0_bend, .initialized RX0, .code yX0_bend cX0_bend 3 (some .int), .fieldLink RX0 15 "FreshShares$Circle" "bends" "[I", .methodLink RX2 109 yX2_polynomialAt, .static yX2_polynomialAt, .initialized RX2, .code yX2_polynomialAt cX2_polynomialAt 8 (some .int), .methodLink RX2 208 Lib.Math.min.name, .static Lib.Math.min.name, .initialized "java/lang/Math", .code Lib.Math.min.name Lib.Math.min.code 2 (some .int), .methodLink RX2 199 yX5_times, .static yX5_times, .initialized RX5, .code yX5_times cX5_times 2 (some .int), .methodLink RX2 192 yX5_plus, .static yX5_plus, .code yX5_plus cX5_plus 2 (some .int)] ++ wsX20 ++ wsX00)
def wsX5_joined : List Cond := .code yX5_joined cX5_joined 2 (some .int) :: ([])
def wsX5_fitting : List Cond := .code yX5_fitting cX5_fitting 6 (some .boolean) :: ([.methodLink RX5 15 Lib.Math.min.name, .static Lib.Math.min.name, .initialized "java/lang/Math", .code Lib.Math.min.name Lib.Math.min.code 2 (some .int), .methodLink RX5 9 yX5_raised, .static yX5_raised, .initialized RX5, .code yX5_raised cX5_raised 4 (some .int), .methodLink RX5 20 yX5_joined, .static yX5_joined, .code yX5_joined cX5_joined 2 (some .int), .methodLink RX5 23 yX5_sealOf, .static yX5_sealOf, .code yX5_sealOf cX5_sealOf 1 (some .int)])
def wsX2_offer_r1 : List Cond := [Cond.fieldLink RX2 22 "FreshShares$Orders" "polynomials" "[I", Cond.fieldLink RX2 12 "FreshShares$Orders" "circle" "LFreshShares$Circle;", Cond.fieldLink RX2 25 "FreshShares$Orders" "sealsSent" "[I", Cond.fieldLink RX2 31 "FreshShares$Orders" "taken" "I", Cond.methodLink RX2 101 yX5_sealOf, Cond.static yX5_sealOf, Cond.initialized RX5, Cond.code yX5_sealOf cX5_sealOf 1 (some .int), Cond.methodLink RX5 9 yX5_raised, Cond.static yX5_raised, Cond.code yX5_raised cX5_raised 4 (some .int), Cond.methodLink RX2 130 yX4_has, Cond.static yX4_has, Cond.initialized RX4, Cond.code yX4_has cX4_has 2 (some .boolean), Cond.methodLink RX2 186 yX2_sent, Cond.instanceMethod yX2_sent, Cond.selects RX2 yX2_sent yX2_sent, Cond.initialized RX2, Cond.code yX2_sent cX2_sent 5 (some .int), Cond.methodLink RX2 189 yX0_bend, Cond.instanceMethod yX0_bend, Cond.selects RX0 yX0_bend yX0_bend, Cond.initialized RX0]
def wsX2_offer_r2 : List Cond := [Cond.code yX0_bend cX0_bend 3 (some .int), Cond.fieldLink RX0 15 "FreshShares$Circle" "bends" "[I", Cond.methodLink RX2 109 yX2_polynomialAt, Cond.static yX2_polynomialAt, Cond.code yX2_polynomialAt cX2_polynomialAt 8 (some .int), Cond.methodLink RX2 208 Lib.Math.min.name, Cond.static Lib.Math.min.name, Cond.initialized "java/lang/Math", Cond.code Lib.Math.min.name Lib.Math.min.code 2 (some .int), Cond.methodLink RX2 199 yX5_times, Cond.static yX5_times, Cond.code yX5_times cX5_times 2 (some .int), Cond.methodLink RX2 192 yX5_plus, Cond.static yX5_plus, Cond.code yX5_plus cX5_plus 2 (some .int), Cond.methodLink RX2 150 yX5_fitting, Cond.static yX5_fitting, Cond.code yX5_fitting cX5_fitting 6 (some .boolean), Cond.methodLink RX5 15 Lib.Math.min.name, Cond.methodLink RX5 20 yX5_joined, Cond.static yX5_joined, Cond.code yX5_joined cX5_joined 2 (some .int), Cond.methodLink RX5 23 yX5_sealOf, Cond.methodLink RX2 120 yX4_only]
def wsX2_offer_r3 : List Cond := [Cond.static yX4_only, Cond.code yX4_only cX4_only 1 (some .int)]
def wsX2_offer : List Cond := .code yX2_offer cX2_offer 9 none :: ((wsX2_offer_r1 ++ (wsX2_offer_r2 ++ wsX2_offer_r3)) ++ wsX20 ++ wsX00)
def wsX2_pour_r1 : List Cond := [Cond.fieldLink RX2 12 "FreshShares$Orders" "circle" "LFreshShares$Circle;", Cond.fieldLink RX2 28 "FreshShares$Orders" "factors" "[I", Cond.fieldLink RX2 22 "FreshShares$Orders" "polynomials" "[I", Cond.methodLink RX2 130 yX4_has, Cond.static yX4_has, Cond.initialized RX4, Cond.code yX4_has cX4_has 2 (some .boolean), Cond.methodLink RX2 109 yX2_polynomialAt, Cond.static yX2_polynomialAt, Cond.initialized RX2, Cond.code yX2_polynomialAt cX2_polynomialAt 8 (some .int), Cond.methodLink RX2 208 Lib.Math.min.name, Cond.static Lib.Math.min.name, Cond.initialized "java/lang/Math", Cond.code Lib.Math.min.name Lib.Math.min.code 2 (some .int), Cond.methodLink RX2 199 yX5_times, Cond.static yX5_times, Cond.initialized RX5, Cond.code yX5_times cX5_times 2 (some .int), Cond.methodLink RX2 192 yX5_plus, Cond.static yX5_plus, Cond.code yX5_plus cX5_plus 2 (some .int), Cond.methodLink RX2 101 yX5_sealOf, Cond.static yX5_sealOf]
def wsX2_pour_r2 : List Cond := [Cond.code yX5_sealOf cX5_sealOf 1 (some .int), Cond.methodLink RX5 9 yX5_raised, Cond.static yX5_raised, Cond.code yX5_raised cX5_raised 4 (some .int), Cond.methodLink RX2 202 yX5_raised, Cond.methodLink RX2 205 yX5_joined, Cond.static yX5_joined, Cond.code yX5_joined cX5_joined 2 (some .int)]
def wsX2_pour : List Cond := .code yX2_pour cX2_pour 5 none :: ((wsX2_pour_r1 ++ wsX2_pour_r2) ++ wsX20 ++ wsX00)
def wsX2_pourTaken_r1 : List Cond := [Cond.fieldLink RX2 31 "FreshShares$Orders" "taken" "I", Cond.methodLink RX2 130 yX4_has, Cond.static yX4_has, Cond.initialized RX4, Cond.code yX4_has cX4_has 2 (some .boolean), Cond.methodLink RX2 195 yX2_pour, Cond.instanceMethod yX2_pour, Cond.selects RX2 yX2_pour yX2_pour, Cond.initialized RX2, Cond.code yX2_pour cX2_pour 5 none, Cond.fieldLink RX2 12 "FreshShares$Orders" "circle" "LFreshShares$Circle;", Cond.fieldLink RX2 28 "FreshShares$Orders" "factors" "[I", Cond.fieldLink RX2 22 "FreshShares$Orders" "polynomials" "[I", Cond.methodLink RX2 109 yX2_polynomialAt, Cond.static yX2_polynomialAt, Cond.code yX2_polynomialAt cX2_polynomialAt 8 (some .int), Cond.methodLink RX2 208 Lib.Math.min.name, Cond.static Lib.Math.min.name, Cond.initialized "java/lang/Math", Cond.code Lib.Math.min.name Lib.Math.min.code 2 (some .int), Cond.methodLink RX2 199 yX5_times, Cond.static yX5_times, Cond.initialized RX5, Cond.code yX5_times cX5_times 2 (some .int)]
def wsX2_pourTaken_r2 : List Cond := [Cond.methodLink RX2 192 yX5_plus, Cond.static yX5_plus, Cond.code yX5_plus cX5_plus 2 (some .int), Cond.methodLink RX2 101 yX5_sealOf, Cond.static yX5_sealOf, Cond.code yX5_sealOf cX5_sealOf 1 (some .int), Cond.methodLink RX5 9 yX5_raised, Cond.static yX5_raised, Cond.code yX5_raised cX5_raised 4 (some .int), Cond.methodLink RX2 202 yX5_raised, Cond.methodLink RX2 205 yX5_joined, Cond.static yX5_joined, Cond.code yX5_joined cX5_joined 2 (some .int)]
def wsX2_pourTaken : List Cond := .code yX2_pourTaken cX2_pourTaken 3 none :: ((wsX2_pourTaken_r1 ++ wsX2_pourTaken_r2) ++ wsX20 ++ wsX00)
def wsX2_closeEpoch : List Cond := .code yX2_closeEpoch cX2_closeEpoch 2 (some .int) :: ([.fieldLink RX2 12 "FreshShares$Orders" "circle" "LFreshShares$Circle;", .methodLink RX2 116 yX0_beginEpoch, .instanceMethod yX0_beginEpoch, .selects RX0 yX0_beginEpoch yX0_beginEpoch, .initialized RX0, .code yX0_beginEpoch cX0_beginEpoch 2 none, .fieldLink RX0 41 "FreshShares$Circle" "epoch" "I", .fieldLink RX0 38 "FreshShares$Circle" "threshold" "I", .fieldLink RX0 24 "FreshShares$Circle" "thresholds" "[I", .methodLink RX0 67 yX0_isLastEpoch, .instanceMethod yX0_isLastEpoch, .selects RX0 yX0_isLastEpoch yX0_isLastEpoch, .code yX0_isLastEpoch cX0_isLastEpoch 1 (some .boolean), .methodLink RX2 125 yJ6_bitCount_0f7a4, .static yJ6_bitCount_0f7a4, .initialized RJ6, .code yJ6_bitCount_0f7a4 cJ6_bitCount_0f7a4 1 (some .int), .constant RJ6 265 (1431655765), .constant RJ6 266 (858993459), .constant RJ6 267 (252645135)] ++ wsX20 ++ wsX00)
def wsX2_fresh_r1 : List Cond := [Cond.fieldLink RX2 12 "FreshShares$Orders" "circle" "LFreshShares$Circle;", Cond.fieldLink RX2 31 "FreshShares$Orders" "taken" "I", Cond.fieldLink RX2 28 "FreshShares$Orders" "factors" "[I", Cond.methodLink RX2 130 yX4_has, Cond.static yX4_has, Cond.initialized RX4, Cond.code yX4_has cX4_has 2 (some .boolean), Cond.methodLink RX2 167 yX2_offer, Cond.instanceMethod yX2_offer, Cond.selects RX2 yX2_offer yX2_offer, Cond.initialized RX2, Cond.code yX2_offer cX2_offer 9 none, Cond.fieldLink RX2 22 "FreshShares$Orders" "polynomials" "[I", Cond.fieldLink RX2 25 "FreshShares$Orders" "sealsSent" "[I", Cond.methodLink RX2 101 yX5_sealOf, Cond.static yX5_sealOf, Cond.initialized RX5, Cond.code yX5_sealOf cX5_sealOf 1 (some .int), Cond.methodLink RX5 9 yX5_raised, Cond.static yX5_raised, Cond.code yX5_raised cX5_raised 4 (some .int), Cond.methodLink RX2 186 yX2_sent, Cond.instanceMethod yX2_sent, Cond.selects RX2 yX2_sent yX2_sent]
def wsX2_fresh_r2 : List Cond := [Cond.code yX2_sent cX2_sent 5 (some .int), Cond.methodLink RX2 189 yX0_bend, Cond.instanceMethod yX0_bend, Cond.selects RX0 yX0_bend yX0_bend, Cond.initialized RX0, Cond.code yX0_bend cX0_bend 3 (some .int), Cond.fieldLink RX0 15 "FreshShares$Circle" "bends" "[I", Cond.methodLink RX2 109 yX2_polynomialAt, Cond.static yX2_polynomialAt, Cond.code yX2_polynomialAt cX2_polynomialAt 8 (some .int), Cond.methodLink RX2 208 Lib.Math.min.name, Cond.static Lib.Math.min.name, Cond.initialized "java/lang/Math", Cond.code Lib.Math.min.name Lib.Math.min.code 2 (some .int), Cond.methodLink RX2 199 yX5_times, Cond.static yX5_times, Cond.code yX5_times cX5_times 2 (some .int), Cond.methodLink RX2 192 yX5_plus, Cond.static yX5_plus, Cond.code yX5_plus cX5_plus 2 (some .int), Cond.methodLink RX2 150 yX5_fitting, Cond.static yX5_fitting, Cond.code yX5_fitting cX5_fitting 6 (some .boolean), Cond.methodLink RX5 15 Lib.Math.min.name]
def wsX2_fresh_r3 : List Cond := [Cond.methodLink RX5 20 yX5_joined, Cond.static yX5_joined, Cond.code yX5_joined cX5_joined 2 (some .int), Cond.methodLink RX5 23 yX5_sealOf, Cond.methodLink RX2 120 yX4_only, Cond.static yX4_only, Cond.code yX4_only cX4_only 1 (some .int), Cond.methodLink RX2 170 yX2_pourTaken, Cond.instanceMethod yX2_pourTaken, Cond.selects RX2 yX2_pourTaken yX2_pourTaken, Cond.code yX2_pourTaken cX2_pourTaken 3 none, Cond.methodLink RX2 195 yX2_pour, Cond.instanceMethod yX2_pour, Cond.selects RX2 yX2_pour yX2_pour, Cond.code yX2_pour cX2_pour 5 none, Cond.methodLink RX2 202 yX5_raised, Cond.methodLink RX2 205 yX5_joined, Cond.methodLink RX2 173 yX2_closeEpoch, Cond.instanceMethod yX2_closeEpoch, Cond.selects RX2 yX2_closeEpoch yX2_closeEpoch, Cond.code yX2_closeEpoch cX2_closeEpoch 2 (some .int), Cond.methodLink RX2 116 yX0_beginEpoch, Cond.instanceMethod yX0_beginEpoch, Cond.selects RX0 yX0_beginEpoch yX0_beginEpoch]
def wsX2_fresh_r4 : List Cond := [Cond.code yX0_beginEpoch cX0_beginEpoch 2 none, Cond.fieldLink RX0 41 "FreshShares$Circle" "epoch" "I", Cond.fieldLink RX0 38 "FreshShares$Circle" "threshold" "I", Cond.fieldLink RX0 24 "FreshShares$Circle" "thresholds" "[I", Cond.methodLink RX0 67 yX0_isLastEpoch, Cond.instanceMethod yX0_isLastEpoch, Cond.selects RX0 yX0_isLastEpoch yX0_isLastEpoch, Cond.code yX0_isLastEpoch cX0_isLastEpoch 1 (some .boolean), Cond.methodLink RX2 125 yJ6_bitCount_0f7a4, Cond.static yJ6_bitCount_0f7a4, Cond.initialized RJ6, Cond.code yJ6_bitCount_0f7a4 cJ6_bitCount_0f7a4 1 (some .int), Cond.constant RJ6 265 (1431655765), Cond.constant RJ6 266 (858993459), Cond.constant RJ6 267 (252645135)]
def wsX2_fresh : List Cond := .code yX2_fresh cX2_fresh 3 (some .int) :: ((wsX2_fresh_r1 ++ (wsX2_fresh_r2 ++ (wsX2_fresh_r3 ++ wsX2_fresh_r4))) ++ wsX20 ++ wsX00)
def wsX2_hear_r1 : List Cond := [Cond.fieldLink RX2 18 "FreshShares$Orders" "told" "[I", Cond.fieldLink RX2 12 "FreshShares$Orders" "circle" "LFreshShares$Circle;", Cond.methodLink RX2 147 yX0_tells, Cond.instanceMethod yX0_tells, Cond.selects RX0 yX0_tells yX0_tells, Cond.initialized RX0, Cond.code yX0_tells cX0_tells 2 (some .int), Cond.fieldLink RX0 18 "FreshShares$Circle" "shares" "[I", Cond.methodLink RX0 71 yX0_bend, Cond.instanceMethod yX0_bend, Cond.selects RX0 yX0_bend yX0_bend, Cond.code yX0_bend cX0_bend 3 (some .int), Cond.fieldLink RX0 15 "FreshShares$Circle" "bends" "[I", Cond.methodLink RX0 75 yX5_plus, Cond.static yX5_plus, Cond.initialized RX5, Cond.code yX5_plus cX5_plus 2 (some .int), Cond.methodLink RX2 150 yX5_fitting, Cond.static yX5_fitting, Cond.code yX5_fitting cX5_fitting 6 (some .boolean), Cond.methodLink RX5 15 Lib.Math.min.name, Cond.static Lib.Math.min.name, Cond.initialized "java/lang/Math", Cond.code Lib.Math.min.name Lib.Math.min.code 2 (some .int)]
def wsX2_hear_r2 : List Cond := [Cond.methodLink RX5 9 yX5_raised, Cond.static yX5_raised, Cond.code yX5_raised cX5_raised 4 (some .int), Cond.methodLink RX5 20 yX5_joined, Cond.static yX5_joined, Cond.code yX5_joined cX5_joined 2 (some .int), Cond.methodLink RX5 23 yX5_sealOf, Cond.static yX5_sealOf, Cond.code yX5_sealOf cX5_sealOf 1 (some .int), Cond.methodLink RX2 120 yX4_only, Cond.static yX4_only, Cond.initialized RX4, Cond.code yX4_only cX4_only 1 (some .int)]
def wsX2_hear : List Cond := .code yX2_hear cX2_hear 2 (some .boolean) :: ((wsX2_hear_r1 ++ wsX2_hear_r2) ++ wsX20 ++ wsX00)
def wsX4_lowest : List Cond := .code yX4_lowest cX4_lowest 5 (some .int) :: ([.methodLink RX4 9 yX4_has, .static yX4_has, .initialized RX4, .code yX4_has cX4_has 2 (some .boolean), .methodLink RX4 15 yX4_only, .static yX4_only, .code yX4_only cX4_only 1 (some .int)])
def wsX5_less : List Cond := .code yX5_less cX5_less 2 (some .int) :: ([])
def wsX5_inverse : List Cond := .code yX5_inverse cX5_inverse 3 (some .int) :: ([])
def wsX5_weight : List Cond := .code yX5_weight cX5_weight 6 (some .int) :: ([.methodLink RX5 27 yX4_has, .static yX4_has, .initialized RX4, .code yX4_has cX4_has 2 (some .boolean), .methodLink RX5 33 yX5_less, .static yX5_less, .initialized RX5, .code yX5_less cX5_less 2 (some .int), .methodLink RX5 36 yX5_times, .static yX5_times, .code yX5_times cX5_times 2 (some .int), .methodLink RX5 39 yX5_inverse, .static yX5_inverse, .code yX5_inverse cX5_inverse 3 (some .int)])
def wsX5_weighed : List Cond := .code yX5_weighed cX5_weighed 5 (some .int) :: ([.methodLink RX5 27 yX4_has, .static yX4_has, .initialized RX4, .code yX4_has cX4_has 2 (some .boolean), .methodLink RX5 42 yX5_weight, .static yX5_weight, .initialized RX5, .code yX5_weight cX5_weight 6 (some .int), .methodLink RX5 33 yX5_less, .static yX5_less, .code yX5_less cX5_less 2 (some .int), .methodLink RX5 36 yX5_times, .static yX5_times, .code yX5_times cX5_times 2 (some .int), .methodLink RX5 39 yX5_inverse, .static yX5_inverse, .code yX5_inverse cX5_inverse 3 (some .int), .methodLink RX5 46 yX5_plus, .static yX5_plus, .code yX5_plus cX5_plus 2 (some .int)])
def wsX2_openedByThose_r1 : List Cond := [Cond.fieldLink RX2 12 "FreshShares$Orders" "circle" "LFreshShares$Circle;", Cond.fieldLink RX2 18 "FreshShares$Orders" "told" "[I", Cond.methodLink RX2 130 yX4_has, Cond.static yX4_has, Cond.initialized RX4, Cond.code yX4_has cX4_has 2 (some .boolean), Cond.methodLink RX2 134 yX2_hear, Cond.instanceMethod yX2_hear, Cond.selects RX2 yX2_hear yX2_hear, Cond.initialized RX2, Cond.code yX2_hear cX2_hear 2 (some .boolean), Cond.methodLink RX2 147 yX0_tells, Cond.instanceMethod yX0_tells, Cond.selects RX0 yX0_tells yX0_tells, Cond.initialized RX0, Cond.code yX0_tells cX0_tells 2 (some .int), Cond.fieldLink RX0 18 "FreshShares$Circle" "shares" "[I", Cond.methodLink RX0 71 yX0_bend, Cond.instanceMethod yX0_bend, Cond.selects RX0 yX0_bend yX0_bend, Cond.code yX0_bend cX0_bend 3 (some .int), Cond.fieldLink RX0 15 "FreshShares$Circle" "bends" "[I", Cond.methodLink RX0 75 yX5_plus, Cond.static yX5_plus]
def wsX2_openedByThose_r2 : List Cond := [Cond.initialized RX5, Cond.code yX5_plus cX5_plus 2 (some .int), Cond.methodLink RX2 150 yX5_fitting, Cond.static yX5_fitting, Cond.code yX5_fitting cX5_fitting 6 (some .boolean), Cond.methodLink RX5 15 Lib.Math.min.name, Cond.static Lib.Math.min.name, Cond.initialized "java/lang/Math", Cond.code Lib.Math.min.name Lib.Math.min.code 2 (some .int), Cond.methodLink RX5 9 yX5_raised, Cond.static yX5_raised, Cond.code yX5_raised cX5_raised 4 (some .int), Cond.methodLink RX5 20 yX5_joined, Cond.static yX5_joined, Cond.code yX5_joined cX5_joined 2 (some .int), Cond.methodLink RX5 23 yX5_sealOf, Cond.static yX5_sealOf, Cond.code yX5_sealOf cX5_sealOf 1 (some .int), Cond.methodLink RX2 120 yX4_only, Cond.static yX4_only, Cond.code yX4_only cX4_only 1 (some .int), Cond.methodLink RX2 125 yJ6_bitCount_0f7a4, Cond.static yJ6_bitCount_0f7a4, Cond.initialized RJ6]
def wsX2_openedByThose_r3 : List Cond := [Cond.code yJ6_bitCount_0f7a4 cJ6_bitCount_0f7a4 1 (some .int), Cond.constant RJ6 265 (1431655765), Cond.constant RJ6 266 (858993459), Cond.constant RJ6 267 (252645135), Cond.methodLink RX2 140 yX4_lowest, Cond.static yX4_lowest, Cond.code yX4_lowest cX4_lowest 5 (some .int), Cond.methodLink RX4 9 yX4_has, Cond.methodLink RX4 15 yX4_only, Cond.methodLink RX2 143 yX5_weighed, Cond.static yX5_weighed, Cond.code yX5_weighed cX5_weighed 5 (some .int), Cond.methodLink RX5 27 yX4_has, Cond.methodLink RX5 42 yX5_weight, Cond.static yX5_weight, Cond.code yX5_weight cX5_weight 6 (some .int), Cond.methodLink RX5 33 yX5_less, Cond.static yX5_less, Cond.code yX5_less cX5_less 2 (some .int), Cond.methodLink RX5 36 yX5_times, Cond.static yX5_times, Cond.code yX5_times cX5_times 2 (some .int), Cond.methodLink RX5 39 yX5_inverse, Cond.static yX5_inverse]
def wsX2_openedByThose_r4 : List Cond := [Cond.code yX5_inverse cX5_inverse 3 (some .int), Cond.methodLink RX5 46 yX5_plus]
def wsX2_openedByThose : List Cond := .code yX2_openedByThose cX2_openedByThose 5 (some .int) :: ((wsX2_openedByThose_r1 ++ (wsX2_openedByThose_r2 ++ (wsX2_openedByThose_r3 ++ wsX2_openedByThose_r4))) ++ wsX20 ++ wsX00)
def wsX2_lose : List Cond := .code yX2_lose cX2_lose 2 (some .int) :: ([.fieldLink RX2 12 "FreshShares$Orders" "circle" "LFreshShares$Circle;", .methodLink RX2 120 yX4_only, .static yX4_only, .initialized RX4, .code yX4_only cX4_only 1 (some .int), .methodLink RX2 125 yJ6_bitCount_0f7a4, .static yJ6_bitCount_0f7a4, .initialized RJ6, .code yJ6_bitCount_0f7a4 cJ6_bitCount_0f7a4 1 (some .int), .constant RJ6 265 (1431655765), .constant RJ6 266 (858993459), .constant RJ6 267 (252645135)] ++ wsX20 ++ wsX00)
def wsX2_rebuild_r1 : List Cond := [Cond.fieldLink RX2 12 "FreshShares$Orders" "circle" "LFreshShares$Circle;", Cond.static yX6_isMember, Cond.initialized RX6, Cond.code yX6_isMember cX6_isMember 1 (some .boolean), Cond.methodLink RX2 130 yX4_has, Cond.static yX4_has, Cond.initialized RX4, Cond.code yX4_has cX4_has 2 (some .boolean), Cond.methodLink RX2 68 yX2_openedByThose, Cond.instanceMethod yX2_openedByThose, Cond.selects RX2 yX2_openedByThose yX2_openedByThose, Cond.initialized RX2, Cond.code yX2_openedByThose cX2_openedByThose 5 (some .int), Cond.fieldLink RX2 18 "FreshShares$Orders" "told" "[I", Cond.methodLink RX2 134 yX2_hear, Cond.instanceMethod yX2_hear, Cond.selects RX2 yX2_hear yX2_hear, Cond.code yX2_hear cX2_hear 2 (some .boolean), Cond.methodLink RX2 147 yX0_tells, Cond.instanceMethod yX0_tells, Cond.selects RX0 yX0_tells yX0_tells, Cond.initialized RX0, Cond.code yX0_tells cX0_tells 2 (some .int), Cond.fieldLink RX0 18 "FreshShares$Circle" "shares" "[I"]
def wsX2_rebuild_r2 : List Cond := [Cond.methodLink RX0 71 yX0_bend, Cond.instanceMethod yX0_bend, Cond.selects RX0 yX0_bend yX0_bend, Cond.code yX0_bend cX0_bend 3 (some .int), Cond.fieldLink RX0 15 "FreshShares$Circle" "bends" "[I", Cond.methodLink RX0 75 yX5_plus, Cond.static yX5_plus, Cond.initialized RX5, Cond.code yX5_plus cX5_plus 2 (some .int), Cond.methodLink RX2 150 yX5_fitting, Cond.static yX5_fitting, Cond.code yX5_fitting cX5_fitting 6 (some .boolean), Cond.methodLink RX5 15 Lib.Math.min.name, Cond.static Lib.Math.min.name, Cond.initialized "java/lang/Math", Cond.code Lib.Math.min.name Lib.Math.min.code 2 (some .int), Cond.methodLink RX5 9 yX5_raised, Cond.static yX5_raised, Cond.code yX5_raised cX5_raised 4 (some .int), Cond.methodLink RX5 20 yX5_joined, Cond.static yX5_joined, Cond.code yX5_joined cX5_joined 2 (some .int), Cond.methodLink RX5 23 yX5_sealOf, Cond.static yX5_sealOf]
def wsX2_rebuild_r3 : List Cond := [Cond.code yX5_sealOf cX5_sealOf 1 (some .int), Cond.methodLink RX2 120 yX4_only, Cond.static yX4_only, Cond.code yX4_only cX4_only 1 (some .int), Cond.methodLink RX2 125 yJ6_bitCount_0f7a4, Cond.static yJ6_bitCount_0f7a4, Cond.initialized RJ6, Cond.code yJ6_bitCount_0f7a4 cJ6_bitCount_0f7a4 1 (some .int), Cond.constant RJ6 265 (1431655765), Cond.constant RJ6 266 (858993459), Cond.constant RJ6 267 (252645135), Cond.methodLink RX2 140 yX4_lowest, Cond.static yX4_lowest, Cond.code yX4_lowest cX4_lowest 5 (some .int), Cond.methodLink RX4 9 yX4_has, Cond.methodLink RX4 15 yX4_only, Cond.methodLink RX2 143 yX5_weighed, Cond.static yX5_weighed, Cond.code yX5_weighed cX5_weighed 5 (some .int), Cond.methodLink RX5 27 yX4_has, Cond.methodLink RX5 42 yX5_weight, Cond.static yX5_weight, Cond.code yX5_weight cX5_weight 6 (some .int), Cond.methodLink RX5 33 yX5_less]
def wsX2_rebuild_r4 : List Cond := [Cond.static yX5_less, Cond.code yX5_less cX5_less 2 (some .int), Cond.methodLink RX5 36 yX5_times, Cond.static yX5_times, Cond.code yX5_times cX5_times 2 (some .int), Cond.methodLink RX5 39 yX5_inverse, Cond.static yX5_inverse, Cond.code yX5_inverse cX5_inverse 3 (some .int), Cond.methodLink RX5 46 yX5_plus]
def wsX2_rebuild : List Cond := .code yX2_rebuild cX2_rebuild 4 (some .int) :: ((wsX2_rebuild_r1 ++ (wsX2_rebuild_r2 ++ (wsX2_rebuild_r3 ++ wsX2_rebuild_r4))) ++ wsX20 ++ wsX00)
def wsJ7_fill_53178 : List Cond := .code yJ7_fill_53178 cJ7_fill_53178 4 none :: ([])
def wsX2_move_r1 : List Cond := [Cond.fieldLink RX2 12 "FreshShares$Orders" "circle" "LFreshShares$Circle;", Cond.fieldLink RX2 31 "FreshShares$Orders" "taken" "I", Cond.fieldLink RX2 18 "FreshShares$Orders" "told" "[I", Cond.fieldLink RX2 28 "FreshShares$Orders" "factors" "[I", Cond.methodLink RX2 125 yJ6_bitCount_0f7a4, Cond.static yJ6_bitCount_0f7a4, Cond.initialized RJ6, Cond.code yJ6_bitCount_0f7a4 cJ6_bitCount_0f7a4 1 (some .int), Cond.constant RJ6 265 (1431655765), Cond.constant RJ6 266 (858993459), Cond.constant RJ6 267 (252645135), Cond.methodLink RX2 130 yX4_has, Cond.static yX4_has, Cond.initialized RX4, Cond.code yX4_has cX4_has 2 (some .boolean), Cond.methodLink RX2 134 yX2_hear, Cond.instanceMethod yX2_hear, Cond.selects RX2 yX2_hear yX2_hear, Cond.initialized RX2, Cond.code yX2_hear cX2_hear 2 (some .boolean), Cond.methodLink RX2 147 yX0_tells, Cond.instanceMethod yX0_tells, Cond.selects RX0 yX0_tells yX0_tells, Cond.initialized RX0]
def wsX2_move_r2 : List Cond := [Cond.code yX0_tells cX0_tells 2 (some .int), Cond.fieldLink RX0 18 "FreshShares$Circle" "shares" "[I", Cond.methodLink RX0 71 yX0_bend, Cond.instanceMethod yX0_bend, Cond.selects RX0 yX0_bend yX0_bend, Cond.code yX0_bend cX0_bend 3 (some .int), Cond.fieldLink RX0 15 "FreshShares$Circle" "bends" "[I", Cond.methodLink RX0 75 yX5_plus, Cond.static yX5_plus, Cond.initialized RX5, Cond.code yX5_plus cX5_plus 2 (some .int), Cond.methodLink RX2 150 yX5_fitting, Cond.static yX5_fitting, Cond.code yX5_fitting cX5_fitting 6 (some .boolean), Cond.methodLink RX5 15 Lib.Math.min.name, Cond.static Lib.Math.min.name, Cond.initialized "java/lang/Math", Cond.code Lib.Math.min.name Lib.Math.min.code 2 (some .int), Cond.methodLink RX5 9 yX5_raised, Cond.static yX5_raised, Cond.code yX5_raised cX5_raised 4 (some .int), Cond.methodLink RX5 20 yX5_joined, Cond.static yX5_joined, Cond.code yX5_joined cX5_joined 2 (some .int)]
def wsX2_move_r3 : List Cond := [Cond.methodLink RX5 23 yX5_sealOf, Cond.static yX5_sealOf, Cond.code yX5_sealOf cX5_sealOf 1 (some .int), Cond.methodLink RX2 120 yX4_only, Cond.static yX4_only, Cond.code yX4_only cX4_only 1 (some .int), Cond.methodLink RX2 167 yX2_offer, Cond.instanceMethod yX2_offer, Cond.selects RX2 yX2_offer yX2_offer, Cond.code yX2_offer cX2_offer 9 none, Cond.fieldLink RX2 22 "FreshShares$Orders" "polynomials" "[I", Cond.fieldLink RX2 25 "FreshShares$Orders" "sealsSent" "[I", Cond.methodLink RX2 101 yX5_sealOf, Cond.methodLink RX2 186 yX2_sent, Cond.instanceMethod yX2_sent, Cond.selects RX2 yX2_sent yX2_sent, Cond.code yX2_sent cX2_sent 5 (some .int), Cond.methodLink RX2 189 yX0_bend, Cond.methodLink RX2 109 yX2_polynomialAt, Cond.static yX2_polynomialAt, Cond.code yX2_polynomialAt cX2_polynomialAt 8 (some .int), Cond.methodLink RX2 208 Lib.Math.min.name, Cond.methodLink RX2 199 yX5_times, Cond.static yX5_times]
def wsX2_move_r4 : List Cond := [Cond.code yX5_times cX5_times 2 (some .int), Cond.methodLink RX2 192 yX5_plus, Cond.methodLink RX2 176 yX5_weight, Cond.static yX5_weight, Cond.code yX5_weight cX5_weight 6 (some .int), Cond.methodLink RX5 27 yX4_has, Cond.methodLink RX5 33 yX5_less, Cond.static yX5_less, Cond.code yX5_less cX5_less 2 (some .int), Cond.methodLink RX5 36 yX5_times, Cond.methodLink RX5 39 yX5_inverse, Cond.static yX5_inverse, Cond.code yX5_inverse cX5_inverse 3 (some .int), Cond.methodLink RX2 180 yJ7_fill_53178, Cond.static yJ7_fill_53178, Cond.initialized RJ7, Cond.code yJ7_fill_53178 cJ7_fill_53178 4 none, Cond.methodLink RX2 170 yX2_pourTaken, Cond.instanceMethod yX2_pourTaken, Cond.selects RX2 yX2_pourTaken yX2_pourTaken, Cond.code yX2_pourTaken cX2_pourTaken 3 none, Cond.methodLink RX2 195 yX2_pour, Cond.instanceMethod yX2_pour, Cond.selects RX2 yX2_pour yX2_pour]
def wsX2_move_r5 : List Cond := [Cond.code yX2_pour cX2_pour 5 none, Cond.methodLink RX2 202 yX5_raised, Cond.methodLink RX2 205 yX5_joined, Cond.methodLink RX2 173 yX2_closeEpoch, Cond.instanceMethod yX2_closeEpoch, Cond.selects RX2 yX2_closeEpoch yX2_closeEpoch, Cond.code yX2_closeEpoch cX2_closeEpoch 2 (some .int), Cond.methodLink RX2 116 yX0_beginEpoch, Cond.instanceMethod yX0_beginEpoch, Cond.selects RX0 yX0_beginEpoch yX0_beginEpoch, Cond.code yX0_beginEpoch cX0_beginEpoch 2 none, Cond.fieldLink RX0 41 "FreshShares$Circle" "epoch" "I", Cond.fieldLink RX0 38 "FreshShares$Circle" "threshold" "I", Cond.fieldLink RX0 24 "FreshShares$Circle" "thresholds" "[I", Cond.methodLink RX0 67 yX0_isLastEpoch, Cond.instanceMethod yX0_isLastEpoch, Cond.selects RX0 yX0_isLastEpoch yX0_isLastEpoch, Cond.code yX0_isLastEpoch cX0_isLastEpoch 1 (some .boolean)]
def wsX2_move : List Cond := .code yX2_move cX2_move 6 (some .int) :: ((wsX2_move_r1 ++ (wsX2_move_r2 ++ (wsX2_move_r3 ++ (wsX2_move_r4 ++ wsX2_move_r5)))) ++ wsX20 ++ wsX00)
def wsX2_steal : List Cond := .code yX2_steal cX2_steal 2 (some .int) :: ([.fieldLink RX2 12 "FreshShares$Orders" "circle" "LFreshShares$Circle;", .static yX6_isMember, .initialized RX6, .code yX6_isMember cX6_isMember 1 (some .boolean), .methodLink RX2 130 yX4_has, .static yX4_has, .initialized RX4, .code yX4_has cX4_has 2 (some .boolean), .methodLink RX2 160 yX1_add, .instanceMethod yX1_add, .selects RX1 yX1_add yX1_add, .initialized RX1, .code yX1_add cX1_add 4 none, .fieldLink RX1 9 "FreshShares$Loot" "members" "[I", .fieldLink RX1 21 "FreshShares$Loot" "size" "I", .fieldLink RX1 15 "FreshShares$Loot" "epochs" "[I", .fieldLink RX1 18 "FreshShares$Loot" "shares" "[I", .methodLink RX1 31 yX1_isFull, .instanceMethod yX1_isFull, .selects RX1 yX1_isFull yX1_isFull, .code yX1_isFull cX1_isFull 1 (some .boolean)] ++ wsX20 ++ wsX00 ++ wsX10)
def wsX2_perform_r1 : List Cond := [Cond.fieldLink RX2 12 "FreshShares$Orders" "circle" "LFreshShares$Circle;", Cond.methodLink RX2 41 yX3_letter, Cond.instanceMethod yX3_letter, Cond.selects RX3 yX3_letter yX3_letter, Cond.initialized RX3, Cond.code yX3_letter cX3_letter 1 (some .int), Cond.methodLink RX3 19 yX3_signAt, Cond.instanceMethod yX3_signAt, Cond.selects RX3 yX3_signAt yX3_signAt, Cond.code yX3_signAt cX3_signAt 2 (some .int), Cond.fieldLink RX3 15 "FreshShares$Script" "length" "I", Cond.fieldLink RX3 9 "FreshShares$Script" "signs" "[I", Cond.methodLink RX2 47 yX0_isDealt, Cond.instanceMethod yX0_isDealt, Cond.selects RX0 yX0_isDealt yX0_isDealt, Cond.initialized RX0, Cond.code yX0_isDealt cX0_isDealt 1 (some .boolean), Cond.fieldLink RX0 41 "FreshShares$Circle" "epoch" "I", Cond.methodLink RX2 51 yX2_isFull, Cond.instanceMethod yX2_isFull, Cond.selects RX2 yX2_isFull yX2_isFull, Cond.initialized RX2, Cond.code yX2_isFull cX2_isFull 2 (some .boolean), Cond.methodLink RX2 84 yX0_isLastEpoch]
def wsX2_perform_r2 : List Cond := [Cond.instanceMethod yX0_isLastEpoch, Cond.selects RX0 yX0_isLastEpoch yX0_isLastEpoch, Cond.code yX0_isLastEpoch cX0_isLastEpoch 1 (some .boolean), Cond.methodLink RX2 91 yX1_isFull, Cond.instanceMethod yX1_isFull, Cond.selects RX1 yX1_isFull yX1_isFull, Cond.initialized RX1, Cond.code yX1_isFull cX1_isFull 1 (some .boolean), Cond.fieldLink RX1 21 "FreshShares$Loot" "size" "I", Cond.methodLink RX2 55 yX3_figureAt, Cond.instanceMethod yX3_figureAt, Cond.selects RX3 yX3_figureAt yX3_figureAt, Cond.code yX3_figureAt cX3_figureAt 2 (some .int), Cond.methodLink RX2 59 yX3_members, Cond.instanceMethod yX3_members, Cond.selects RX3 yX3_members yX3_members, Cond.code yX3_members cX3_members 3 (some .int), Cond.methodLink RX3 31 yX3_firstOfSet, Cond.instanceMethod yX3_firstOfSet, Cond.selects RX3 yX3_firstOfSet yX3_firstOfSet, Cond.code yX3_firstOfSet cX3_firstOfSet 1 (some .int), Cond.methodLink RX3 45 yX3_letter, Cond.methodLink RX3 34 yX3_figureAt, Cond.static yX6_isMember]
def wsX2_perform_r3 : List Cond := [Cond.initialized RX6, Cond.code yX6_isMember cX6_isMember 1 (some .boolean), Cond.methodLink RX3 40 yX4_only, Cond.static yX4_only, Cond.initialized RX4, Cond.code yX4_only cX4_only 1 (some .int), Cond.methodLink RX2 62 yX2_deal, Cond.instanceMethod yX2_deal, Cond.selects RX2 yX2_deal yX2_deal, Cond.code yX2_deal cX2_deal 3 (some .int), Cond.methodLink RX2 101 yX5_sealOf, Cond.static yX5_sealOf, Cond.initialized RX5, Cond.code yX5_sealOf cX5_sealOf 1 (some .int), Cond.methodLink RX5 9 yX5_raised, Cond.static yX5_raised, Cond.code yX5_raised cX5_raised 4 (some .int), Cond.methodLink RX2 109 yX2_polynomialAt, Cond.static yX2_polynomialAt, Cond.code yX2_polynomialAt cX2_polynomialAt 8 (some .int), Cond.methodLink RX2 208 Lib.Math.min.name, Cond.static Lib.Math.min.name, Cond.initialized "java/lang/Math", Cond.code Lib.Math.min.name Lib.Math.min.code 2 (some .int)]
def wsX2_perform_r4 : List Cond := [Cond.methodLink RX2 199 yX5_times, Cond.static yX5_times, Cond.code yX5_times cX5_times 2 (some .int), Cond.methodLink RX2 192 yX5_plus, Cond.static yX5_plus, Cond.code yX5_plus cX5_plus 2 (some .int), Cond.methodLink RX2 116 yX0_beginEpoch, Cond.instanceMethod yX0_beginEpoch, Cond.selects RX0 yX0_beginEpoch yX0_beginEpoch, Cond.code yX0_beginEpoch cX0_beginEpoch 2 none, Cond.fieldLink RX0 38 "FreshShares$Circle" "threshold" "I", Cond.fieldLink RX0 24 "FreshShares$Circle" "thresholds" "[I", Cond.methodLink RX0 67 yX0_isLastEpoch, Cond.methodLink RX2 65 yX2_fresh, Cond.instanceMethod yX2_fresh, Cond.selects RX2 yX2_fresh yX2_fresh, Cond.code yX2_fresh cX2_fresh 3 (some .int), Cond.fieldLink RX2 31 "FreshShares$Orders" "taken" "I", Cond.fieldLink RX2 28 "FreshShares$Orders" "factors" "[I", Cond.methodLink RX2 130 yX4_has, Cond.static yX4_has, Cond.code yX4_has cX4_has 2 (some .boolean), Cond.methodLink RX2 167 yX2_offer, Cond.instanceMethod yX2_offer]
def wsX2_perform_r5 : List Cond := [Cond.selects RX2 yX2_offer yX2_offer, Cond.code yX2_offer cX2_offer 9 none, Cond.fieldLink RX2 22 "FreshShares$Orders" "polynomials" "[I", Cond.fieldLink RX2 25 "FreshShares$Orders" "sealsSent" "[I", Cond.methodLink RX2 186 yX2_sent, Cond.instanceMethod yX2_sent, Cond.selects RX2 yX2_sent yX2_sent, Cond.code yX2_sent cX2_sent 5 (some .int), Cond.methodLink RX2 189 yX0_bend, Cond.instanceMethod yX0_bend, Cond.selects RX0 yX0_bend yX0_bend, Cond.code yX0_bend cX0_bend 3 (some .int), Cond.fieldLink RX0 15 "FreshShares$Circle" "bends" "[I", Cond.methodLink RX2 150 yX5_fitting, Cond.static yX5_fitting, Cond.code yX5_fitting cX5_fitting 6 (some .boolean), Cond.methodLink RX5 15 Lib.Math.min.name, Cond.methodLink RX5 20 yX5_joined, Cond.static yX5_joined, Cond.code yX5_joined cX5_joined 2 (some .int), Cond.methodLink RX5 23 yX5_sealOf, Cond.methodLink RX2 120 yX4_only, Cond.methodLink RX2 170 yX2_pourTaken, Cond.instanceMethod yX2_pourTaken]
def wsX2_perform_r6 : List Cond := [Cond.selects RX2 yX2_pourTaken yX2_pourTaken, Cond.code yX2_pourTaken cX2_pourTaken 3 none, Cond.methodLink RX2 195 yX2_pour, Cond.instanceMethod yX2_pour, Cond.selects RX2 yX2_pour yX2_pour, Cond.code yX2_pour cX2_pour 5 none, Cond.methodLink RX2 202 yX5_raised, Cond.methodLink RX2 205 yX5_joined, Cond.methodLink RX2 173 yX2_closeEpoch, Cond.instanceMethod yX2_closeEpoch, Cond.selects RX2 yX2_closeEpoch yX2_closeEpoch, Cond.code yX2_closeEpoch cX2_closeEpoch 2 (some .int), Cond.methodLink RX2 125 yJ6_bitCount_0f7a4, Cond.static yJ6_bitCount_0f7a4, Cond.initialized RJ6, Cond.code yJ6_bitCount_0f7a4 cJ6_bitCount_0f7a4 1 (some .int), Cond.constant RJ6 265 (1431655765), Cond.constant RJ6 266 (858993459), Cond.constant RJ6 267 (252645135), Cond.methodLink RX2 68 yX2_openedByThose, Cond.instanceMethod yX2_openedByThose, Cond.selects RX2 yX2_openedByThose yX2_openedByThose, Cond.code yX2_openedByThose cX2_openedByThose 5 (some .int), Cond.fieldLink RX2 18 "FreshShares$Orders" "told" "[I"]
def wsX2_perform_r7 : List Cond := [Cond.methodLink RX2 134 yX2_hear, Cond.instanceMethod yX2_hear, Cond.selects RX2 yX2_hear yX2_hear, Cond.code yX2_hear cX2_hear 2 (some .boolean), Cond.methodLink RX2 147 yX0_tells, Cond.instanceMethod yX0_tells, Cond.selects RX0 yX0_tells yX0_tells, Cond.code yX0_tells cX0_tells 2 (some .int), Cond.fieldLink RX0 18 "FreshShares$Circle" "shares" "[I", Cond.methodLink RX0 71 yX0_bend, Cond.methodLink RX0 75 yX5_plus, Cond.methodLink RX2 140 yX4_lowest, Cond.static yX4_lowest, Cond.code yX4_lowest cX4_lowest 5 (some .int), Cond.methodLink RX4 9 yX4_has, Cond.methodLink RX4 15 yX4_only, Cond.methodLink RX2 143 yX5_weighed, Cond.static yX5_weighed, Cond.code yX5_weighed cX5_weighed 5 (some .int), Cond.methodLink RX5 27 yX4_has, Cond.methodLink RX5 42 yX5_weight, Cond.static yX5_weight, Cond.code yX5_weight cX5_weight 6 (some .int), Cond.methodLink RX5 33 yX5_less]
def wsX2_perform_r8 : List Cond := [Cond.static yX5_less, Cond.code yX5_less cX5_less 2 (some .int), Cond.methodLink RX5 36 yX5_times, Cond.methodLink RX5 39 yX5_inverse, Cond.static yX5_inverse, Cond.code yX5_inverse cX5_inverse 3 (some .int), Cond.methodLink RX5 46 yX5_plus, Cond.methodLink RX2 72 yX2_lose, Cond.instanceMethod yX2_lose, Cond.selects RX2 yX2_lose yX2_lose, Cond.code yX2_lose cX2_lose 2 (some .int), Cond.methodLink RX2 75 yX2_rebuild, Cond.instanceMethod yX2_rebuild, Cond.selects RX2 yX2_rebuild yX2_rebuild, Cond.code yX2_rebuild cX2_rebuild 4 (some .int), Cond.methodLink RX2 78 yX2_move, Cond.instanceMethod yX2_move, Cond.selects RX2 yX2_move yX2_move, Cond.code yX2_move cX2_move 6 (some .int), Cond.methodLink RX2 176 yX5_weight, Cond.methodLink RX2 180 yJ7_fill_53178, Cond.static yJ7_fill_53178, Cond.initialized RJ7, Cond.code yJ7_fill_53178 cJ7_fill_53178 4 none]
def wsX2_perform_r9 : List Cond := [Cond.methodLink RX2 81 yX2_steal, Cond.instanceMethod yX2_steal, Cond.selects RX2 yX2_steal yX2_steal, Cond.code yX2_steal cX2_steal 2 (some .int), Cond.methodLink RX2 160 yX1_add, Cond.instanceMethod yX1_add, Cond.selects RX1 yX1_add yX1_add, Cond.code yX1_add cX1_add 4 none, Cond.fieldLink RX1 9 "FreshShares$Loot" "members" "[I", Cond.fieldLink RX1 15 "FreshShares$Loot" "epochs" "[I", Cond.fieldLink RX1 18 "FreshShares$Loot" "shares" "[I", Cond.methodLink RX1 31 yX1_isFull]
def wsX2_perform : List Cond := .code yX2_perform cX2_perform 5 (some .int) :: ((wsX2_perform_r1 ++ (wsX2_perform_r2 ++ (wsX2_perform_r3 ++ (wsX2_perform_r4 ++ (wsX2_perform_r5 ++ (wsX2_perform_r6 ++ (wsX2_perform_r7 ++ (wsX2_perform_r8 ++ wsX2_perform_r9)))))))) ++ wsX20 ++ wsX00 ++ wsX30 ++ wsX10)
def wsX2_opened_r1 : List Cond := [Cond.fieldLink RX2 12 "FreshShares$Orders" "circle" "LFreshShares$Circle;", Cond.fieldLink RX2 18 "FreshShares$Orders" "told" "[I", Cond.methodLink RX2 213 yX1_victims, Cond.instanceMethod yX1_victims, Cond.selects RX1 yX1_victims yX1_victims, Cond.initialized RX1, Cond.code yX1_victims cX1_victims 4 (some .int), Cond.fieldLink RX1 21 "FreshShares$Loot" "size" "I", Cond.fieldLink RX1 15 "FreshShares$Loot" "epochs" "[I", Cond.fieldLink RX1 9 "FreshShares$Loot" "members" "[I", Cond.methodLink RX1 35 yX4_only, Cond.static yX4_only, Cond.initialized RX4, Cond.code yX4_only cX4_only 1 (some .int), Cond.methodLink RX2 125 yJ6_bitCount_0f7a4, Cond.static yJ6_bitCount_0f7a4, Cond.initialized RJ6, Cond.code yJ6_bitCount_0f7a4 cJ6_bitCount_0f7a4 1 (some .int), Cond.constant RJ6 265 (1431655765), Cond.constant RJ6 266 (858993459), Cond.constant RJ6 267 (252645135), Cond.methodLink RX2 140 yX4_lowest, Cond.static yX4_lowest, Cond.code yX4_lowest cX4_lowest 5 (some .int)]
def wsX2_opened_r2 : List Cond := [Cond.methodLink RX4 9 yX4_has, Cond.static yX4_has, Cond.code yX4_has cX4_has 2 (some .boolean), Cond.methodLink RX4 15 yX4_only, Cond.methodLink RX2 216 yX1_firstShare, Cond.instanceMethod yX1_firstShare, Cond.selects RX1 yX1_firstShare yX1_firstShare, Cond.code yX1_firstShare cX1_firstShare 4 (some .int), Cond.fieldLink RX1 18 "FreshShares$Loot" "shares" "[I", Cond.methodLink RX2 143 yX5_weighed, Cond.static yX5_weighed, Cond.initialized RX5, Cond.code yX5_weighed cX5_weighed 5 (some .int), Cond.methodLink RX5 27 yX4_has, Cond.methodLink RX5 42 yX5_weight, Cond.static yX5_weight, Cond.code yX5_weight cX5_weight 6 (some .int), Cond.methodLink RX5 33 yX5_less, Cond.static yX5_less, Cond.code yX5_less cX5_less 2 (some .int), Cond.methodLink RX5 36 yX5_times, Cond.static yX5_times, Cond.code yX5_times cX5_times 2 (some .int), Cond.methodLink RX5 39 yX5_inverse]
def wsX2_opened_r3 : List Cond := [Cond.static yX5_inverse, Cond.code yX5_inverse cX5_inverse 3 (some .int), Cond.methodLink RX5 46 yX5_plus, Cond.static yX5_plus, Cond.code yX5_plus cX5_plus 2 (some .int)]
def wsX2_opened : List Cond := .code yX2_opened cX2_opened 6 (some .int) :: ((wsX2_opened_r1 ++ (wsX2_opened_r2 ++ wsX2_opened_r3)) ++ wsX20 ++ wsX00 ++ wsX10)
def wsX2_worldsLeft_r1 : List Cond := [Cond.fieldLink RX2 12 "FreshShares$Orders" "circle" "LFreshShares$Circle;", Cond.methodLink RX2 219 yX0_thresholdOf, Cond.instanceMethod yX0_thresholdOf, Cond.selects RX0 yX0_thresholdOf yX0_thresholdOf, Cond.initialized RX0, Cond.code yX0_thresholdOf cX0_thresholdOf 2 (some .int), Cond.fieldLink RX0 24 "FreshShares$Circle" "thresholds" "[I", Cond.methodLink RX0 63 yX0_wasEpoch, Cond.instanceMethod yX0_wasEpoch, Cond.selects RX0 yX0_wasEpoch yX0_wasEpoch, Cond.code yX0_wasEpoch cX0_wasEpoch 2 (some .boolean), Cond.fieldLink RX0 41 "FreshShares$Circle" "epoch" "I", Cond.methodLink RX2 213 yX1_victims, Cond.instanceMethod yX1_victims, Cond.selects RX1 yX1_victims yX1_victims, Cond.initialized RX1, Cond.code yX1_victims cX1_victims 4 (some .int), Cond.fieldLink RX1 21 "FreshShares$Loot" "size" "I", Cond.fieldLink RX1 15 "FreshShares$Loot" "epochs" "[I", Cond.fieldLink RX1 9 "FreshShares$Loot" "members" "[I", Cond.methodLink RX1 35 yX4_only, Cond.static yX4_only, Cond.initialized RX4, Cond.code yX4_only cX4_only 1 (some .int)]
def wsX2_worldsLeft_r2 : List Cond := [Cond.methodLink RX2 125 yJ6_bitCount_0f7a4, Cond.static yJ6_bitCount_0f7a4, Cond.initialized RJ6, Cond.code yJ6_bitCount_0f7a4 cJ6_bitCount_0f7a4 1 (some .int), Cond.constant RJ6 265 (1431655765), Cond.constant RJ6 266 (858993459), Cond.constant RJ6 267 (252645135), Cond.methodLink RX2 222 yX2_opened, Cond.instanceMethod yX2_opened, Cond.selects RX2 yX2_opened yX2_opened, Cond.initialized RX2, Cond.code yX2_opened cX2_opened 6 (some .int), Cond.fieldLink RX2 18 "FreshShares$Orders" "told" "[I", Cond.methodLink RX2 140 yX4_lowest, Cond.static yX4_lowest, Cond.code yX4_lowest cX4_lowest 5 (some .int), Cond.methodLink RX4 9 yX4_has, Cond.static yX4_has, Cond.code yX4_has cX4_has 2 (some .boolean), Cond.methodLink RX4 15 yX4_only, Cond.methodLink RX2 216 yX1_firstShare, Cond.instanceMethod yX1_firstShare, Cond.selects RX1 yX1_firstShare yX1_firstShare, Cond.code yX1_firstShare cX1_firstShare 4 (some .int)]
def wsX2_worldsLeft_r3 : List Cond := [Cond.fieldLink RX1 18 "FreshShares$Loot" "shares" "[I", Cond.methodLink RX2 143 yX5_weighed, Cond.static yX5_weighed, Cond.initialized RX5, Cond.code yX5_weighed cX5_weighed 5 (some .int), Cond.methodLink RX5 27 yX4_has, Cond.methodLink RX5 42 yX5_weight, Cond.static yX5_weight, Cond.code yX5_weight cX5_weight 6 (some .int), Cond.methodLink RX5 33 yX5_less, Cond.static yX5_less, Cond.code yX5_less cX5_less 2 (some .int), Cond.methodLink RX5 36 yX5_times, Cond.static yX5_times, Cond.code yX5_times cX5_times 2 (some .int), Cond.methodLink RX5 39 yX5_inverse, Cond.static yX5_inverse, Cond.code yX5_inverse cX5_inverse 3 (some .int), Cond.methodLink RX5 46 yX5_plus, Cond.static yX5_plus, Cond.code yX5_plus cX5_plus 2 (some .int)]
def wsX2_worldsLeft : List Cond := .code yX2_worldsLeft cX2_worldsLeft 7 (some .int) :: ((wsX2_worldsLeft_r1 ++ (wsX2_worldsLeft_r2 ++ wsX2_worldsLeft_r3)) ++ wsX20 ++ wsX00 ++ wsX10)
def wsX3_init : List Cond := .code yX3_init cX3_init 1 none :: ([.methodLink RX3 3 objectInit, .instanceMethod objectInit, .code objectInit ⟨#[0xb1]⟩ 1 none, .arrayClass .int, .fieldLink RX3 9 "FreshShares$Script" "signs" "[I", .fieldLink RX3 15 "FreshShares$Script" "length" "I"] ++ wsX30)
def wsX3_append : List Cond := .code yX3_append cX3_append 2 (some .boolean) :: ([.fieldLink RX3 15 "FreshShares$Script" "length" "I", .fieldLink RX3 9 "FreshShares$Script" "signs" "[I"] ++ wsX30)
def wsX3_isLetter : List Cond := .code yX3_isLetter cX3_isLetter 1 (some .boolean) :: ([])
def wsX3_canStand_r1 : List Cond := [Cond.methodLink RX3 45 yX3_letter, Cond.instanceMethod yX3_letter, Cond.selects RX3 yX3_letter yX3_letter, Cond.initialized RX3, Cond.code yX3_letter cX3_letter 1 (some .int), Cond.methodLink RX3 19 yX3_signAt, Cond.instanceMethod yX3_signAt, Cond.selects RX3 yX3_signAt yX3_signAt, Cond.code yX3_signAt cX3_signAt 2 (some .int), Cond.fieldLink RX3 15 "FreshShares$Script" "length" "I", Cond.fieldLink RX3 9 "FreshShares$Script" "signs" "[I", Cond.methodLink RX3 48 yX3_isLetter, Cond.static yX3_isLetter, Cond.code yX3_isLetter cX3_isLetter 1 (some .boolean), Cond.methodLink RX3 34 yX3_figureAt, Cond.instanceMethod yX3_figureAt, Cond.selects RX3 yX3_figureAt yX3_figureAt, Cond.code yX3_figureAt cX3_figureAt 2 (some .int), Cond.methodLink RX3 31 yX3_firstOfSet, Cond.instanceMethod yX3_firstOfSet, Cond.selects RX3 yX3_firstOfSet yX3_firstOfSet, Cond.code yX3_firstOfSet cX3_firstOfSet 1 (some .int), Cond.static yX6_isMember, Cond.initialized RX6]
def wsX3_canStand_r2 : List Cond := [Cond.code yX6_isMember cX6_isMember 1 (some .boolean)]
def wsX3_canStand : List Cond := .code yX3_canStand cX3_canStand 4 (some .boolean) :: ((wsX3_canStand_r1 ++ wsX3_canStand_r2) ++ wsX30)
def wsX3_fewestSigns : List Cond := .code yX3_fewestSigns cX3_fewestSigns 1 (some .int) :: ([.methodLink RX3 45 yX3_letter, .instanceMethod yX3_letter, .selects RX3 yX3_letter yX3_letter, .initialized RX3, .code yX3_letter cX3_letter 1 (some .int), .methodLink RX3 19 yX3_signAt, .instanceMethod yX3_signAt, .selects RX3 yX3_signAt yX3_signAt, .code yX3_signAt cX3_signAt 2 (some .int), .fieldLink RX3 15 "FreshShares$Script" "length" "I", .fieldLink RX3 9 "FreshShares$Script" "signs" "[I"] ++ wsX30)
def wsX3_faultPlace_r1 : List Cond := [Cond.fieldLink RX3 15 "FreshShares$Script" "length" "I", Cond.methodLink RX3 23 yX3_canStand, Cond.instanceMethod yX3_canStand, Cond.selects RX3 yX3_canStand yX3_canStand, Cond.initialized RX3, Cond.code yX3_canStand cX3_canStand 4 (some .boolean), Cond.methodLink RX3 45 yX3_letter, Cond.instanceMethod yX3_letter, Cond.selects RX3 yX3_letter yX3_letter, Cond.code yX3_letter cX3_letter 1 (some .int), Cond.methodLink RX3 19 yX3_signAt, Cond.instanceMethod yX3_signAt, Cond.selects RX3 yX3_signAt yX3_signAt, Cond.code yX3_signAt cX3_signAt 2 (some .int), Cond.fieldLink RX3 9 "FreshShares$Script" "signs" "[I", Cond.methodLink RX3 48 yX3_isLetter, Cond.static yX3_isLetter, Cond.code yX3_isLetter cX3_isLetter 1 (some .boolean), Cond.methodLink RX3 34 yX3_figureAt, Cond.instanceMethod yX3_figureAt, Cond.selects RX3 yX3_figureAt yX3_figureAt, Cond.code yX3_figureAt cX3_figureAt 2 (some .int), Cond.methodLink RX3 31 yX3_firstOfSet, Cond.instanceMethod yX3_firstOfSet]
def wsX3_faultPlace_r2 : List Cond := [Cond.selects RX3 yX3_firstOfSet yX3_firstOfSet, Cond.code yX3_firstOfSet cX3_firstOfSet 1 (some .int), Cond.static yX6_isMember, Cond.initialized RX6, Cond.code yX6_isMember cX6_isMember 1 (some .boolean), Cond.methodLink RX3 27 yX3_fewestSigns, Cond.instanceMethod yX3_fewestSigns, Cond.selects RX3 yX3_fewestSigns yX3_fewestSigns, Cond.code yX3_fewestSigns cX3_fewestSigns 1 (some .int)]
def wsX3_faultPlace : List Cond := .code yX3_faultPlace cX3_faultPlace 2 (some .int) :: ((wsX3_faultPlace_r1 ++ wsX3_faultPlace_r2) ++ wsX30)
def wsX6_init_r1 : List Cond := [Cond.methodLink RX6 1 objectInit, Cond.instanceMethod objectInit, Cond.code objectInit ⟨#[0xb1]⟩ 1 none, Cond.classLink RX6 7 RX3, Cond.instantiable RX3 2, Cond.initialized RX3, Cond.fieldLink RX6 10 "FreshShares" "script" "LFreshShares$Script;", Cond.classLink RX6 16 RX2, Cond.instantiable RX2 6, Cond.initialized RX2, Cond.fieldLink RX6 19 "FreshShares" "orders" "LFreshShares$Orders;", Cond.fieldLink RX6 27 "FreshShares" "circle" "LFreshShares$Circle;", Cond.classLink RX6 28 RX0, Cond.fieldLink RX6 30 "FreshShares" "images" "[LFreshShares$Circle;", Cond.methodLink RX6 9 yX3_init, Cond.instanceMethod yX3_init, Cond.code yX3_init cX3_init 1 none, Cond.methodLink RX3 3 objectInit, Cond.arrayClass .int, Cond.fieldLink RX3 9 "FreshShares$Script" "signs" "[I", Cond.fieldLink RX3 15 "FreshShares$Script" "length" "I", Cond.methodLink RX6 18 yX2_init, Cond.instanceMethod yX2_init, Cond.code yX2_init cX2_init 1 none]
def wsX6_init_r2 : List Cond := [Cond.methodLink RX2 3 objectInit, Cond.classLink RX2 9 RX0, Cond.instantiable RX0 12, Cond.initialized RX0, Cond.fieldLink RX2 12 "FreshShares$Orders" "circle" "LFreshShares$Circle;", Cond.fieldLink RX2 18 "FreshShares$Orders" "told" "[I", Cond.fieldLink RX2 22 "FreshShares$Orders" "polynomials" "[I", Cond.fieldLink RX2 25 "FreshShares$Orders" "sealsSent" "[I", Cond.fieldLink RX2 28 "FreshShares$Orders" "factors" "[I", Cond.fieldLink RX2 31 "FreshShares$Orders" "taken" "I", Cond.methodLink RX2 11 yX0_init, Cond.instanceMethod yX0_init, Cond.code yX0_init cX0_init 2 none, Cond.methodLink RX0 3 objectInit, Cond.fieldLink RX0 9 "FreshShares$Circle" "rows" "[I", Cond.fieldLink RX0 15 "FreshShares$Circle" "bends" "[I", Cond.fieldLink RX0 18 "FreshShares$Circle" "shares" "[I", Cond.fieldLink RX0 21 "FreshShares$Circle" "seals" "[I", Cond.fieldLink RX0 24 "FreshShares$Circle" "thresholds" "[I", Cond.classLink RX0 27 RX1, Cond.instantiable RX1 4, Cond.initialized RX1, Cond.fieldLink RX0 30 "FreshShares$Circle" "stolen" "LFreshShares$Loot;", Cond.fieldLink RX0 34 "FreshShares$Circle" "holders" "I"]
def wsX6_init_r3 : List Cond := [Cond.fieldLink RX0 38 "FreshShares$Circle" "threshold" "I", Cond.fieldLink RX0 41 "FreshShares$Circle" "epoch" "I", Cond.fieldLink RX0 44 "FreshShares$Circle" "liars" "I", Cond.fieldLink RX0 47 "FreshShares$Circle" "struck" "I", Cond.fieldLink RX0 50 "FreshShares$Circle" "ordersDone" "I", Cond.methodLink RX0 29 yX1_init, Cond.instanceMethod yX1_init, Cond.code yX1_init cX1_init 1 none, Cond.methodLink RX1 3 objectInit, Cond.fieldLink RX1 9 "FreshShares$Loot" "members" "[I", Cond.fieldLink RX1 15 "FreshShares$Loot" "epochs" "[I", Cond.fieldLink RX1 18 "FreshShares$Loot" "shares" "[I", Cond.fieldLink RX1 21 "FreshShares$Loot" "size" "I"]
def wsX6_init : List Cond := .code yX6_init cX6_init 1 none :: ((wsX6_init_r1 ++ (wsX6_init_r2 ++ wsX6_init_r3)) ++ wsX30 ++ wsX60 ++ wsX20 ++ wsX00 ++ wsX10)
def wsX6_isValue : List Cond := .code yX6_isValue cX6_isValue 1 (some .boolean) :: ([])
def wsX6_row : List Cond := .code yX6_row cX6_row 6 (some .int) :: ([.fieldLink RX6 27 "FreshShares" "circle" "LFreshShares$Circle;", .methodLink RX6 34 yX6_isMember, .static yX6_isMember, .initialized RX6, .code yX6_isMember cX6_isMember 1 (some .boolean), .methodLink RX6 38 yX6_isValue, .static yX6_isValue, .code yX6_isValue cX6_isValue 1 (some .boolean)] ++ wsX60 ++ wsX00)
def wsX6_highestBend : List Cond := .code yX6_highestBend cX6_highestBend 1 (some .int) :: ([])
def wsX6_bent : List Cond := .code yX6_bent cX6_bent 6 (some .int) :: ([.fieldLink RX6 27 "FreshShares" "circle" "LFreshShares$Circle;", .methodLink RX6 34 yX6_isMember, .static yX6_isMember, .initialized RX6, .code yX6_isMember cX6_isMember 1 (some .boolean), .methodLink RX6 45 yX6_highestBend, .static yX6_highestBend, .code yX6_highestBend cX6_highestBend 1 (some .int)] ++ wsX60 ++ wsX00)
def wsX6_shareFacts_r1 : List Cond := [Cond.fieldLink RX6 27 "FreshShares" "circle" "LFreshShares$Circle;", Cond.methodLink RX6 96 yX4_has, Cond.static yX4_has, Cond.initialized RX4, Cond.code yX4_has cX4_has 2 (some .boolean), Cond.methodLink RX6 162 yX0_tells, Cond.instanceMethod yX0_tells, Cond.selects RX0 yX0_tells yX0_tells, Cond.initialized RX0, Cond.code yX0_tells cX0_tells 2 (some .int), Cond.fieldLink RX0 18 "FreshShares$Circle" "shares" "[I", Cond.methodLink RX0 71 yX0_bend, Cond.instanceMethod yX0_bend, Cond.selects RX0 yX0_bend yX0_bend, Cond.code yX0_bend cX0_bend 3 (some .int), Cond.fieldLink RX0 15 "FreshShares$Circle" "bends" "[I", Cond.methodLink RX0 75 yX5_plus, Cond.static yX5_plus, Cond.initialized RX5, Cond.code yX5_plus cX5_plus 2 (some .int), Cond.methodLink RX6 90 yX5_fitting, Cond.static yX5_fitting, Cond.code yX5_fitting cX5_fitting 6 (some .boolean), Cond.methodLink RX5 15 Lib.Math.min.name]
def wsX6_shareFacts_r2 : List Cond := [Cond.static Lib.Math.min.name, Cond.initialized "java/lang/Math", Cond.code Lib.Math.min.name Lib.Math.min.code 2 (some .int), Cond.methodLink RX5 9 yX5_raised, Cond.static yX5_raised, Cond.code yX5_raised cX5_raised 4 (some .int), Cond.methodLink RX5 20 yX5_joined, Cond.static yX5_joined, Cond.code yX5_joined cX5_joined 2 (some .int), Cond.methodLink RX5 23 yX5_sealOf, Cond.static yX5_sealOf, Cond.code yX5_sealOf cX5_sealOf 1 (some .int)]
def wsX6_shareFacts : List Cond := .code yX6_shareFacts cX6_shareFacts 4 (some .int) :: ((wsX6_shareFacts_r1 ++ wsX6_shareFacts_r2) ++ wsX60 ++ wsX00)
def wsX6_member_r1 : List Cond := [Cond.fieldLink RX6 27 "FreshShares" "circle" "LFreshShares$Circle;", Cond.methodLink RX6 34 yX6_isMember, Cond.static yX6_isMember, Cond.initialized RX6, Cond.code yX6_isMember cX6_isMember 1 (some .boolean), Cond.methodLink RX6 52 yX6_shareFacts, Cond.instanceMethod yX6_shareFacts, Cond.selects RX6 yX6_shareFacts yX6_shareFacts, Cond.code yX6_shareFacts cX6_shareFacts 4 (some .int), Cond.methodLink RX6 96 yX4_has, Cond.static yX4_has, Cond.initialized RX4, Cond.code yX4_has cX4_has 2 (some .boolean), Cond.methodLink RX6 162 yX0_tells, Cond.instanceMethod yX0_tells, Cond.selects RX0 yX0_tells yX0_tells, Cond.initialized RX0, Cond.code yX0_tells cX0_tells 2 (some .int), Cond.fieldLink RX0 18 "FreshShares$Circle" "shares" "[I", Cond.methodLink RX0 71 yX0_bend, Cond.instanceMethod yX0_bend, Cond.selects RX0 yX0_bend yX0_bend, Cond.code yX0_bend cX0_bend 3 (some .int), Cond.fieldLink RX0 15 "FreshShares$Circle" "bends" "[I"]
def wsX6_member_r2 : List Cond := [Cond.methodLink RX0 75 yX5_plus, Cond.static yX5_plus, Cond.initialized RX5, Cond.code yX5_plus cX5_plus 2 (some .int), Cond.methodLink RX6 90 yX5_fitting, Cond.static yX5_fitting, Cond.code yX5_fitting cX5_fitting 6 (some .boolean), Cond.methodLink RX5 15 Lib.Math.min.name, Cond.static Lib.Math.min.name, Cond.initialized "java/lang/Math", Cond.code Lib.Math.min.name Lib.Math.min.code 2 (some .int), Cond.methodLink RX5 9 yX5_raised, Cond.static yX5_raised, Cond.code yX5_raised cX5_raised 4 (some .int), Cond.methodLink RX5 20 yX5_joined, Cond.static yX5_joined, Cond.code yX5_joined cX5_joined 2 (some .int), Cond.methodLink RX5 23 yX5_sealOf, Cond.static yX5_sealOf, Cond.code yX5_sealOf cX5_sealOf 1 (some .int)]
def wsX6_member : List Cond := .code yX6_member cX6_member 3 (some .int) :: ((wsX6_member_r1 ++ wsX6_member_r2) ++ wsX60 ++ wsX00)
def wsX6_say : List Cond := .code yX6_say cX6_say 2 (some .int) :: ([.fieldLink RX6 10 "FreshShares" "script" "LFreshShares$Script;", .methodLink RX6 56 yX3_append, .instanceMethod yX3_append, .selects RX3 yX3_append yX3_append, .initialized RX3, .code yX3_append cX3_append 2 (some .boolean), .fieldLink RX3 15 "FreshShares$Script" "length" "I", .fieldLink RX3 9 "FreshShares$Script" "signs" "[I"] ++ wsX60 ++ wsX30)
def wsX6_wipe : List Cond := .code yX6_wipe cX6_wipe 2 (some .int) :: ([.fieldLink RX6 10 "FreshShares" "script" "LFreshShares$Script;"] ++ wsX60 ++ wsX30)
def wsX6_fault_r1 : List Cond := [Cond.fieldLink RX6 10 "FreshShares" "script" "LFreshShares$Script;", Cond.methodLink RX6 63 yX3_faultPlace, Cond.instanceMethod yX3_faultPlace, Cond.selects RX3 yX3_faultPlace yX3_faultPlace, Cond.initialized RX3, Cond.code yX3_faultPlace cX3_faultPlace 2 (some .int), Cond.fieldLink RX3 15 "FreshShares$Script" "length" "I", Cond.methodLink RX3 23 yX3_canStand, Cond.instanceMethod yX3_canStand, Cond.selects RX3 yX3_canStand yX3_canStand, Cond.code yX3_canStand cX3_canStand 4 (some .boolean), Cond.methodLink RX3 45 yX3_letter, Cond.instanceMethod yX3_letter, Cond.selects RX3 yX3_letter yX3_letter, Cond.code yX3_letter cX3_letter 1 (some .int), Cond.methodLink RX3 19 yX3_signAt, Cond.instanceMethod yX3_signAt, Cond.selects RX3 yX3_signAt yX3_signAt, Cond.code yX3_signAt cX3_signAt 2 (some .int), Cond.fieldLink RX3 9 "FreshShares$Script" "signs" "[I", Cond.methodLink RX3 48 yX3_isLetter, Cond.static yX3_isLetter, Cond.code yX3_isLetter cX3_isLetter 1 (some .boolean), Cond.methodLink RX3 34 yX3_figureAt]
def wsX6_fault_r2 : List Cond := [Cond.instanceMethod yX3_figureAt, Cond.selects RX3 yX3_figureAt yX3_figureAt, Cond.code yX3_figureAt cX3_figureAt 2 (some .int), Cond.methodLink RX3 31 yX3_firstOfSet, Cond.instanceMethod yX3_firstOfSet, Cond.selects RX3 yX3_firstOfSet yX3_firstOfSet, Cond.code yX3_firstOfSet cX3_firstOfSet 1 (some .int), Cond.static yX6_isMember, Cond.initialized RX6, Cond.code yX6_isMember cX6_isMember 1 (some .boolean), Cond.methodLink RX3 27 yX3_fewestSigns, Cond.instanceMethod yX3_fewestSigns, Cond.selects RX3 yX3_fewestSigns yX3_fewestSigns, Cond.code yX3_fewestSigns cX3_fewestSigns 1 (some .int)]
def wsX6_fault : List Cond := .code yX6_fault cX6_fault 1 (some .int) :: ((wsX6_fault_r1 ++ wsX6_fault_r2) ++ wsX60 ++ wsX30)
def wsX6_act_r1 : List Cond := [Cond.fieldLink RX6 10 "FreshShares" "script" "LFreshShares$Script;", Cond.fieldLink RX6 19 "FreshShares" "orders" "LFreshShares$Orders;", Cond.fieldLink RX6 27 "FreshShares" "circle" "LFreshShares$Circle;", Cond.methodLink RX6 63 yX3_faultPlace, Cond.instanceMethod yX3_faultPlace, Cond.selects RX3 yX3_faultPlace yX3_faultPlace, Cond.initialized RX3, Cond.code yX3_faultPlace cX3_faultPlace 2 (some .int), Cond.fieldLink RX3 15 "FreshShares$Script" "length" "I", Cond.methodLink RX3 23 yX3_canStand, Cond.instanceMethod yX3_canStand, Cond.selects RX3 yX3_canStand yX3_canStand, Cond.code yX3_canStand cX3_canStand 4 (some .boolean), Cond.methodLink RX3 45 yX3_letter, Cond.instanceMethod yX3_letter, Cond.selects RX3 yX3_letter yX3_letter, Cond.code yX3_letter cX3_letter 1 (some .int), Cond.methodLink RX3 19 yX3_signAt, Cond.instanceMethod yX3_signAt, Cond.selects RX3 yX3_signAt yX3_signAt, Cond.code yX3_signAt cX3_signAt 2 (some .int), Cond.fieldLink RX3 9 "FreshShares$Script" "signs" "[I", Cond.methodLink RX3 48 yX3_isLetter, Cond.static yX3_isLetter]
def wsX6_act_r2 : List Cond := [Cond.code yX3_isLetter cX3_isLetter 1 (some .boolean), Cond.methodLink RX3 34 yX3_figureAt, Cond.instanceMethod yX3_figureAt, Cond.selects RX3 yX3_figureAt yX3_figureAt, Cond.code yX3_figureAt cX3_figureAt 2 (some .int), Cond.methodLink RX3 31 yX3_firstOfSet, Cond.instanceMethod yX3_firstOfSet, Cond.selects RX3 yX3_firstOfSet yX3_firstOfSet, Cond.code yX3_firstOfSet cX3_firstOfSet 1 (some .int), Cond.static yX6_isMember, Cond.initialized RX6, Cond.code yX6_isMember cX6_isMember 1 (some .boolean), Cond.methodLink RX3 27 yX3_fewestSigns, Cond.instanceMethod yX3_fewestSigns, Cond.selects RX3 yX3_fewestSigns yX3_fewestSigns, Cond.code yX3_fewestSigns cX3_fewestSigns 1 (some .int), Cond.methodLink RX6 67 yX2_perform, Cond.instanceMethod yX2_perform, Cond.selects RX2 yX2_perform yX2_perform, Cond.initialized RX2, Cond.code yX2_perform cX2_perform 5 (some .int), Cond.fieldLink RX2 12 "FreshShares$Orders" "circle" "LFreshShares$Circle;", Cond.methodLink RX2 41 yX3_letter, Cond.methodLink RX2 47 yX0_isDealt]
def wsX6_act_r3 : List Cond := [Cond.instanceMethod yX0_isDealt, Cond.selects RX0 yX0_isDealt yX0_isDealt, Cond.initialized RX0, Cond.code yX0_isDealt cX0_isDealt 1 (some .boolean), Cond.fieldLink RX0 41 "FreshShares$Circle" "epoch" "I", Cond.methodLink RX2 51 yX2_isFull, Cond.instanceMethod yX2_isFull, Cond.selects RX2 yX2_isFull yX2_isFull, Cond.code yX2_isFull cX2_isFull 2 (some .boolean), Cond.methodLink RX2 84 yX0_isLastEpoch, Cond.instanceMethod yX0_isLastEpoch, Cond.selects RX0 yX0_isLastEpoch yX0_isLastEpoch, Cond.code yX0_isLastEpoch cX0_isLastEpoch 1 (some .boolean), Cond.methodLink RX2 91 yX1_isFull, Cond.instanceMethod yX1_isFull, Cond.selects RX1 yX1_isFull yX1_isFull, Cond.initialized RX1, Cond.code yX1_isFull cX1_isFull 1 (some .boolean), Cond.fieldLink RX1 21 "FreshShares$Loot" "size" "I", Cond.methodLink RX2 55 yX3_figureAt, Cond.methodLink RX2 59 yX3_members, Cond.instanceMethod yX3_members, Cond.selects RX3 yX3_members yX3_members, Cond.code yX3_members cX3_members 3 (some .int)]
def wsX6_act_r4 : List Cond := [Cond.methodLink RX3 40 yX4_only, Cond.static yX4_only, Cond.initialized RX4, Cond.code yX4_only cX4_only 1 (some .int), Cond.methodLink RX2 62 yX2_deal, Cond.instanceMethod yX2_deal, Cond.selects RX2 yX2_deal yX2_deal, Cond.code yX2_deal cX2_deal 3 (some .int), Cond.methodLink RX2 101 yX5_sealOf, Cond.static yX5_sealOf, Cond.initialized RX5, Cond.code yX5_sealOf cX5_sealOf 1 (some .int), Cond.methodLink RX5 9 yX5_raised, Cond.static yX5_raised, Cond.code yX5_raised cX5_raised 4 (some .int), Cond.methodLink RX2 109 yX2_polynomialAt, Cond.static yX2_polynomialAt, Cond.code yX2_polynomialAt cX2_polynomialAt 8 (some .int), Cond.methodLink RX2 208 Lib.Math.min.name, Cond.static Lib.Math.min.name, Cond.initialized "java/lang/Math", Cond.code Lib.Math.min.name Lib.Math.min.code 2 (some .int), Cond.methodLink RX2 199 yX5_times, Cond.static yX5_times]
def wsX6_act_r5 : List Cond := [Cond.code yX5_times cX5_times 2 (some .int), Cond.methodLink RX2 192 yX5_plus, Cond.static yX5_plus, Cond.code yX5_plus cX5_plus 2 (some .int), Cond.methodLink RX2 116 yX0_beginEpoch, Cond.instanceMethod yX0_beginEpoch, Cond.selects RX0 yX0_beginEpoch yX0_beginEpoch, Cond.code yX0_beginEpoch cX0_beginEpoch 2 none, Cond.fieldLink RX0 38 "FreshShares$Circle" "threshold" "I", Cond.fieldLink RX0 24 "FreshShares$Circle" "thresholds" "[I", Cond.methodLink RX0 67 yX0_isLastEpoch, Cond.methodLink RX2 65 yX2_fresh, Cond.instanceMethod yX2_fresh, Cond.selects RX2 yX2_fresh yX2_fresh, Cond.code yX2_fresh cX2_fresh 3 (some .int), Cond.fieldLink RX2 31 "FreshShares$Orders" "taken" "I", Cond.fieldLink RX2 28 "FreshShares$Orders" "factors" "[I", Cond.methodLink RX2 130 yX4_has, Cond.static yX4_has, Cond.code yX4_has cX4_has 2 (some .boolean), Cond.methodLink RX2 167 yX2_offer, Cond.instanceMethod yX2_offer, Cond.selects RX2 yX2_offer yX2_offer, Cond.code yX2_offer cX2_offer 9 none]
def wsX6_act_r6 : List Cond := [Cond.fieldLink RX2 22 "FreshShares$Orders" "polynomials" "[I", Cond.fieldLink RX2 25 "FreshShares$Orders" "sealsSent" "[I", Cond.methodLink RX2 186 yX2_sent, Cond.instanceMethod yX2_sent, Cond.selects RX2 yX2_sent yX2_sent, Cond.code yX2_sent cX2_sent 5 (some .int), Cond.methodLink RX2 189 yX0_bend, Cond.instanceMethod yX0_bend, Cond.selects RX0 yX0_bend yX0_bend, Cond.code yX0_bend cX0_bend 3 (some .int), Cond.fieldLink RX0 15 "FreshShares$Circle" "bends" "[I", Cond.methodLink RX2 150 yX5_fitting, Cond.static yX5_fitting, Cond.code yX5_fitting cX5_fitting 6 (some .boolean), Cond.methodLink RX5 15 Lib.Math.min.name, Cond.methodLink RX5 20 yX5_joined, Cond.static yX5_joined, Cond.code yX5_joined cX5_joined 2 (some .int), Cond.methodLink RX5 23 yX5_sealOf, Cond.methodLink RX2 120 yX4_only, Cond.methodLink RX2 170 yX2_pourTaken, Cond.instanceMethod yX2_pourTaken, Cond.selects RX2 yX2_pourTaken yX2_pourTaken, Cond.code yX2_pourTaken cX2_pourTaken 3 none]
def wsX6_act_r7 : List Cond := [Cond.methodLink RX2 195 yX2_pour, Cond.instanceMethod yX2_pour, Cond.selects RX2 yX2_pour yX2_pour, Cond.code yX2_pour cX2_pour 5 none, Cond.methodLink RX2 202 yX5_raised, Cond.methodLink RX2 205 yX5_joined, Cond.methodLink RX2 173 yX2_closeEpoch, Cond.instanceMethod yX2_closeEpoch, Cond.selects RX2 yX2_closeEpoch yX2_closeEpoch, Cond.code yX2_closeEpoch cX2_closeEpoch 2 (some .int), Cond.methodLink RX2 125 yJ6_bitCount_0f7a4, Cond.static yJ6_bitCount_0f7a4, Cond.initialized RJ6, Cond.code yJ6_bitCount_0f7a4 cJ6_bitCount_0f7a4 1 (some .int), Cond.constant RJ6 265 (1431655765), Cond.constant RJ6 266 (858993459), Cond.constant RJ6 267 (252645135), Cond.methodLink RX2 68 yX2_openedByThose, Cond.instanceMethod yX2_openedByThose, Cond.selects RX2 yX2_openedByThose yX2_openedByThose, Cond.code yX2_openedByThose cX2_openedByThose 5 (some .int), Cond.fieldLink RX2 18 "FreshShares$Orders" "told" "[I", Cond.methodLink RX2 134 yX2_hear, Cond.instanceMethod yX2_hear]
def wsX6_act_r8 : List Cond := [Cond.selects RX2 yX2_hear yX2_hear, Cond.code yX2_hear cX2_hear 2 (some .boolean), Cond.methodLink RX2 147 yX0_tells, Cond.instanceMethod yX0_tells, Cond.selects RX0 yX0_tells yX0_tells, Cond.code yX0_tells cX0_tells 2 (some .int), Cond.fieldLink RX0 18 "FreshShares$Circle" "shares" "[I", Cond.methodLink RX0 71 yX0_bend, Cond.methodLink RX0 75 yX5_plus, Cond.methodLink RX2 140 yX4_lowest, Cond.static yX4_lowest, Cond.code yX4_lowest cX4_lowest 5 (some .int), Cond.methodLink RX4 9 yX4_has, Cond.methodLink RX4 15 yX4_only, Cond.methodLink RX2 143 yX5_weighed, Cond.static yX5_weighed, Cond.code yX5_weighed cX5_weighed 5 (some .int), Cond.methodLink RX5 27 yX4_has, Cond.methodLink RX5 42 yX5_weight, Cond.static yX5_weight, Cond.code yX5_weight cX5_weight 6 (some .int), Cond.methodLink RX5 33 yX5_less, Cond.static yX5_less, Cond.code yX5_less cX5_less 2 (some .int)]
def wsX6_act_r9 : List Cond := [Cond.methodLink RX5 36 yX5_times, Cond.methodLink RX5 39 yX5_inverse, Cond.static yX5_inverse, Cond.code yX5_inverse cX5_inverse 3 (some .int), Cond.methodLink RX5 46 yX5_plus, Cond.methodLink RX2 72 yX2_lose, Cond.instanceMethod yX2_lose, Cond.selects RX2 yX2_lose yX2_lose, Cond.code yX2_lose cX2_lose 2 (some .int), Cond.methodLink RX2 75 yX2_rebuild, Cond.instanceMethod yX2_rebuild, Cond.selects RX2 yX2_rebuild yX2_rebuild, Cond.code yX2_rebuild cX2_rebuild 4 (some .int), Cond.methodLink RX2 78 yX2_move, Cond.instanceMethod yX2_move, Cond.selects RX2 yX2_move yX2_move, Cond.code yX2_move cX2_move 6 (some .int), Cond.methodLink RX2 176 yX5_weight, Cond.methodLink RX2 180 yJ7_fill_53178, Cond.static yJ7_fill_53178, Cond.initialized RJ7, Cond.code yJ7_fill_53178 cJ7_fill_53178 4 none, Cond.methodLink RX2 81 yX2_steal, Cond.instanceMethod yX2_steal]
def wsX6_act_r10 : List Cond := [Cond.selects RX2 yX2_steal yX2_steal, Cond.code yX2_steal cX2_steal 2 (some .int), Cond.methodLink RX2 160 yX1_add, Cond.instanceMethod yX1_add, Cond.selects RX1 yX1_add yX1_add, Cond.code yX1_add cX1_add 4 none, Cond.fieldLink RX1 9 "FreshShares$Loot" "members" "[I", Cond.fieldLink RX1 15 "FreshShares$Loot" "epochs" "[I", Cond.fieldLink RX1 18 "FreshShares$Loot" "shares" "[I", Cond.methodLink RX1 31 yX1_isFull]
def wsX6_act : List Cond := .code yX6_act cX6_act 2 (some .int) :: ((wsX6_act_r1 ++ (wsX6_act_r2 ++ (wsX6_act_r3 ++ (wsX6_act_r4 ++ (wsX6_act_r5 ++ (wsX6_act_r6 ++ (wsX6_act_r7 ++ (wsX6_act_r8 ++ (wsX6_act_r9 ++ wsX6_act_r10))))))))) ++ wsX60 ++ wsX30 ++ wsX00 ++ wsX20 ++ wsX10)
def wsX6_named : List Cond := .code yX6_named cX6_named 2 (some .int) :: ([.fieldLink RX6 27 "FreshShares" "circle" "LFreshShares$Circle;"] ++ wsX60 ++ wsX00)
def wsX6_fits_r1 : List Cond := [Cond.fieldLink RX6 27 "FreshShares" "circle" "LFreshShares$Circle;", Cond.methodLink RX6 38 yX6_isValue, Cond.static yX6_isValue, Cond.initialized RX6, Cond.code yX6_isValue cX6_isValue 1 (some .boolean), Cond.methodLink RX6 80 yX0_isDealt, Cond.instanceMethod yX0_isDealt, Cond.selects RX0 yX0_isDealt yX0_isDealt, Cond.initialized RX0, Cond.code yX0_isDealt cX0_isDealt 1 (some .boolean), Cond.fieldLink RX0 41 "FreshShares$Circle" "epoch" "I", Cond.methodLink RX6 90 yX5_fitting, Cond.static yX5_fitting, Cond.initialized RX5, Cond.code yX5_fitting cX5_fitting 6 (some .boolean), Cond.methodLink RX5 15 Lib.Math.min.name, Cond.static Lib.Math.min.name, Cond.initialized "java/lang/Math", Cond.code Lib.Math.min.name Lib.Math.min.code 2 (some .int), Cond.methodLink RX5 9 yX5_raised, Cond.static yX5_raised, Cond.code yX5_raised cX5_raised 4 (some .int), Cond.methodLink RX5 20 yX5_joined, Cond.static yX5_joined]
def wsX6_fits_r2 : List Cond := [Cond.code yX5_joined cX5_joined 2 (some .int), Cond.methodLink RX5 23 yX5_sealOf, Cond.static yX5_sealOf, Cond.code yX5_sealOf cX5_sealOf 1 (some .int)]
def wsX6_fits : List Cond := .code yX6_fits cX6_fits 3 (some .int) :: ((wsX6_fits_r1 ++ wsX6_fits_r2) ++ wsX60 ++ wsX00)
def wsX6_seal : List Cond := .code yX6_seal cX6_seal 2 (some .int) :: ([.fieldLink RX6 27 "FreshShares" "circle" "LFreshShares$Circle;", .methodLink RX6 80 yX0_isDealt, .instanceMethod yX0_isDealt, .selects RX0 yX0_isDealt yX0_isDealt, .initialized RX0, .code yX0_isDealt cX0_isDealt 1 (some .boolean), .fieldLink RX0 41 "FreshShares$Circle" "epoch" "I"] ++ wsX60 ++ wsX00)
def wsX6_weighs_r1 : List Cond := [Cond.methodLink RX6 38 yX6_isValue, Cond.static yX6_isValue, Cond.initialized RX6, Cond.code yX6_isValue cX6_isValue 1 (some .boolean), Cond.methodLink RX6 34 yX6_isMember, Cond.static yX6_isMember, Cond.code yX6_isMember cX6_isMember 1 (some .boolean), Cond.methodLink RX6 96 yX4_has, Cond.static yX4_has, Cond.initialized RX4, Cond.code yX4_has cX4_has 2 (some .boolean), Cond.methodLink RX6 102 yX5_weight, Cond.static yX5_weight, Cond.initialized RX5, Cond.code yX5_weight cX5_weight 6 (some .int), Cond.methodLink RX5 27 yX4_has, Cond.methodLink RX5 33 yX5_less, Cond.static yX5_less, Cond.code yX5_less cX5_less 2 (some .int), Cond.methodLink RX5 36 yX5_times, Cond.static yX5_times, Cond.code yX5_times cX5_times 2 (some .int), Cond.methodLink RX5 39 yX5_inverse, Cond.static yX5_inverse]
def wsX6_weighs_r2 : List Cond := [Cond.code yX5_inverse cX5_inverse 3 (some .int)]
def wsX6_weighs : List Cond := .code yX6_weighs cX6_weighs 4 (some .int) :: ((wsX6_weighs_r1 ++ wsX6_weighs_r2))
def wsX6_loot : List Cond := .code yX6_loot cX6_loot 4 (some .int) :: ([.fieldLink RX6 27 "FreshShares" "circle" "LFreshShares$Circle;"] ++ wsX60 ++ wsX00 ++ wsX10)
def wsX6_worlds_r1 : List Cond := [Cond.fieldLink RX6 27 "FreshShares" "circle" "LFreshShares$Circle;", Cond.fieldLink RX6 19 "FreshShares" "orders" "LFreshShares$Orders;", Cond.methodLink RX6 38 yX6_isValue, Cond.static yX6_isValue, Cond.initialized RX6, Cond.code yX6_isValue cX6_isValue 1 (some .boolean), Cond.methodLink RX6 124 yX0_wasEpoch, Cond.instanceMethod yX0_wasEpoch, Cond.selects RX0 yX0_wasEpoch yX0_wasEpoch, Cond.initialized RX0, Cond.code yX0_wasEpoch cX0_wasEpoch 2 (some .boolean), Cond.fieldLink RX0 41 "FreshShares$Circle" "epoch" "I", Cond.methodLink RX6 127 yX2_worldsLeft, Cond.instanceMethod yX2_worldsLeft, Cond.selects RX2 yX2_worldsLeft yX2_worldsLeft, Cond.initialized RX2, Cond.code yX2_worldsLeft cX2_worldsLeft 7 (some .int), Cond.fieldLink RX2 12 "FreshShares$Orders" "circle" "LFreshShares$Circle;", Cond.methodLink RX2 219 yX0_thresholdOf, Cond.instanceMethod yX0_thresholdOf, Cond.selects RX0 yX0_thresholdOf yX0_thresholdOf, Cond.code yX0_thresholdOf cX0_thresholdOf 2 (some .int), Cond.fieldLink RX0 24 "FreshShares$Circle" "thresholds" "[I", Cond.methodLink RX0 63 yX0_wasEpoch]
def wsX6_worlds_r2 : List Cond := [Cond.methodLink RX2 213 yX1_victims, Cond.instanceMethod yX1_victims, Cond.selects RX1 yX1_victims yX1_victims, Cond.initialized RX1, Cond.code yX1_victims cX1_victims 4 (some .int), Cond.fieldLink RX1 21 "FreshShares$Loot" "size" "I", Cond.fieldLink RX1 15 "FreshShares$Loot" "epochs" "[I", Cond.fieldLink RX1 9 "FreshShares$Loot" "members" "[I", Cond.methodLink RX1 35 yX4_only, Cond.static yX4_only, Cond.initialized RX4, Cond.code yX4_only cX4_only 1 (some .int), Cond.methodLink RX2 125 yJ6_bitCount_0f7a4, Cond.static yJ6_bitCount_0f7a4, Cond.initialized RJ6, Cond.code yJ6_bitCount_0f7a4 cJ6_bitCount_0f7a4 1 (some .int), Cond.constant RJ6 265 (1431655765), Cond.constant RJ6 266 (858993459), Cond.constant RJ6 267 (252645135), Cond.methodLink RX2 222 yX2_opened, Cond.instanceMethod yX2_opened, Cond.selects RX2 yX2_opened yX2_opened, Cond.code yX2_opened cX2_opened 6 (some .int), Cond.fieldLink RX2 18 "FreshShares$Orders" "told" "[I"]
def wsX6_worlds_r3 : List Cond := [Cond.methodLink RX2 140 yX4_lowest, Cond.static yX4_lowest, Cond.code yX4_lowest cX4_lowest 5 (some .int), Cond.methodLink RX4 9 yX4_has, Cond.static yX4_has, Cond.code yX4_has cX4_has 2 (some .boolean), Cond.methodLink RX4 15 yX4_only, Cond.methodLink RX2 216 yX1_firstShare, Cond.instanceMethod yX1_firstShare, Cond.selects RX1 yX1_firstShare yX1_firstShare, Cond.code yX1_firstShare cX1_firstShare 4 (some .int), Cond.fieldLink RX1 18 "FreshShares$Loot" "shares" "[I", Cond.methodLink RX2 143 yX5_weighed, Cond.static yX5_weighed, Cond.initialized RX5, Cond.code yX5_weighed cX5_weighed 5 (some .int), Cond.methodLink RX5 27 yX4_has, Cond.methodLink RX5 42 yX5_weight, Cond.static yX5_weight, Cond.code yX5_weight cX5_weight 6 (some .int), Cond.methodLink RX5 33 yX5_less, Cond.static yX5_less, Cond.code yX5_less cX5_less 2 (some .int), Cond.methodLink RX5 36 yX5_times]
def wsX6_worlds_r4 : List Cond := [Cond.static yX5_times, Cond.code yX5_times cX5_times 2 (some .int), Cond.methodLink RX5 39 yX5_inverse, Cond.static yX5_inverse, Cond.code yX5_inverse cX5_inverse 3 (some .int), Cond.methodLink RX5 46 yX5_plus, Cond.static yX5_plus, Cond.code yX5_plus cX5_plus 2 (some .int)]
def wsX6_worlds : List Cond := .code yX6_worlds cX6_worlds 3 (some .int) :: ((wsX6_worlds_r1 ++ (wsX6_worlds_r2 ++ (wsX6_worlds_r3 ++ wsX6_worlds_r4))) ++ wsX60 ++ wsX00 ++ wsX20 ++ wsX10)
def wsX6_thief_r1 : List Cond := [Cond.fieldLink RX6 27 "FreshShares" "circle" "LFreshShares$Circle;", Cond.fieldLink RX6 19 "FreshShares" "orders" "LFreshShares$Orders;", Cond.methodLink RX6 80 yX0_isDealt, Cond.instanceMethod yX0_isDealt, Cond.selects RX0 yX0_isDealt yX0_isDealt, Cond.initialized RX0, Cond.code yX0_isDealt cX0_isDealt 1 (some .boolean), Cond.fieldLink RX0 41 "FreshShares$Circle" "epoch" "I", Cond.methodLink RX6 130 yX2_opened, Cond.instanceMethod yX2_opened, Cond.selects RX2 yX2_opened yX2_opened, Cond.initialized RX2, Cond.code yX2_opened cX2_opened 6 (some .int), Cond.fieldLink RX2 12 "FreshShares$Orders" "circle" "LFreshShares$Circle;", Cond.fieldLink RX2 18 "FreshShares$Orders" "told" "[I", Cond.methodLink RX2 213 yX1_victims, Cond.instanceMethod yX1_victims, Cond.selects RX1 yX1_victims yX1_victims, Cond.initialized RX1, Cond.code yX1_victims cX1_victims 4 (some .int), Cond.fieldLink RX1 21 "FreshShares$Loot" "size" "I", Cond.fieldLink RX1 15 "FreshShares$Loot" "epochs" "[I", Cond.fieldLink RX1 9 "FreshShares$Loot" "members" "[I", Cond.methodLink RX1 35 yX4_only]
def wsX6_thief_r2 : List Cond := [Cond.static yX4_only, Cond.initialized RX4, Cond.code yX4_only cX4_only 1 (some .int), Cond.methodLink RX2 125 yJ6_bitCount_0f7a4, Cond.static yJ6_bitCount_0f7a4, Cond.initialized RJ6, Cond.code yJ6_bitCount_0f7a4 cJ6_bitCount_0f7a4 1 (some .int), Cond.constant RJ6 265 (1431655765), Cond.constant RJ6 266 (858993459), Cond.constant RJ6 267 (252645135), Cond.methodLink RX2 140 yX4_lowest, Cond.static yX4_lowest, Cond.code yX4_lowest cX4_lowest 5 (some .int), Cond.methodLink RX4 9 yX4_has, Cond.static yX4_has, Cond.code yX4_has cX4_has 2 (some .boolean), Cond.methodLink RX4 15 yX4_only, Cond.methodLink RX2 216 yX1_firstShare, Cond.instanceMethod yX1_firstShare, Cond.selects RX1 yX1_firstShare yX1_firstShare, Cond.code yX1_firstShare cX1_firstShare 4 (some .int), Cond.fieldLink RX1 18 "FreshShares$Loot" "shares" "[I", Cond.methodLink RX2 143 yX5_weighed, Cond.static yX5_weighed]
def wsX6_thief_r3 : List Cond := [Cond.initialized RX5, Cond.code yX5_weighed cX5_weighed 5 (some .int), Cond.methodLink RX5 27 yX4_has, Cond.methodLink RX5 42 yX5_weight, Cond.static yX5_weight, Cond.code yX5_weight cX5_weight 6 (some .int), Cond.methodLink RX5 33 yX5_less, Cond.static yX5_less, Cond.code yX5_less cX5_less 2 (some .int), Cond.methodLink RX5 36 yX5_times, Cond.static yX5_times, Cond.code yX5_times cX5_times 2 (some .int), Cond.methodLink RX5 39 yX5_inverse, Cond.static yX5_inverse, Cond.code yX5_inverse cX5_inverse 3 (some .int), Cond.methodLink RX5 46 yX5_plus, Cond.static yX5_plus, Cond.code yX5_plus cX5_plus 2 (some .int), Cond.methodLink RX6 133 yX0_firstLostEpoch, Cond.instanceMethod yX0_firstLostEpoch, Cond.selects RX0 yX0_firstLostEpoch yX0_firstLostEpoch, Cond.code yX0_firstLostEpoch cX0_firstLostEpoch 3 (some .int), Cond.fieldLink RX0 30 "FreshShares$Circle" "stolen" "LFreshShares$Loot;", Cond.methodLink RX0 86 yX1_victims]
def wsX6_thief_r4 : List Cond := [Cond.methodLink RX0 90 yJ6_bitCount_0f7a4, Cond.methodLink RX0 95 yX0_thresholdOf, Cond.instanceMethod yX0_thresholdOf, Cond.selects RX0 yX0_thresholdOf yX0_thresholdOf, Cond.code yX0_thresholdOf cX0_thresholdOf 2 (some .int), Cond.fieldLink RX0 24 "FreshShares$Circle" "thresholds" "[I", Cond.methodLink RX0 63 yX0_wasEpoch, Cond.instanceMethod yX0_wasEpoch, Cond.selects RX0 yX0_wasEpoch yX0_wasEpoch, Cond.code yX0_wasEpoch cX0_wasEpoch 2 (some .boolean), Cond.methodLink RX6 136 yX0_thresholdOf]
def wsX6_thief : List Cond := .code yX6_thief cX6_thief 3 (some .int) :: ((wsX6_thief_r1 ++ (wsX6_thief_r2 ++ (wsX6_thief_r3 ++ wsX6_thief_r4))) ++ wsX60 ++ wsX00 ++ wsX20 ++ wsX10)
def wsX6_image_r1 : List Cond := [Cond.fieldLink RX6 30 "FreshShares" "images" "[LFreshShares$Circle;", Cond.classLink RX6 28 RX0, Cond.instantiable RX0 12, Cond.initialized RX0, Cond.fieldLink RX6 27 "FreshShares" "circle" "LFreshShares$Circle;", Cond.methodLink RX6 139 yX0_init, Cond.instanceMethod yX0_init, Cond.code yX0_init cX0_init 2 none, Cond.methodLink RX0 3 objectInit, Cond.instanceMethod objectInit, Cond.code objectInit ⟨#[0xb1]⟩ 1 none, Cond.arrayClass .int, Cond.fieldLink RX0 9 "FreshShares$Circle" "rows" "[I", Cond.fieldLink RX0 15 "FreshShares$Circle" "bends" "[I", Cond.fieldLink RX0 18 "FreshShares$Circle" "shares" "[I", Cond.fieldLink RX0 21 "FreshShares$Circle" "seals" "[I", Cond.fieldLink RX0 24 "FreshShares$Circle" "thresholds" "[I", Cond.classLink RX0 27 RX1, Cond.instantiable RX1 4, Cond.initialized RX1, Cond.fieldLink RX0 30 "FreshShares$Circle" "stolen" "LFreshShares$Loot;", Cond.fieldLink RX0 34 "FreshShares$Circle" "holders" "I", Cond.fieldLink RX0 38 "FreshShares$Circle" "threshold" "I", Cond.fieldLink RX0 41 "FreshShares$Circle" "epoch" "I"]
def wsX6_image_r2 : List Cond := [Cond.fieldLink RX0 44 "FreshShares$Circle" "liars" "I", Cond.fieldLink RX0 47 "FreshShares$Circle" "struck" "I", Cond.fieldLink RX0 50 "FreshShares$Circle" "ordersDone" "I", Cond.methodLink RX0 29 yX1_init, Cond.instanceMethod yX1_init, Cond.code yX1_init cX1_init 1 none, Cond.methodLink RX1 3 objectInit, Cond.fieldLink RX1 9 "FreshShares$Loot" "members" "[I", Cond.fieldLink RX1 15 "FreshShares$Loot" "epochs" "[I", Cond.fieldLink RX1 18 "FreshShares$Loot" "shares" "[I", Cond.fieldLink RX1 21 "FreshShares$Loot" "size" "I", Cond.methodLink RX6 140 yX0_copyFrom, Cond.instanceMethod yX0_copyFrom, Cond.selects RX0 yX0_copyFrom yX0_copyFrom, Cond.code yX0_copyFrom cX0_copyFrom 2 none, Cond.methodLink RX0 53 arraycopyName, Cond.native arraycopyName, Cond.static arraycopyName, Cond.initialized "java/lang/System", Cond.methodLink RX0 59 yX1_copyFrom, Cond.instanceMethod yX1_copyFrom, Cond.selects RX1 yX1_copyFrom yX1_copyFrom, Cond.code yX1_copyFrom cX1_copyFrom 2 none, Cond.methodLink RX1 25 arraycopyName]
def wsX6_image : List Cond := .code yX6_image cX6_image 3 (some .int) :: ((wsX6_image_r1 ++ wsX6_image_r2) ++ wsX60 ++ wsX00 ++ wsX10)
def wsX6_restore_r1 : List Cond := [Cond.fieldLink RX6 30 "FreshShares" "images" "[LFreshShares$Circle;", Cond.fieldLink RX6 27 "FreshShares" "circle" "LFreshShares$Circle;", Cond.methodLink RX6 140 yX0_copyFrom, Cond.instanceMethod yX0_copyFrom, Cond.selects RX0 yX0_copyFrom yX0_copyFrom, Cond.initialized RX0, Cond.code yX0_copyFrom cX0_copyFrom 2 none, Cond.fieldLink RX0 9 "FreshShares$Circle" "rows" "[I", Cond.methodLink RX0 53 arraycopyName, Cond.native arraycopyName, Cond.static arraycopyName, Cond.initialized "java/lang/System", Cond.fieldLink RX0 15 "FreshShares$Circle" "bends" "[I", Cond.fieldLink RX0 18 "FreshShares$Circle" "shares" "[I", Cond.fieldLink RX0 21 "FreshShares$Circle" "seals" "[I", Cond.fieldLink RX0 24 "FreshShares$Circle" "thresholds" "[I", Cond.fieldLink RX0 30 "FreshShares$Circle" "stolen" "LFreshShares$Loot;", Cond.fieldLink RX0 34 "FreshShares$Circle" "holders" "I", Cond.fieldLink RX0 38 "FreshShares$Circle" "threshold" "I", Cond.fieldLink RX0 41 "FreshShares$Circle" "epoch" "I", Cond.fieldLink RX0 44 "FreshShares$Circle" "liars" "I", Cond.fieldLink RX0 47 "FreshShares$Circle" "struck" "I", Cond.fieldLink RX0 50 "FreshShares$Circle" "ordersDone" "I", Cond.methodLink RX0 59 yX1_copyFrom]
def wsX6_restore_r2 : List Cond := [Cond.instanceMethod yX1_copyFrom, Cond.selects RX1 yX1_copyFrom yX1_copyFrom, Cond.initialized RX1, Cond.code yX1_copyFrom cX1_copyFrom 2 none, Cond.fieldLink RX1 9 "FreshShares$Loot" "members" "[I", Cond.methodLink RX1 25 arraycopyName, Cond.fieldLink RX1 15 "FreshShares$Loot" "epochs" "[I", Cond.fieldLink RX1 18 "FreshShares$Loot" "shares" "[I", Cond.fieldLink RX1 21 "FreshShares$Loot" "size" "I"]
def wsX6_restore : List Cond := .code yX6_restore cX6_restore 3 (some .int) :: ((wsX6_restore_r1 ++ wsX6_restore_r2) ++ wsX60 ++ wsX00 ++ wsX10)
def wsX6_keptImages : List Cond := .code yX6_keptImages cX6_keptImages 3 (some .int) :: ([.fieldLink RX6 30 "FreshShares" "images" "[LFreshShares$Circle;", .methodLink RX6 158 yX4_only, .static yX4_only, .initialized RX4, .code yX4_only cX4_only 1 (some .int)] ++ wsX60)
def wsX6_count_r1 : List Cond := [Cond.fieldLink RX6 27 "FreshShares" "circle" "LFreshShares$Circle;", Cond.fieldLink RX6 10 "FreshShares" "script" "LFreshShares$Script;", Cond.methodLink RX6 80 yX0_isDealt, Cond.instanceMethod yX0_isDealt, Cond.selects RX0 yX0_isDealt yX0_isDealt, Cond.initialized RX0, Cond.code yX0_isDealt cX0_isDealt 1 (some .boolean), Cond.fieldLink RX0 41 "FreshShares$Circle" "epoch" "I", Cond.methodLink RX6 150 yJ6_bitCount_0f7a4, Cond.static yJ6_bitCount_0f7a4, Cond.initialized RJ6, Cond.code yJ6_bitCount_0f7a4 cJ6_bitCount_0f7a4 1 (some .int), Cond.constant RJ6 265 (1431655765), Cond.constant RJ6 266 (858993459), Cond.constant RJ6 267 (252645135), Cond.methodLink RX6 155 yX6_keptImages, Cond.instanceMethod yX6_keptImages, Cond.selects RX6 yX6_keptImages yX6_keptImages, Cond.initialized RX6, Cond.code yX6_keptImages cX6_keptImages 3 (some .int), Cond.fieldLink RX6 30 "FreshShares" "images" "[LFreshShares$Circle;", Cond.methodLink RX6 158 yX4_only, Cond.static yX4_only, Cond.initialized RX4]
def wsX6_count_r2 : List Cond := [Cond.code yX4_only cX4_only 1 (some .int), Cond.methodLink RX6 124 yX0_wasEpoch, Cond.instanceMethod yX0_wasEpoch, Cond.selects RX0 yX0_wasEpoch yX0_wasEpoch, Cond.code yX0_wasEpoch cX0_wasEpoch 2 (some .boolean), Cond.methodLink RX6 136 yX0_thresholdOf, Cond.instanceMethod yX0_thresholdOf, Cond.selects RX0 yX0_thresholdOf yX0_thresholdOf, Cond.code yX0_thresholdOf cX0_thresholdOf 2 (some .int), Cond.fieldLink RX0 24 "FreshShares$Circle" "thresholds" "[I", Cond.methodLink RX0 63 yX0_wasEpoch]
def wsX6_count : List Cond := .code yX6_count cX6_count 2 (some .int) :: ((wsX6_count_r1 ++ wsX6_count_r2) ++ wsX60 ++ wsX00 ++ wsX10 ++ wsX30)
def wsX7_bentAt : List Cond := .code yX7_bentAt cX7_bentAt 2 (some .int) :: ([])
def wsX7_init : List Cond := .code yX7_init cX7_init 2 none :: ([.methodLink RX7 1 objectInit, .instanceMethod objectInit, .code objectInit ⟨#[0xb1]⟩ 1 none, .arrayClass .int, .fieldLink RX7 7 "FreshSharesModel" "state" "[I", .fieldLink RX7 13 "FreshSharesModel" "text" "[I", .fieldLink RX7 16 "FreshSharesModel" "poly" "[I", .fieldLink RX7 19 "FreshSharesModel" "added" "[I", .fieldLink RX7 22 "FreshSharesModel" "sealed" "[I", .fieldLink RX7 25 "FreshSharesModel" "images" "[I", .arrayClass .boolean, .fieldLink RX7 28 "FreshSharesModel" "isKept" "[Z", .methodLink RX7 32 yX7_bentAt, .static yX7_bentAt, .initialized RX7, .code yX7_bentAt cX7_bentAt 2 (some .int)] ++ wsX70)
def wsX7_in : List Cond := .code yX7_in cX7_in 3 (some .boolean) :: ([])
def wsX7_isMember : List Cond := .code yX7_isMember cX7_isMember 1 (some .boolean) :: ([.methodLink RX7 36 yX7_in, .static yX7_in, .initialized RX7, .code yX7_in cX7_in 3 (some .boolean)])
def wsX7_isValue : List Cond := .code yX7_isValue cX7_isValue 1 (some .boolean) :: ([.methodLink RX7 36 yX7_in, .static yX7_in, .initialized RX7, .code yX7_in cX7_in 3 (some .boolean)])
def wsX7_bentOf : List Cond := .code yX7_bentOf cX7_bentOf 3 (some .int) :: ([.fieldLink RX7 7 "FreshSharesModel" "state" "[I", .methodLink RX7 32 yX7_bentAt, .static yX7_bentAt, .initialized RX7, .code yX7_bentAt cX7_bentAt 2 (some .int)] ++ wsX70)
def wsX7_has : List Cond := .code yX7_has cX7_has 2 (some .boolean) :: ([])
def wsX7_isDealt : List Cond := .code yX7_isDealt cX7_isDealt 1 (some .boolean) :: ([.fieldLink RX7 7 "FreshSharesModel" "state" "[I"] ++ wsX70)
def wsX7_mod : List Cond := .code yX7_mod cX7_mod 2 (some .int) :: ([])
def wsX7_power : List Cond := .code yX7_power cX7_power 5 (some .int) :: ([])
def wsX7_sealOf : List Cond := .code yX7_sealOf cX7_sealOf 1 (some .int) :: ([.methodLink RX7 40 yX7_power, .static yX7_power, .initialized RX7, .code yX7_power cX7_power 5 (some .int)])
def wsX7_row : List Cond := .code yX7_row cX7_row 5 (some .int) :: ([.fieldLink RX7 7 "FreshSharesModel" "state" "[I", .methodLink RX7 36 yX7_in, .static yX7_in, .initialized RX7, .code yX7_in cX7_in 3 (some .boolean), .methodLink RX7 44 yX7_isValue, .static yX7_isValue, .code yX7_isValue cX7_isValue 1 (some .boolean)] ++ wsX70)
def wsX7_bent : List Cond := .code yX7_bent cX7_bent 5 (some .int) :: ([.fieldLink RX7 7 "FreshSharesModel" "state" "[I", .methodLink RX7 48 yX7_isMember, .static yX7_isMember, .initialized RX7, .code yX7_isMember cX7_isMember 1 (some .boolean), .methodLink RX7 36 yX7_in, .static yX7_in, .code yX7_in cX7_in 3 (some .boolean), .methodLink RX7 51 yX7_bentOf, .instanceMethod yX7_bentOf, .selects RX7 yX7_bentOf yX7_bentOf, .code yX7_bentOf cX7_bentOf 3 (some .int), .methodLink RX7 32 yX7_bentAt, .static yX7_bentAt, .code yX7_bentAt cX7_bentAt 2 (some .int)] ++ wsX70)
def wsX7_hasShare : List Cond := .code yX7_hasShare cX7_hasShare 2 (some .boolean) :: ([.fieldLink RX7 7 "FreshSharesModel" "state" "[I"] ++ wsX70)
def wsX7_told : List Cond := .code yX7_told cX7_told 2 (some .int) :: ([.fieldLink RX7 7 "FreshSharesModel" "state" "[I", .methodLink RX7 51 yX7_bentOf, .instanceMethod yX7_bentOf, .selects RX7 yX7_bentOf yX7_bentOf, .initialized RX7, .code yX7_bentOf cX7_bentOf 3 (some .int), .methodLink RX7 32 yX7_bentAt, .static yX7_bentAt, .code yX7_bentAt cX7_bentAt 2 (some .int), .methodLink RX7 54 yX7_mod, .static yX7_mod, .code yX7_mod cX7_mod 2 (some .int)] ++ wsX70)
def wsX7_isFit : List Cond := .code yX7_isFit cX7_isFit 5 (some .boolean) :: ([.fieldLink RX7 7 "FreshSharesModel" "state" "[I", .methodLink RX7 40 yX7_power, .static yX7_power, .initialized RX7, .code yX7_power cX7_power 5 (some .int), .methodLink RX7 58 yX7_sealOf, .static yX7_sealOf, .code yX7_sealOf cX7_sealOf 1 (some .int)] ++ wsX70)
def wsX7_member_r1 : List Cond := [Cond.fieldLink RX7 7 "FreshSharesModel" "state" "[I", Cond.methodLink RX7 48 yX7_isMember, Cond.static yX7_isMember, Cond.initialized RX7, Cond.code yX7_isMember cX7_isMember 1 (some .boolean), Cond.methodLink RX7 36 yX7_in, Cond.static yX7_in, Cond.code yX7_in cX7_in 3 (some .boolean), Cond.methodLink RX7 51 yX7_bentOf, Cond.instanceMethod yX7_bentOf, Cond.selects RX7 yX7_bentOf yX7_bentOf, Cond.code yX7_bentOf cX7_bentOf 3 (some .int), Cond.methodLink RX7 32 yX7_bentAt, Cond.static yX7_bentAt, Cond.code yX7_bentAt cX7_bentAt 2 (some .int), Cond.methodLink RX7 61 yX7_hasShare, Cond.instanceMethod yX7_hasShare, Cond.selects RX7 yX7_hasShare yX7_hasShare, Cond.code yX7_hasShare cX7_hasShare 2 (some .boolean), Cond.methodLink RX7 64 yX7_told, Cond.instanceMethod yX7_told, Cond.selects RX7 yX7_told yX7_told, Cond.code yX7_told cX7_told 2 (some .int), Cond.methodLink RX7 54 yX7_mod]
def wsX7_member_r2 : List Cond := [Cond.static yX7_mod, Cond.code yX7_mod cX7_mod 2 (some .int), Cond.methodLink RX7 67 yX7_isFit, Cond.instanceMethod yX7_isFit, Cond.selects RX7 yX7_isFit yX7_isFit, Cond.code yX7_isFit cX7_isFit 5 (some .boolean), Cond.methodLink RX7 40 yX7_power, Cond.static yX7_power, Cond.code yX7_power cX7_power 5 (some .int), Cond.methodLink RX7 58 yX7_sealOf, Cond.static yX7_sealOf, Cond.code yX7_sealOf cX7_sealOf 1 (some .int)]
def wsX7_member : List Cond := .code yX7_member cX7_member 3 (some .int) :: ((wsX7_member_r1 ++ wsX7_member_r2) ++ wsX70)
def wsX7_say : List Cond := .code yX7_say cX7_say 2 (some .int) :: ([.fieldLink RX7 71 "FreshSharesModel" "signs" "I", .fieldLink RX7 13 "FreshSharesModel" "text" "[I", .methodLink RX7 36 yX7_in, .static yX7_in, .initialized RX7, .code yX7_in cX7_in 3 (some .boolean)] ++ wsX70)
def wsX7_wipe : List Cond := .code yX7_wipe cX7_wipe 2 (some .int) :: ([.fieldLink RX7 71 "FreshSharesModel" "signs" "I"] ++ wsX70)
def wsX7_figure : List Cond := .code yX7_figure cX7_figure 2 (some .int) :: ([.fieldLink RX7 13 "FreshSharesModel" "text" "[I"] ++ wsX70)
def wsX7_leastOf : List Cond := .code yX7_leastOf cX7_leastOf 1 (some .int) :: ([])
def wsX7_canStand : List Cond := .code yX7_canStand cX7_canStand 3 (some .boolean) :: ([.fieldLink RX7 13 "FreshSharesModel" "text" "[I", .methodLink RX7 75 yX7_figure, .instanceMethod yX7_figure, .selects RX7 yX7_figure yX7_figure, .initialized RX7, .code yX7_figure cX7_figure 2 (some .int), .methodLink RX7 36 yX7_in, .static yX7_in, .code yX7_in cX7_in 3 (some .boolean), .methodLink RX7 48 yX7_isMember, .static yX7_isMember, .code yX7_isMember cX7_isMember 1 (some .boolean)] ++ wsX70)
def wsX7_faultNow : List Cond := .code yX7_faultNow cX7_faultNow 2 (some .int) :: ([.fieldLink RX7 71 "FreshSharesModel" "signs" "I", .fieldLink RX7 13 "FreshSharesModel" "text" "[I", .methodLink RX7 78 yX7_leastOf, .static yX7_leastOf, .initialized RX7, .code yX7_leastOf cX7_leastOf 1 (some .int), .methodLink RX7 81 yX7_canStand, .instanceMethod yX7_canStand, .selects RX7 yX7_canStand yX7_canStand, .code yX7_canStand cX7_canStand 3 (some .boolean), .methodLink RX7 75 yX7_figure, .instanceMethod yX7_figure, .selects RX7 yX7_figure yX7_figure, .code yX7_figure cX7_figure 2 (some .int), .methodLink RX7 36 yX7_in, .static yX7_in, .code yX7_in cX7_in 3 (some .boolean), .methodLink RX7 48 yX7_isMember, .static yX7_isMember, .code yX7_isMember cX7_isMember 1 (some .boolean)] ++ wsX70)
def wsX7_fault : List Cond := .code yX7_fault cX7_fault 1 (some .int) :: ([.methodLink RX7 84 yX7_faultNow, .instanceMethod yX7_faultNow, .selects RX7 yX7_faultNow yX7_faultNow, .initialized RX7, .code yX7_faultNow cX7_faultNow 2 (some .int), .fieldLink RX7 71 "FreshSharesModel" "signs" "I", .fieldLink RX7 13 "FreshSharesModel" "text" "[I", .methodLink RX7 78 yX7_leastOf, .static yX7_leastOf, .code yX7_leastOf cX7_leastOf 1 (some .int), .methodLink RX7 81 yX7_canStand, .instanceMethod yX7_canStand, .selects RX7 yX7_canStand yX7_canStand, .code yX7_canStand cX7_canStand 3 (some .boolean), .methodLink RX7 75 yX7_figure, .instanceMethod yX7_figure, .selects RX7 yX7_figure yX7_figure, .code yX7_figure cX7_figure 2 (some .int), .methodLink RX7 36 yX7_in, .static yX7_in, .code yX7_in cX7_in 3 (some .boolean), .methodLink RX7 48 yX7_isMember, .static yX7_isMember, .code yX7_isMember cX7_isMember 1 (some .boolean)] ++ wsX70)
def wsX7_inverse : List Cond := .code yX7_inverse cX7_inverse 1 (some .int) :: ([.methodLink RX7 54 yX7_mod, .static yX7_mod, .initialized RX7, .code yX7_mod cX7_mod 2 (some .int), .methodLink RX7 40 yX7_power, .static yX7_power, .code yX7_power cX7_power 5 (some .int)])
def wsX7_weight : List Cond := .code yX7_weight cX7_weight 5 (some .int) :: ([.methodLink RX7 88 yX7_has, .static yX7_has, .initialized RX7, .code yX7_has cX7_has 2 (some .boolean), .methodLink RX7 54 yX7_mod, .static yX7_mod, .code yX7_mod cX7_mod 2 (some .int), .methodLink RX7 91 yX7_inverse, .static yX7_inverse, .code yX7_inverse cX7_inverse 1 (some .int), .methodLink RX7 40 yX7_power, .static yX7_power, .code yX7_power cX7_power 5 (some .int)])
def wsX7_weighs : List Cond := .code yX7_weighs cX7_weighs 4 (some .int) :: ([.methodLink RX7 36 yX7_in, .static yX7_in, .initialized RX7, .code yX7_in cX7_in 3 (some .boolean), .methodLink RX7 48 yX7_isMember, .static yX7_isMember, .code yX7_isMember cX7_isMember 1 (some .boolean), .methodLink RX7 88 yX7_has, .static yX7_has, .code yX7_has cX7_has 2 (some .boolean), .methodLink RX7 94 yX7_weight, .static yX7_weight, .code yX7_weight cX7_weight 5 (some .int), .methodLink RX7 54 yX7_mod, .static yX7_mod, .code yX7_mod cX7_mod 2 (some .int), .methodLink RX7 91 yX7_inverse, .static yX7_inverse, .code yX7_inverse cX7_inverse 1 (some .int), .methodLink RX7 40 yX7_power, .static yX7_power, .code yX7_power cX7_power 5 (some .int)])
def wsX7_polyAt : List Cond := .code yX7_polyAt cX7_polyAt 4 (some .int) :: ([.fieldLink RX7 97 "FreshSharesModel" "size" "I", .fieldLink RX7 16 "FreshSharesModel" "poly" "[I", .methodLink RX7 40 yX7_power, .static yX7_power, .initialized RX7, .code yX7_power cX7_power 5 (some .int)] ++ wsX70)
def wsX7_fitsPoly : List Cond := .code yX7_fitsPoly cX7_fitsPoly 5 (some .boolean) :: ([.fieldLink RX7 97 "FreshSharesModel" "size" "I", .fieldLink RX7 16 "FreshSharesModel" "poly" "[I", .methodLink RX7 58 yX7_sealOf, .static yX7_sealOf, .initialized RX7, .code yX7_sealOf cX7_sealOf 1 (some .int), .methodLink RX7 40 yX7_power, .static yX7_power, .code yX7_power cX7_power 5 (some .int)] ++ wsX70)
def wsX7_layPoly : List Cond := .code yX7_layPoly cX7_layPoly 5 none :: ([.fieldLink RX7 97 "FreshSharesModel" "size" "I", .fieldLink RX7 16 "FreshSharesModel" "poly" "[I", .fieldLink RX7 7 "FreshSharesModel" "state" "[I"] ++ wsX70)
def wsX7_having : List Cond := .code yX7_having cX7_having 3 (some .int) :: ([.methodLink RX7 61 yX7_hasShare, .instanceMethod yX7_hasShare, .selects RX7 yX7_hasShare yX7_hasShare, .initialized RX7, .code yX7_hasShare cX7_hasShare 2 (some .boolean), .fieldLink RX7 7 "FreshSharesModel" "state" "[I"] ++ wsX70)
def wsX7_bits : List Cond := .code yX7_bits cX7_bits 3 (some .int) :: ([])
def wsX7_isStruck_r1 : List Cond := [Cond.fieldLink RX7 7 "FreshSharesModel" "state" "[I", Cond.methodLink RX7 61 yX7_hasShare, Cond.instanceMethod yX7_hasShare, Cond.selects RX7 yX7_hasShare yX7_hasShare, Cond.initialized RX7, Cond.code yX7_hasShare cX7_hasShare 2 (some .boolean), Cond.methodLink RX7 100 yX7_polyAt, Cond.instanceMethod yX7_polyAt, Cond.selects RX7 yX7_polyAt yX7_polyAt, Cond.code yX7_polyAt cX7_polyAt 4 (some .int), Cond.fieldLink RX7 97 "FreshSharesModel" "size" "I", Cond.fieldLink RX7 16 "FreshSharesModel" "poly" "[I", Cond.methodLink RX7 40 yX7_power, Cond.static yX7_power, Cond.code yX7_power cX7_power 5 (some .int), Cond.methodLink RX7 51 yX7_bentOf, Cond.instanceMethod yX7_bentOf, Cond.selects RX7 yX7_bentOf yX7_bentOf, Cond.code yX7_bentOf cX7_bentOf 3 (some .int), Cond.methodLink RX7 32 yX7_bentAt, Cond.static yX7_bentAt, Cond.code yX7_bentAt cX7_bentAt 2 (some .int), Cond.methodLink RX7 54 yX7_mod, Cond.static yX7_mod]
def wsX7_isStruck_r2 : List Cond := [Cond.code yX7_mod cX7_mod 2 (some .int), Cond.methodLink RX7 103 yX7_fitsPoly, Cond.instanceMethod yX7_fitsPoly, Cond.selects RX7 yX7_fitsPoly yX7_fitsPoly, Cond.code yX7_fitsPoly cX7_fitsPoly 5 (some .boolean), Cond.methodLink RX7 58 yX7_sealOf, Cond.static yX7_sealOf, Cond.code yX7_sealOf cX7_sealOf 1 (some .int)]
def wsX7_isStruck : List Cond := .code yX7_isStruck cX7_isStruck 8 (some .boolean) :: ((wsX7_isStruck_r1 ++ wsX7_isStruck_r2) ++ wsX70)
def wsX7_strike : List Cond := .code yX7_strike cX7_strike 2 none :: ([.fieldLink RX7 7 "FreshSharesModel" "state" "[I", .methodLink RX7 88 yX7_has, .static yX7_has, .initialized RX7, .code yX7_has cX7_has 2 (some .boolean)] ++ wsX70)
def wsX7_nextEpoch : List Cond := .code yX7_nextEpoch cX7_nextEpoch 1 none :: ([.fieldLink RX7 7 "FreshSharesModel" "state" "[I"] ++ wsX70)
def wsX7_deal_r1 : List Cond := [Cond.fieldLink RX7 7 "FreshSharesModel" "state" "[I", Cond.fieldLink RX7 16 "FreshSharesModel" "poly" "[I", Cond.methodLink RX7 106 yX7_layPoly, Cond.instanceMethod yX7_layPoly, Cond.selects RX7 yX7_layPoly yX7_layPoly, Cond.initialized RX7, Cond.code yX7_layPoly cX7_layPoly 5 none, Cond.fieldLink RX7 97 "FreshSharesModel" "size" "I", Cond.methodLink RX7 58 yX7_sealOf, Cond.static yX7_sealOf, Cond.code yX7_sealOf cX7_sealOf 1 (some .int), Cond.methodLink RX7 40 yX7_power, Cond.static yX7_power, Cond.code yX7_power cX7_power 5 (some .int), Cond.methodLink RX7 100 yX7_polyAt, Cond.instanceMethod yX7_polyAt, Cond.selects RX7 yX7_polyAt yX7_polyAt, Cond.code yX7_polyAt cX7_polyAt 4 (some .int), Cond.methodLink RX7 110 yX7_isDealt, Cond.instanceMethod yX7_isDealt, Cond.selects RX7 yX7_isDealt yX7_isDealt, Cond.code yX7_isDealt cX7_isDealt 1 (some .boolean), Cond.methodLink RX7 114 yX7_nextEpoch, Cond.instanceMethod yX7_nextEpoch]
def wsX7_deal_r2 : List Cond := [Cond.selects RX7 yX7_nextEpoch yX7_nextEpoch, Cond.code yX7_nextEpoch cX7_nextEpoch 1 none]
def wsX7_deal : List Cond := .code yX7_deal cX7_deal 3 (some .int) :: ((wsX7_deal_r1 ++ wsX7_deal_r2) ++ wsX70)
def wsX7_forget : List Cond := .code yX7_forget cX7_forget 2 (some .int) :: ([.fieldLink RX7 7 "FreshSharesModel" "state" "[I", .methodLink RX7 117 yX7_having, .instanceMethod yX7_having, .selects RX7 yX7_having yX7_having, .initialized RX7, .code yX7_having cX7_having 3 (some .int), .methodLink RX7 61 yX7_hasShare, .instanceMethod yX7_hasShare, .selects RX7 yX7_hasShare yX7_hasShare, .code yX7_hasShare cX7_hasShare 2 (some .boolean), .methodLink RX7 120 yX7_bits, .static yX7_bits, .code yX7_bits cX7_bits 3 (some .int)] ++ wsX70)
def wsX7_honest_r1 : List Cond := [Cond.fieldLink RX7 71 "FreshSharesModel" "signs" "I", Cond.fieldLink RX7 7 "FreshSharesModel" "state" "[I", Cond.methodLink RX7 75 yX7_figure, Cond.instanceMethod yX7_figure, Cond.selects RX7 yX7_figure yX7_figure, Cond.initialized RX7, Cond.code yX7_figure cX7_figure 2 (some .int), Cond.fieldLink RX7 13 "FreshSharesModel" "text" "[I", Cond.methodLink RX7 61 yX7_hasShare, Cond.instanceMethod yX7_hasShare, Cond.selects RX7 yX7_hasShare yX7_hasShare, Cond.code yX7_hasShare cX7_hasShare 2 (some .boolean), Cond.methodLink RX7 64 yX7_told, Cond.instanceMethod yX7_told, Cond.selects RX7 yX7_told yX7_told, Cond.code yX7_told cX7_told 2 (some .int), Cond.methodLink RX7 51 yX7_bentOf, Cond.instanceMethod yX7_bentOf, Cond.selects RX7 yX7_bentOf yX7_bentOf, Cond.code yX7_bentOf cX7_bentOf 3 (some .int), Cond.methodLink RX7 32 yX7_bentAt, Cond.static yX7_bentAt, Cond.code yX7_bentAt cX7_bentAt 2 (some .int), Cond.methodLink RX7 54 yX7_mod]
def wsX7_honest_r2 : List Cond := [Cond.static yX7_mod, Cond.code yX7_mod cX7_mod 2 (some .int), Cond.methodLink RX7 67 yX7_isFit, Cond.instanceMethod yX7_isFit, Cond.selects RX7 yX7_isFit yX7_isFit, Cond.code yX7_isFit cX7_isFit 5 (some .boolean), Cond.methodLink RX7 40 yX7_power, Cond.static yX7_power, Cond.code yX7_power cX7_power 5 (some .int), Cond.methodLink RX7 58 yX7_sealOf, Cond.static yX7_sealOf, Cond.code yX7_sealOf cX7_sealOf 1 (some .int)]
def wsX7_honest : List Cond := .code yX7_honest cX7_honest 6 (some .int) :: ((wsX7_honest_r1 ++ wsX7_honest_r2) ++ wsX70)
def wsX7_firstOf : List Cond := .code yX7_firstOf cX7_firstOf 4 (some .int) :: ([.methodLink RX7 88 yX7_has, .static yX7_has, .initialized RX7, .code yX7_has cX7_has 2 (some .boolean), .methodLink RX7 120 yX7_bits, .static yX7_bits, .code yX7_bits cX7_bits 3 (some .int)])
def wsX7_together_r1 : List Cond := [Cond.methodLink RX7 88 yX7_has, Cond.static yX7_has, Cond.initialized RX7, Cond.code yX7_has cX7_has 2 (some .boolean), Cond.methodLink RX7 64 yX7_told, Cond.instanceMethod yX7_told, Cond.selects RX7 yX7_told yX7_told, Cond.code yX7_told cX7_told 2 (some .int), Cond.fieldLink RX7 7 "FreshSharesModel" "state" "[I", Cond.methodLink RX7 51 yX7_bentOf, Cond.instanceMethod yX7_bentOf, Cond.selects RX7 yX7_bentOf yX7_bentOf, Cond.code yX7_bentOf cX7_bentOf 3 (some .int), Cond.methodLink RX7 32 yX7_bentAt, Cond.static yX7_bentAt, Cond.code yX7_bentAt cX7_bentAt 2 (some .int), Cond.methodLink RX7 54 yX7_mod, Cond.static yX7_mod, Cond.code yX7_mod cX7_mod 2 (some .int), Cond.methodLink RX7 94 yX7_weight, Cond.static yX7_weight, Cond.code yX7_weight cX7_weight 5 (some .int), Cond.methodLink RX7 91 yX7_inverse, Cond.static yX7_inverse]
def wsX7_together_r2 : List Cond := [Cond.code yX7_inverse cX7_inverse 1 (some .int), Cond.methodLink RX7 40 yX7_power, Cond.static yX7_power, Cond.code yX7_power cX7_power 5 (some .int)]
def wsX7_together : List Cond := .code yX7_together cX7_together 5 (some .int) :: ((wsX7_together_r1 ++ wsX7_together_r2) ++ wsX70)
def wsX7_open_r1 : List Cond := [Cond.fieldLink RX7 7 "FreshSharesModel" "state" "[I", Cond.methodLink RX7 123 yX7_honest, Cond.instanceMethod yX7_honest, Cond.selects RX7 yX7_honest yX7_honest, Cond.initialized RX7, Cond.code yX7_honest cX7_honest 6 (some .int), Cond.fieldLink RX7 71 "FreshSharesModel" "signs" "I", Cond.methodLink RX7 75 yX7_figure, Cond.instanceMethod yX7_figure, Cond.selects RX7 yX7_figure yX7_figure, Cond.code yX7_figure cX7_figure 2 (some .int), Cond.fieldLink RX7 13 "FreshSharesModel" "text" "[I", Cond.methodLink RX7 61 yX7_hasShare, Cond.instanceMethod yX7_hasShare, Cond.selects RX7 yX7_hasShare yX7_hasShare, Cond.code yX7_hasShare cX7_hasShare 2 (some .boolean), Cond.methodLink RX7 64 yX7_told, Cond.instanceMethod yX7_told, Cond.selects RX7 yX7_told yX7_told, Cond.code yX7_told cX7_told 2 (some .int), Cond.methodLink RX7 51 yX7_bentOf, Cond.instanceMethod yX7_bentOf, Cond.selects RX7 yX7_bentOf yX7_bentOf, Cond.code yX7_bentOf cX7_bentOf 3 (some .int)]
def wsX7_open_r2 : List Cond := [Cond.methodLink RX7 32 yX7_bentAt, Cond.static yX7_bentAt, Cond.code yX7_bentAt cX7_bentAt 2 (some .int), Cond.methodLink RX7 54 yX7_mod, Cond.static yX7_mod, Cond.code yX7_mod cX7_mod 2 (some .int), Cond.methodLink RX7 67 yX7_isFit, Cond.instanceMethod yX7_isFit, Cond.selects RX7 yX7_isFit yX7_isFit, Cond.code yX7_isFit cX7_isFit 5 (some .boolean), Cond.methodLink RX7 40 yX7_power, Cond.static yX7_power, Cond.code yX7_power cX7_power 5 (some .int), Cond.methodLink RX7 58 yX7_sealOf, Cond.static yX7_sealOf, Cond.code yX7_sealOf cX7_sealOf 1 (some .int), Cond.methodLink RX7 120 yX7_bits, Cond.static yX7_bits, Cond.code yX7_bits cX7_bits 3 (some .int), Cond.methodLink RX7 126 yX7_firstOf, Cond.static yX7_firstOf, Cond.code yX7_firstOf cX7_firstOf 4 (some .int), Cond.methodLink RX7 88 yX7_has, Cond.static yX7_has]
def wsX7_open_r3 : List Cond := [Cond.code yX7_has cX7_has 2 (some .boolean), Cond.methodLink RX7 129 yX7_together, Cond.instanceMethod yX7_together, Cond.selects RX7 yX7_together yX7_together, Cond.code yX7_together cX7_together 5 (some .int), Cond.methodLink RX7 94 yX7_weight, Cond.static yX7_weight, Cond.code yX7_weight cX7_weight 5 (some .int), Cond.methodLink RX7 91 yX7_inverse, Cond.static yX7_inverse, Cond.code yX7_inverse cX7_inverse 1 (some .int)]
def wsX7_open : List Cond := .code yX7_open cX7_open 2 (some .int) :: ((wsX7_open_r1 ++ (wsX7_open_r2 ++ wsX7_open_r3)) ++ wsX70)
def wsX7_rebuild_r1 : List Cond := [Cond.fieldLink RX7 7 "FreshSharesModel" "state" "[I", Cond.methodLink RX7 75 yX7_figure, Cond.instanceMethod yX7_figure, Cond.selects RX7 yX7_figure yX7_figure, Cond.initialized RX7, Cond.code yX7_figure cX7_figure 2 (some .int), Cond.fieldLink RX7 13 "FreshSharesModel" "text" "[I", Cond.methodLink RX7 61 yX7_hasShare, Cond.instanceMethod yX7_hasShare, Cond.selects RX7 yX7_hasShare yX7_hasShare, Cond.code yX7_hasShare cX7_hasShare 2 (some .boolean), Cond.methodLink RX7 123 yX7_honest, Cond.instanceMethod yX7_honest, Cond.selects RX7 yX7_honest yX7_honest, Cond.code yX7_honest cX7_honest 6 (some .int), Cond.fieldLink RX7 71 "FreshSharesModel" "signs" "I", Cond.methodLink RX7 64 yX7_told, Cond.instanceMethod yX7_told, Cond.selects RX7 yX7_told yX7_told, Cond.code yX7_told cX7_told 2 (some .int), Cond.methodLink RX7 51 yX7_bentOf, Cond.instanceMethod yX7_bentOf, Cond.selects RX7 yX7_bentOf yX7_bentOf, Cond.code yX7_bentOf cX7_bentOf 3 (some .int)]
def wsX7_rebuild_r2 : List Cond := [Cond.methodLink RX7 32 yX7_bentAt, Cond.static yX7_bentAt, Cond.code yX7_bentAt cX7_bentAt 2 (some .int), Cond.methodLink RX7 54 yX7_mod, Cond.static yX7_mod, Cond.code yX7_mod cX7_mod 2 (some .int), Cond.methodLink RX7 67 yX7_isFit, Cond.instanceMethod yX7_isFit, Cond.selects RX7 yX7_isFit yX7_isFit, Cond.code yX7_isFit cX7_isFit 5 (some .boolean), Cond.methodLink RX7 40 yX7_power, Cond.static yX7_power, Cond.code yX7_power cX7_power 5 (some .int), Cond.methodLink RX7 58 yX7_sealOf, Cond.static yX7_sealOf, Cond.code yX7_sealOf cX7_sealOf 1 (some .int), Cond.methodLink RX7 120 yX7_bits, Cond.static yX7_bits, Cond.code yX7_bits cX7_bits 3 (some .int), Cond.methodLink RX7 126 yX7_firstOf, Cond.static yX7_firstOf, Cond.code yX7_firstOf cX7_firstOf 4 (some .int), Cond.methodLink RX7 88 yX7_has, Cond.static yX7_has]
def wsX7_rebuild_r3 : List Cond := [Cond.code yX7_has cX7_has 2 (some .boolean), Cond.methodLink RX7 129 yX7_together, Cond.instanceMethod yX7_together, Cond.selects RX7 yX7_together yX7_together, Cond.code yX7_together cX7_together 5 (some .int), Cond.methodLink RX7 94 yX7_weight, Cond.static yX7_weight, Cond.code yX7_weight cX7_weight 5 (some .int), Cond.methodLink RX7 91 yX7_inverse, Cond.static yX7_inverse, Cond.code yX7_inverse cX7_inverse 1 (some .int)]
def wsX7_rebuild : List Cond := .code yX7_rebuild cX7_rebuild 3 (some .int) :: ((wsX7_rebuild_r1 ++ (wsX7_rebuild_r2 ++ wsX7_rebuild_r3)) ++ wsX70)
def wsX7_steal : List Cond := .code yX7_steal cX7_steal 3 (some .int) :: ([.fieldLink RX7 7 "FreshSharesModel" "state" "[I", .methodLink RX7 61 yX7_hasShare, .instanceMethod yX7_hasShare, .selects RX7 yX7_hasShare yX7_hasShare, .initialized RX7, .code yX7_hasShare cX7_hasShare 2 (some .boolean)] ++ wsX70)
def wsX7_fresh_r1 : List Cond := [Cond.fieldLink RX7 19 "FreshSharesModel" "added" "[I", Cond.fieldLink RX7 7 "FreshSharesModel" "state" "[I", Cond.fieldLink RX7 97 "FreshSharesModel" "size" "I", Cond.fieldLink RX7 16 "FreshSharesModel" "poly" "[I", Cond.methodLink RX7 61 yX7_hasShare, Cond.instanceMethod yX7_hasShare, Cond.selects RX7 yX7_hasShare yX7_hasShare, Cond.initialized RX7, Cond.code yX7_hasShare cX7_hasShare 2 (some .boolean), Cond.methodLink RX7 106 yX7_layPoly, Cond.instanceMethod yX7_layPoly, Cond.selects RX7 yX7_layPoly yX7_layPoly, Cond.code yX7_layPoly cX7_layPoly 5 none, Cond.methodLink RX7 132 yX7_isStruck, Cond.instanceMethod yX7_isStruck, Cond.selects RX7 yX7_isStruck yX7_isStruck, Cond.code yX7_isStruck cX7_isStruck 8 (some .boolean), Cond.methodLink RX7 100 yX7_polyAt, Cond.instanceMethod yX7_polyAt, Cond.selects RX7 yX7_polyAt yX7_polyAt, Cond.code yX7_polyAt cX7_polyAt 4 (some .int), Cond.methodLink RX7 40 yX7_power, Cond.static yX7_power, Cond.code yX7_power cX7_power 5 (some .int)]
def wsX7_fresh_r2 : List Cond := [Cond.methodLink RX7 51 yX7_bentOf, Cond.instanceMethod yX7_bentOf, Cond.selects RX7 yX7_bentOf yX7_bentOf, Cond.code yX7_bentOf cX7_bentOf 3 (some .int), Cond.methodLink RX7 32 yX7_bentAt, Cond.static yX7_bentAt, Cond.code yX7_bentAt cX7_bentAt 2 (some .int), Cond.methodLink RX7 54 yX7_mod, Cond.static yX7_mod, Cond.code yX7_mod cX7_mod 2 (some .int), Cond.methodLink RX7 103 yX7_fitsPoly, Cond.instanceMethod yX7_fitsPoly, Cond.selects RX7 yX7_fitsPoly yX7_fitsPoly, Cond.code yX7_fitsPoly cX7_fitsPoly 5 (some .boolean), Cond.methodLink RX7 58 yX7_sealOf, Cond.static yX7_sealOf, Cond.code yX7_sealOf cX7_sealOf 1 (some .int), Cond.methodLink RX7 114 yX7_nextEpoch, Cond.instanceMethod yX7_nextEpoch, Cond.selects RX7 yX7_nextEpoch yX7_nextEpoch, Cond.code yX7_nextEpoch cX7_nextEpoch 1 none, Cond.methodLink RX7 135 yX7_strike, Cond.instanceMethod yX7_strike, Cond.selects RX7 yX7_strike yX7_strike]
def wsX7_fresh_r3 : List Cond := [Cond.code yX7_strike cX7_strike 2 none, Cond.methodLink RX7 88 yX7_has, Cond.static yX7_has, Cond.code yX7_has cX7_has 2 (some .boolean), Cond.methodLink RX7 117 yX7_having, Cond.instanceMethod yX7_having, Cond.selects RX7 yX7_having yX7_having, Cond.code yX7_having cX7_having 3 (some .int), Cond.methodLink RX7 120 yX7_bits, Cond.static yX7_bits, Cond.code yX7_bits cX7_bits 3 (some .int)]
def wsX7_fresh : List Cond := .code yX7_fresh cX7_fresh 3 (some .int) :: ((wsX7_fresh_r1 ++ (wsX7_fresh_r2 ++ wsX7_fresh_r3)) ++ wsX70)
def wsX7_takenFor_r1 : List Cond := [Cond.fieldLink RX7 71 "FreshSharesModel" "signs" "I", Cond.fieldLink RX7 7 "FreshSharesModel" "state" "[I", Cond.methodLink RX7 120 yX7_bits, Cond.static yX7_bits, Cond.initialized RX7, Cond.code yX7_bits cX7_bits 3 (some .int), Cond.methodLink RX7 75 yX7_figure, Cond.instanceMethod yX7_figure, Cond.selects RX7 yX7_figure yX7_figure, Cond.code yX7_figure cX7_figure 2 (some .int), Cond.fieldLink RX7 13 "FreshSharesModel" "text" "[I", Cond.methodLink RX7 61 yX7_hasShare, Cond.instanceMethod yX7_hasShare, Cond.selects RX7 yX7_hasShare yX7_hasShare, Cond.code yX7_hasShare cX7_hasShare 2 (some .boolean), Cond.methodLink RX7 64 yX7_told, Cond.instanceMethod yX7_told, Cond.selects RX7 yX7_told yX7_told, Cond.code yX7_told cX7_told 2 (some .int), Cond.methodLink RX7 51 yX7_bentOf, Cond.instanceMethod yX7_bentOf, Cond.selects RX7 yX7_bentOf yX7_bentOf, Cond.code yX7_bentOf cX7_bentOf 3 (some .int), Cond.methodLink RX7 32 yX7_bentAt]
def wsX7_takenFor_r2 : List Cond := [Cond.static yX7_bentAt, Cond.code yX7_bentAt cX7_bentAt 2 (some .int), Cond.methodLink RX7 54 yX7_mod, Cond.static yX7_mod, Cond.code yX7_mod cX7_mod 2 (some .int), Cond.methodLink RX7 67 yX7_isFit, Cond.instanceMethod yX7_isFit, Cond.selects RX7 yX7_isFit yX7_isFit, Cond.code yX7_isFit cX7_isFit 5 (some .boolean), Cond.methodLink RX7 40 yX7_power, Cond.static yX7_power, Cond.code yX7_power cX7_power 5 (some .int), Cond.methodLink RX7 58 yX7_sealOf, Cond.static yX7_sealOf, Cond.code yX7_sealOf cX7_sealOf 1 (some .int), Cond.methodLink RX7 106 yX7_layPoly, Cond.instanceMethod yX7_layPoly, Cond.selects RX7 yX7_layPoly yX7_layPoly, Cond.code yX7_layPoly cX7_layPoly 5 none, Cond.fieldLink RX7 97 "FreshSharesModel" "size" "I", Cond.fieldLink RX7 16 "FreshSharesModel" "poly" "[I", Cond.methodLink RX7 132 yX7_isStruck, Cond.instanceMethod yX7_isStruck, Cond.selects RX7 yX7_isStruck yX7_isStruck]
def wsX7_takenFor_r3 : List Cond := [Cond.code yX7_isStruck cX7_isStruck 8 (some .boolean), Cond.methodLink RX7 100 yX7_polyAt, Cond.instanceMethod yX7_polyAt, Cond.selects RX7 yX7_polyAt yX7_polyAt, Cond.code yX7_polyAt cX7_polyAt 4 (some .int), Cond.methodLink RX7 103 yX7_fitsPoly, Cond.instanceMethod yX7_fitsPoly, Cond.selects RX7 yX7_fitsPoly yX7_fitsPoly, Cond.code yX7_fitsPoly cX7_fitsPoly 5 (some .boolean)]
def wsX7_takenFor : List Cond := .code yX7_takenFor cX7_takenFor 5 (some .int) :: ((wsX7_takenFor_r1 ++ (wsX7_takenFor_r2 ++ wsX7_takenFor_r3)) ++ wsX70)
def wsX7_move_r1 : List Cond := [Cond.fieldLink RX7 7 "FreshSharesModel" "state" "[I", Cond.fieldLink RX7 19 "FreshSharesModel" "added" "[I", Cond.fieldLink RX7 22 "FreshSharesModel" "sealed" "[I", Cond.fieldLink RX7 16 "FreshSharesModel" "poly" "[I", Cond.methodLink RX7 138 yX7_takenFor, Cond.instanceMethod yX7_takenFor, Cond.selects RX7 yX7_takenFor yX7_takenFor, Cond.initialized RX7, Cond.code yX7_takenFor cX7_takenFor 5 (some .int), Cond.fieldLink RX7 71 "FreshSharesModel" "signs" "I", Cond.methodLink RX7 120 yX7_bits, Cond.static yX7_bits, Cond.code yX7_bits cX7_bits 3 (some .int), Cond.methodLink RX7 75 yX7_figure, Cond.instanceMethod yX7_figure, Cond.selects RX7 yX7_figure yX7_figure, Cond.code yX7_figure cX7_figure 2 (some .int), Cond.fieldLink RX7 13 "FreshSharesModel" "text" "[I", Cond.methodLink RX7 61 yX7_hasShare, Cond.instanceMethod yX7_hasShare, Cond.selects RX7 yX7_hasShare yX7_hasShare, Cond.code yX7_hasShare cX7_hasShare 2 (some .boolean), Cond.methodLink RX7 64 yX7_told, Cond.instanceMethod yX7_told]
def wsX7_move_r2 : List Cond := [Cond.selects RX7 yX7_told yX7_told, Cond.code yX7_told cX7_told 2 (some .int), Cond.methodLink RX7 51 yX7_bentOf, Cond.instanceMethod yX7_bentOf, Cond.selects RX7 yX7_bentOf yX7_bentOf, Cond.code yX7_bentOf cX7_bentOf 3 (some .int), Cond.methodLink RX7 32 yX7_bentAt, Cond.static yX7_bentAt, Cond.code yX7_bentAt cX7_bentAt 2 (some .int), Cond.methodLink RX7 54 yX7_mod, Cond.static yX7_mod, Cond.code yX7_mod cX7_mod 2 (some .int), Cond.methodLink RX7 67 yX7_isFit, Cond.instanceMethod yX7_isFit, Cond.selects RX7 yX7_isFit yX7_isFit, Cond.code yX7_isFit cX7_isFit 5 (some .boolean), Cond.methodLink RX7 40 yX7_power, Cond.static yX7_power, Cond.code yX7_power cX7_power 5 (some .int), Cond.methodLink RX7 58 yX7_sealOf, Cond.static yX7_sealOf, Cond.code yX7_sealOf cX7_sealOf 1 (some .int), Cond.methodLink RX7 106 yX7_layPoly, Cond.instanceMethod yX7_layPoly]
def wsX7_move_r3 : List Cond := [Cond.selects RX7 yX7_layPoly yX7_layPoly, Cond.code yX7_layPoly cX7_layPoly 5 none, Cond.fieldLink RX7 97 "FreshSharesModel" "size" "I", Cond.methodLink RX7 132 yX7_isStruck, Cond.instanceMethod yX7_isStruck, Cond.selects RX7 yX7_isStruck yX7_isStruck, Cond.code yX7_isStruck cX7_isStruck 8 (some .boolean), Cond.methodLink RX7 100 yX7_polyAt, Cond.instanceMethod yX7_polyAt, Cond.selects RX7 yX7_polyAt yX7_polyAt, Cond.code yX7_polyAt cX7_polyAt 4 (some .int), Cond.methodLink RX7 103 yX7_fitsPoly, Cond.instanceMethod yX7_fitsPoly, Cond.selects RX7 yX7_fitsPoly yX7_fitsPoly, Cond.code yX7_fitsPoly cX7_fitsPoly 5 (some .boolean), Cond.methodLink RX7 88 yX7_has, Cond.static yX7_has, Cond.code yX7_has cX7_has 2 (some .boolean), Cond.methodLink RX7 94 yX7_weight, Cond.static yX7_weight, Cond.code yX7_weight cX7_weight 5 (some .int), Cond.methodLink RX7 91 yX7_inverse, Cond.static yX7_inverse, Cond.code yX7_inverse cX7_inverse 1 (some .int)]
def wsX7_move_r4 : List Cond := [Cond.methodLink RX7 114 yX7_nextEpoch, Cond.instanceMethod yX7_nextEpoch, Cond.selects RX7 yX7_nextEpoch yX7_nextEpoch, Cond.code yX7_nextEpoch cX7_nextEpoch 1 none, Cond.methodLink RX7 135 yX7_strike, Cond.instanceMethod yX7_strike, Cond.selects RX7 yX7_strike yX7_strike, Cond.code yX7_strike cX7_strike 2 none, Cond.methodLink RX7 117 yX7_having, Cond.instanceMethod yX7_having, Cond.selects RX7 yX7_having yX7_having, Cond.code yX7_having cX7_having 3 (some .int)]
def wsX7_move : List Cond := .code yX7_move cX7_move 6 (some .int) :: ((wsX7_move_r1 ++ (wsX7_move_r2 ++ (wsX7_move_r3 ++ wsX7_move_r4))) ++ wsX70)
def wsX7_done_r1 : List Cond := [Cond.methodLink RX7 75 yX7_figure, Cond.instanceMethod yX7_figure, Cond.selects RX7 yX7_figure yX7_figure, Cond.initialized RX7, Cond.code yX7_figure cX7_figure 2 (some .int), Cond.fieldLink RX7 13 "FreshSharesModel" "text" "[I", Cond.methodLink RX7 141 yX7_deal, Cond.instanceMethod yX7_deal, Cond.selects RX7 yX7_deal yX7_deal, Cond.code yX7_deal cX7_deal 3 (some .int), Cond.fieldLink RX7 7 "FreshSharesModel" "state" "[I", Cond.fieldLink RX7 16 "FreshSharesModel" "poly" "[I", Cond.methodLink RX7 106 yX7_layPoly, Cond.instanceMethod yX7_layPoly, Cond.selects RX7 yX7_layPoly yX7_layPoly, Cond.code yX7_layPoly cX7_layPoly 5 none, Cond.fieldLink RX7 97 "FreshSharesModel" "size" "I", Cond.methodLink RX7 58 yX7_sealOf, Cond.static yX7_sealOf, Cond.code yX7_sealOf cX7_sealOf 1 (some .int), Cond.methodLink RX7 40 yX7_power, Cond.static yX7_power, Cond.code yX7_power cX7_power 5 (some .int), Cond.methodLink RX7 100 yX7_polyAt]
def wsX7_done_r2 : List Cond := [Cond.instanceMethod yX7_polyAt, Cond.selects RX7 yX7_polyAt yX7_polyAt, Cond.code yX7_polyAt cX7_polyAt 4 (some .int), Cond.methodLink RX7 110 yX7_isDealt, Cond.instanceMethod yX7_isDealt, Cond.selects RX7 yX7_isDealt yX7_isDealt, Cond.code yX7_isDealt cX7_isDealt 1 (some .boolean), Cond.methodLink RX7 114 yX7_nextEpoch, Cond.instanceMethod yX7_nextEpoch, Cond.selects RX7 yX7_nextEpoch yX7_nextEpoch, Cond.code yX7_nextEpoch cX7_nextEpoch 1 none, Cond.methodLink RX7 144 yX7_forget, Cond.instanceMethod yX7_forget, Cond.selects RX7 yX7_forget yX7_forget, Cond.code yX7_forget cX7_forget 2 (some .int), Cond.methodLink RX7 117 yX7_having, Cond.instanceMethod yX7_having, Cond.selects RX7 yX7_having yX7_having, Cond.code yX7_having cX7_having 3 (some .int), Cond.methodLink RX7 61 yX7_hasShare, Cond.instanceMethod yX7_hasShare, Cond.selects RX7 yX7_hasShare yX7_hasShare, Cond.code yX7_hasShare cX7_hasShare 2 (some .boolean), Cond.methodLink RX7 120 yX7_bits]
def wsX7_done_r3 : List Cond := [Cond.static yX7_bits, Cond.code yX7_bits cX7_bits 3 (some .int), Cond.methodLink RX7 147 yX7_open, Cond.instanceMethod yX7_open, Cond.selects RX7 yX7_open yX7_open, Cond.code yX7_open cX7_open 2 (some .int), Cond.methodLink RX7 123 yX7_honest, Cond.instanceMethod yX7_honest, Cond.selects RX7 yX7_honest yX7_honest, Cond.code yX7_honest cX7_honest 6 (some .int), Cond.fieldLink RX7 71 "FreshSharesModel" "signs" "I", Cond.methodLink RX7 64 yX7_told, Cond.instanceMethod yX7_told, Cond.selects RX7 yX7_told yX7_told, Cond.code yX7_told cX7_told 2 (some .int), Cond.methodLink RX7 51 yX7_bentOf, Cond.instanceMethod yX7_bentOf, Cond.selects RX7 yX7_bentOf yX7_bentOf, Cond.code yX7_bentOf cX7_bentOf 3 (some .int), Cond.methodLink RX7 32 yX7_bentAt, Cond.static yX7_bentAt, Cond.code yX7_bentAt cX7_bentAt 2 (some .int), Cond.methodLink RX7 54 yX7_mod, Cond.static yX7_mod]
def wsX7_done_r4 : List Cond := [Cond.code yX7_mod cX7_mod 2 (some .int), Cond.methodLink RX7 67 yX7_isFit, Cond.instanceMethod yX7_isFit, Cond.selects RX7 yX7_isFit yX7_isFit, Cond.code yX7_isFit cX7_isFit 5 (some .boolean), Cond.methodLink RX7 126 yX7_firstOf, Cond.static yX7_firstOf, Cond.code yX7_firstOf cX7_firstOf 4 (some .int), Cond.methodLink RX7 88 yX7_has, Cond.static yX7_has, Cond.code yX7_has cX7_has 2 (some .boolean), Cond.methodLink RX7 129 yX7_together, Cond.instanceMethod yX7_together, Cond.selects RX7 yX7_together yX7_together, Cond.code yX7_together cX7_together 5 (some .int), Cond.methodLink RX7 94 yX7_weight, Cond.static yX7_weight, Cond.code yX7_weight cX7_weight 5 (some .int), Cond.methodLink RX7 91 yX7_inverse, Cond.static yX7_inverse, Cond.code yX7_inverse cX7_inverse 1 (some .int), Cond.methodLink RX7 150 yX7_rebuild, Cond.instanceMethod yX7_rebuild, Cond.selects RX7 yX7_rebuild yX7_rebuild]
def wsX7_done_r5 : List Cond := [Cond.code yX7_rebuild cX7_rebuild 3 (some .int), Cond.methodLink RX7 153 yX7_steal, Cond.instanceMethod yX7_steal, Cond.selects RX7 yX7_steal yX7_steal, Cond.code yX7_steal cX7_steal 3 (some .int), Cond.methodLink RX7 156 yX7_fresh, Cond.instanceMethod yX7_fresh, Cond.selects RX7 yX7_fresh yX7_fresh, Cond.code yX7_fresh cX7_fresh 3 (some .int), Cond.fieldLink RX7 19 "FreshSharesModel" "added" "[I", Cond.methodLink RX7 132 yX7_isStruck, Cond.instanceMethod yX7_isStruck, Cond.selects RX7 yX7_isStruck yX7_isStruck, Cond.code yX7_isStruck cX7_isStruck 8 (some .boolean), Cond.methodLink RX7 103 yX7_fitsPoly, Cond.instanceMethod yX7_fitsPoly, Cond.selects RX7 yX7_fitsPoly yX7_fitsPoly, Cond.code yX7_fitsPoly cX7_fitsPoly 5 (some .boolean), Cond.methodLink RX7 135 yX7_strike, Cond.instanceMethod yX7_strike, Cond.selects RX7 yX7_strike yX7_strike, Cond.code yX7_strike cX7_strike 2 none, Cond.methodLink RX7 159 yX7_move, Cond.instanceMethod yX7_move]
def wsX7_done_r6 : List Cond := [Cond.selects RX7 yX7_move yX7_move, Cond.code yX7_move cX7_move 6 (some .int), Cond.fieldLink RX7 22 "FreshSharesModel" "sealed" "[I", Cond.methodLink RX7 138 yX7_takenFor, Cond.instanceMethod yX7_takenFor, Cond.selects RX7 yX7_takenFor yX7_takenFor, Cond.code yX7_takenFor cX7_takenFor 5 (some .int)]
def wsX7_done : List Cond := .code yX7_done cX7_done 2 (some .int) :: ((wsX7_done_r1 ++ (wsX7_done_r2 ++ (wsX7_done_r3 ++ (wsX7_done_r4 ++ (wsX7_done_r5 ++ wsX7_done_r6))))) ++ wsX70)
def wsX7_act_r1 : List Cond := [Cond.fieldLink RX7 13 "FreshSharesModel" "text" "[I", Cond.fieldLink RX7 7 "FreshSharesModel" "state" "[I", Cond.fieldLink RX7 71 "FreshSharesModel" "signs" "I", Cond.methodLink RX7 84 yX7_faultNow, Cond.instanceMethod yX7_faultNow, Cond.selects RX7 yX7_faultNow yX7_faultNow, Cond.initialized RX7, Cond.code yX7_faultNow cX7_faultNow 2 (some .int), Cond.methodLink RX7 78 yX7_leastOf, Cond.static yX7_leastOf, Cond.code yX7_leastOf cX7_leastOf 1 (some .int), Cond.methodLink RX7 81 yX7_canStand, Cond.instanceMethod yX7_canStand, Cond.selects RX7 yX7_canStand yX7_canStand, Cond.code yX7_canStand cX7_canStand 3 (some .boolean), Cond.methodLink RX7 75 yX7_figure, Cond.instanceMethod yX7_figure, Cond.selects RX7 yX7_figure yX7_figure, Cond.code yX7_figure cX7_figure 2 (some .int), Cond.methodLink RX7 36 yX7_in, Cond.static yX7_in, Cond.code yX7_in cX7_in 3 (some .boolean), Cond.methodLink RX7 48 yX7_isMember, Cond.static yX7_isMember]
def wsX7_act_r2 : List Cond := [Cond.code yX7_isMember cX7_isMember 1 (some .boolean), Cond.methodLink RX7 110 yX7_isDealt, Cond.instanceMethod yX7_isDealt, Cond.selects RX7 yX7_isDealt yX7_isDealt, Cond.code yX7_isDealt cX7_isDealt 1 (some .boolean), Cond.methodLink RX7 162 yX7_done, Cond.instanceMethod yX7_done, Cond.selects RX7 yX7_done yX7_done, Cond.code yX7_done cX7_done 2 (some .int), Cond.methodLink RX7 141 yX7_deal, Cond.instanceMethod yX7_deal, Cond.selects RX7 yX7_deal yX7_deal, Cond.code yX7_deal cX7_deal 3 (some .int), Cond.fieldLink RX7 16 "FreshSharesModel" "poly" "[I", Cond.methodLink RX7 106 yX7_layPoly, Cond.instanceMethod yX7_layPoly, Cond.selects RX7 yX7_layPoly yX7_layPoly, Cond.code yX7_layPoly cX7_layPoly 5 none, Cond.fieldLink RX7 97 "FreshSharesModel" "size" "I", Cond.methodLink RX7 58 yX7_sealOf, Cond.static yX7_sealOf, Cond.code yX7_sealOf cX7_sealOf 1 (some .int), Cond.methodLink RX7 40 yX7_power, Cond.static yX7_power]
def wsX7_act_r3 : List Cond := [Cond.code yX7_power cX7_power 5 (some .int), Cond.methodLink RX7 100 yX7_polyAt, Cond.instanceMethod yX7_polyAt, Cond.selects RX7 yX7_polyAt yX7_polyAt, Cond.code yX7_polyAt cX7_polyAt 4 (some .int), Cond.methodLink RX7 114 yX7_nextEpoch, Cond.instanceMethod yX7_nextEpoch, Cond.selects RX7 yX7_nextEpoch yX7_nextEpoch, Cond.code yX7_nextEpoch cX7_nextEpoch 1 none, Cond.methodLink RX7 144 yX7_forget, Cond.instanceMethod yX7_forget, Cond.selects RX7 yX7_forget yX7_forget, Cond.code yX7_forget cX7_forget 2 (some .int), Cond.methodLink RX7 117 yX7_having, Cond.instanceMethod yX7_having, Cond.selects RX7 yX7_having yX7_having, Cond.code yX7_having cX7_having 3 (some .int), Cond.methodLink RX7 61 yX7_hasShare, Cond.instanceMethod yX7_hasShare, Cond.selects RX7 yX7_hasShare yX7_hasShare, Cond.code yX7_hasShare cX7_hasShare 2 (some .boolean), Cond.methodLink RX7 120 yX7_bits, Cond.static yX7_bits, Cond.code yX7_bits cX7_bits 3 (some .int)]
def wsX7_act_r4 : List Cond := [Cond.methodLink RX7 147 yX7_open, Cond.instanceMethod yX7_open, Cond.selects RX7 yX7_open yX7_open, Cond.code yX7_open cX7_open 2 (some .int), Cond.methodLink RX7 123 yX7_honest, Cond.instanceMethod yX7_honest, Cond.selects RX7 yX7_honest yX7_honest, Cond.code yX7_honest cX7_honest 6 (some .int), Cond.methodLink RX7 64 yX7_told, Cond.instanceMethod yX7_told, Cond.selects RX7 yX7_told yX7_told, Cond.code yX7_told cX7_told 2 (some .int), Cond.methodLink RX7 51 yX7_bentOf, Cond.instanceMethod yX7_bentOf, Cond.selects RX7 yX7_bentOf yX7_bentOf, Cond.code yX7_bentOf cX7_bentOf 3 (some .int), Cond.methodLink RX7 32 yX7_bentAt, Cond.static yX7_bentAt, Cond.code yX7_bentAt cX7_bentAt 2 (some .int), Cond.methodLink RX7 54 yX7_mod, Cond.static yX7_mod, Cond.code yX7_mod cX7_mod 2 (some .int), Cond.methodLink RX7 67 yX7_isFit, Cond.instanceMethod yX7_isFit]
def wsX7_act_r5 : List Cond := [Cond.selects RX7 yX7_isFit yX7_isFit, Cond.code yX7_isFit cX7_isFit 5 (some .boolean), Cond.methodLink RX7 126 yX7_firstOf, Cond.static yX7_firstOf, Cond.code yX7_firstOf cX7_firstOf 4 (some .int), Cond.methodLink RX7 88 yX7_has, Cond.static yX7_has, Cond.code yX7_has cX7_has 2 (some .boolean), Cond.methodLink RX7 129 yX7_together, Cond.instanceMethod yX7_together, Cond.selects RX7 yX7_together yX7_together, Cond.code yX7_together cX7_together 5 (some .int), Cond.methodLink RX7 94 yX7_weight, Cond.static yX7_weight, Cond.code yX7_weight cX7_weight 5 (some .int), Cond.methodLink RX7 91 yX7_inverse, Cond.static yX7_inverse, Cond.code yX7_inverse cX7_inverse 1 (some .int), Cond.methodLink RX7 150 yX7_rebuild, Cond.instanceMethod yX7_rebuild, Cond.selects RX7 yX7_rebuild yX7_rebuild, Cond.code yX7_rebuild cX7_rebuild 3 (some .int), Cond.methodLink RX7 153 yX7_steal, Cond.instanceMethod yX7_steal]
def wsX7_act_r6 : List Cond := [Cond.selects RX7 yX7_steal yX7_steal, Cond.code yX7_steal cX7_steal 3 (some .int), Cond.methodLink RX7 156 yX7_fresh, Cond.instanceMethod yX7_fresh, Cond.selects RX7 yX7_fresh yX7_fresh, Cond.code yX7_fresh cX7_fresh 3 (some .int), Cond.fieldLink RX7 19 "FreshSharesModel" "added" "[I", Cond.methodLink RX7 132 yX7_isStruck, Cond.instanceMethod yX7_isStruck, Cond.selects RX7 yX7_isStruck yX7_isStruck, Cond.code yX7_isStruck cX7_isStruck 8 (some .boolean), Cond.methodLink RX7 103 yX7_fitsPoly, Cond.instanceMethod yX7_fitsPoly, Cond.selects RX7 yX7_fitsPoly yX7_fitsPoly, Cond.code yX7_fitsPoly cX7_fitsPoly 5 (some .boolean), Cond.methodLink RX7 135 yX7_strike, Cond.instanceMethod yX7_strike, Cond.selects RX7 yX7_strike yX7_strike, Cond.code yX7_strike cX7_strike 2 none, Cond.methodLink RX7 159 yX7_move, Cond.instanceMethod yX7_move, Cond.selects RX7 yX7_move yX7_move, Cond.code yX7_move cX7_move 6 (some .int), Cond.fieldLink RX7 22 "FreshSharesModel" "sealed" "[I"]
def wsX7_act_r7 : List Cond := [Cond.methodLink RX7 138 yX7_takenFor, Cond.instanceMethod yX7_takenFor, Cond.selects RX7 yX7_takenFor yX7_takenFor, Cond.code yX7_takenFor cX7_takenFor 5 (some .int)]
def wsX7_act : List Cond := .code yX7_act cX7_act 4 (some .int) :: ((wsX7_act_r1 ++ (wsX7_act_r2 ++ (wsX7_act_r3 ++ (wsX7_act_r4 ++ (wsX7_act_r5 ++ (wsX7_act_r6 ++ wsX7_act_r7)))))) ++ wsX70)
def wsX7_named : List Cond := .code yX7_named cX7_named 2 (some .int) :: ([.fieldLink RX7 7 "FreshSharesModel" "state" "[I"] ++ wsX70)
def wsX7_fits : List Cond := .code yX7_fits cX7_fits 3 (some .int) :: ([.methodLink RX7 44 yX7_isValue, .static yX7_isValue, .initialized RX7, .code yX7_isValue cX7_isValue 1 (some .boolean), .methodLink RX7 36 yX7_in, .static yX7_in, .code yX7_in cX7_in 3 (some .boolean), .methodLink RX7 110 yX7_isDealt, .instanceMethod yX7_isDealt, .selects RX7 yX7_isDealt yX7_isDealt, .code yX7_isDealt cX7_isDealt 1 (some .boolean), .fieldLink RX7 7 "FreshSharesModel" "state" "[I", .methodLink RX7 67 yX7_isFit, .instanceMethod yX7_isFit, .selects RX7 yX7_isFit yX7_isFit, .code yX7_isFit cX7_isFit 5 (some .boolean), .methodLink RX7 40 yX7_power, .static yX7_power, .code yX7_power cX7_power 5 (some .int), .methodLink RX7 58 yX7_sealOf, .static yX7_sealOf, .code yX7_sealOf cX7_sealOf 1 (some .int)] ++ wsX70)
def wsX7_seal : List Cond := .code yX7_seal cX7_seal 2 (some .int) :: ([.fieldLink RX7 7 "FreshSharesModel" "state" "[I", .methodLink RX7 110 yX7_isDealt, .instanceMethod yX7_isDealt, .selects RX7 yX7_isDealt yX7_isDealt, .initialized RX7, .code yX7_isDealt cX7_isDealt 1 (some .boolean), .methodLink RX7 36 yX7_in, .static yX7_in, .code yX7_in cX7_in 3 (some .boolean)] ++ wsX70)
def wsX7_loot : List Cond := .code yX7_loot cX7_loot 3 (some .int) :: ([.fieldLink RX7 7 "FreshSharesModel" "state" "[I", .methodLink RX7 36 yX7_in, .static yX7_in, .initialized RX7, .code yX7_in cX7_in 3 (some .boolean)] ++ wsX70)
def wsX7_lootOf : List Cond := .code yX7_lootOf cX7_lootOf 3 (some .int) :: ([.fieldLink RX7 7 "FreshSharesModel" "state" "[I"] ++ wsX70)
def wsX7_isWorld : List Cond := .code yX7_isWorld cX7_isWorld 3 (some .boolean) :: ([.fieldLink RX7 7 "FreshSharesModel" "state" "[I", .methodLink RX7 165 yX7_lootOf, .instanceMethod yX7_lootOf, .selects RX7 yX7_lootOf yX7_lootOf, .initialized RX7, .code yX7_lootOf cX7_lootOf 3 (some .int), .methodLink RX7 100 yX7_polyAt, .instanceMethod yX7_polyAt, .selects RX7 yX7_polyAt yX7_polyAt, .code yX7_polyAt cX7_polyAt 4 (some .int), .fieldLink RX7 97 "FreshSharesModel" "size" "I", .fieldLink RX7 16 "FreshSharesModel" "poly" "[I", .methodLink RX7 40 yX7_power, .static yX7_power, .code yX7_power cX7_power 5 (some .int)] ++ wsX70)
def wsX7_isEpoch : List Cond := .code yX7_isEpoch cX7_isEpoch 2 (some .boolean) :: ([.fieldLink RX7 7 "FreshSharesModel" "state" "[I", .methodLink RX7 36 yX7_in, .static yX7_in, .initialized RX7, .code yX7_in cX7_in 3 (some .boolean)] ++ wsX70)
def wsX7_worlds_r1 : List Cond := [Cond.fieldLink RX7 7 "FreshSharesModel" "state" "[I", Cond.fieldLink RX7 97 "FreshSharesModel" "size" "I", Cond.fieldLink RX7 16 "FreshSharesModel" "poly" "[I", Cond.methodLink RX7 44 yX7_isValue, Cond.static yX7_isValue, Cond.initialized RX7, Cond.code yX7_isValue cX7_isValue 1 (some .boolean), Cond.methodLink RX7 36 yX7_in, Cond.static yX7_in, Cond.code yX7_in cX7_in 3 (some .boolean), Cond.methodLink RX7 168 yX7_isEpoch, Cond.instanceMethod yX7_isEpoch, Cond.selects RX7 yX7_isEpoch yX7_isEpoch, Cond.code yX7_isEpoch cX7_isEpoch 2 (some .boolean), Cond.methodLink RX7 171 yX7_isWorld, Cond.instanceMethod yX7_isWorld, Cond.selects RX7 yX7_isWorld yX7_isWorld, Cond.code yX7_isWorld cX7_isWorld 3 (some .boolean), Cond.methodLink RX7 165 yX7_lootOf, Cond.instanceMethod yX7_lootOf, Cond.selects RX7 yX7_lootOf yX7_lootOf, Cond.code yX7_lootOf cX7_lootOf 3 (some .int), Cond.methodLink RX7 100 yX7_polyAt, Cond.instanceMethod yX7_polyAt]
def wsX7_worlds_r2 : List Cond := [Cond.selects RX7 yX7_polyAt yX7_polyAt, Cond.code yX7_polyAt cX7_polyAt 4 (some .int), Cond.methodLink RX7 40 yX7_power, Cond.static yX7_power, Cond.code yX7_power cX7_power 5 (some .int)]
def wsX7_worlds : List Cond := .code yX7_worlds cX7_worlds 8 (some .int) :: ((wsX7_worlds_r1 ++ wsX7_worlds_r2) ++ wsX70)
def wsX7_lootFrom : List Cond := .code yX7_lootFrom cX7_lootFrom 4 (some .int) :: ([.fieldLink RX7 7 "FreshSharesModel" "state" "[I", .methodLink RX7 165 yX7_lootOf, .instanceMethod yX7_lootOf, .selects RX7 yX7_lootOf yX7_lootOf, .initialized RX7, .code yX7_lootOf cX7_lootOf 3 (some .int)] ++ wsX70)
def wsX7_robbed : List Cond := .code yX7_robbed cX7_robbed 4 (some .int) :: ([.methodLink RX7 174 yX7_lootFrom, .instanceMethod yX7_lootFrom, .selects RX7 yX7_lootFrom yX7_lootFrom, .initialized RX7, .code yX7_lootFrom cX7_lootFrom 4 (some .int), .fieldLink RX7 7 "FreshSharesModel" "state" "[I", .methodLink RX7 165 yX7_lootOf, .instanceMethod yX7_lootOf, .selects RX7 yX7_lootOf yX7_lootOf, .code yX7_lootOf cX7_lootOf 3 (some .int)] ++ wsX70)
def wsX7_opened_r1 : List Cond := [Cond.methodLink RX7 88 yX7_has, Cond.static yX7_has, Cond.initialized RX7, Cond.code yX7_has cX7_has 2 (some .boolean), Cond.methodLink RX7 174 yX7_lootFrom, Cond.instanceMethod yX7_lootFrom, Cond.selects RX7 yX7_lootFrom yX7_lootFrom, Cond.code yX7_lootFrom cX7_lootFrom 4 (some .int), Cond.fieldLink RX7 7 "FreshSharesModel" "state" "[I", Cond.methodLink RX7 165 yX7_lootOf, Cond.instanceMethod yX7_lootOf, Cond.selects RX7 yX7_lootOf yX7_lootOf, Cond.code yX7_lootOf cX7_lootOf 3 (some .int), Cond.methodLink RX7 94 yX7_weight, Cond.static yX7_weight, Cond.code yX7_weight cX7_weight 5 (some .int), Cond.methodLink RX7 54 yX7_mod, Cond.static yX7_mod, Cond.code yX7_mod cX7_mod 2 (some .int), Cond.methodLink RX7 91 yX7_inverse, Cond.static yX7_inverse, Cond.code yX7_inverse cX7_inverse 1 (some .int), Cond.methodLink RX7 40 yX7_power, Cond.static yX7_power]
def wsX7_opened_r2 : List Cond := [Cond.code yX7_power cX7_power 5 (some .int)]
def wsX7_opened : List Cond := .code yX7_opened cX7_opened 5 (some .int) :: ((wsX7_opened_r1 ++ wsX7_opened_r2) ++ wsX70)
def wsX7_thief_r1 : List Cond := [Cond.fieldLink RX7 7 "FreshSharesModel" "state" "[I", Cond.methodLink RX7 36 yX7_in, Cond.static yX7_in, Cond.initialized RX7, Cond.code yX7_in cX7_in 3 (some .boolean), Cond.methodLink RX7 110 yX7_isDealt, Cond.instanceMethod yX7_isDealt, Cond.selects RX7 yX7_isDealt yX7_isDealt, Cond.code yX7_isDealt cX7_isDealt 1 (some .boolean), Cond.methodLink RX7 177 yX7_robbed, Cond.instanceMethod yX7_robbed, Cond.selects RX7 yX7_robbed yX7_robbed, Cond.code yX7_robbed cX7_robbed 4 (some .int), Cond.methodLink RX7 174 yX7_lootFrom, Cond.instanceMethod yX7_lootFrom, Cond.selects RX7 yX7_lootFrom yX7_lootFrom, Cond.code yX7_lootFrom cX7_lootFrom 4 (some .int), Cond.methodLink RX7 165 yX7_lootOf, Cond.instanceMethod yX7_lootOf, Cond.selects RX7 yX7_lootOf yX7_lootOf, Cond.code yX7_lootOf cX7_lootOf 3 (some .int), Cond.methodLink RX7 120 yX7_bits, Cond.static yX7_bits, Cond.code yX7_bits cX7_bits 3 (some .int)]
def wsX7_thief_r2 : List Cond := [Cond.methodLink RX7 126 yX7_firstOf, Cond.static yX7_firstOf, Cond.code yX7_firstOf cX7_firstOf 4 (some .int), Cond.methodLink RX7 88 yX7_has, Cond.static yX7_has, Cond.code yX7_has cX7_has 2 (some .boolean), Cond.methodLink RX7 180 yX7_opened, Cond.instanceMethod yX7_opened, Cond.selects RX7 yX7_opened yX7_opened, Cond.code yX7_opened cX7_opened 5 (some .int), Cond.methodLink RX7 94 yX7_weight, Cond.static yX7_weight, Cond.code yX7_weight cX7_weight 5 (some .int), Cond.methodLink RX7 54 yX7_mod, Cond.static yX7_mod, Cond.code yX7_mod cX7_mod 2 (some .int), Cond.methodLink RX7 91 yX7_inverse, Cond.static yX7_inverse, Cond.code yX7_inverse cX7_inverse 1 (some .int), Cond.methodLink RX7 40 yX7_power, Cond.static yX7_power, Cond.code yX7_power cX7_power 5 (some .int)]
def wsX7_thief : List Cond := .code yX7_thief cX7_thief 4 (some .int) :: ((wsX7_thief_r1 ++ wsX7_thief_r2) ++ wsX70)
def wsX7_image : List Cond := .code yX7_image cX7_image 3 (some .int) :: ([.fieldLink RX7 25 "FreshSharesModel" "images" "[I", .fieldLink RX7 7 "FreshSharesModel" "state" "[I", .fieldLink RX7 28 "FreshSharesModel" "isKept" "[Z", .methodLink RX7 36 yX7_in, .static yX7_in, .initialized RX7, .code yX7_in cX7_in 3 (some .boolean)] ++ wsX70)
def wsX7_restore : List Cond := .code yX7_restore cX7_restore 3 (some .int) :: ([.fieldLink RX7 28 "FreshSharesModel" "isKept" "[Z", .fieldLink RX7 7 "FreshSharesModel" "state" "[I", .fieldLink RX7 25 "FreshSharesModel" "images" "[I", .methodLink RX7 36 yX7_in, .static yX7_in, .initialized RX7, .code yX7_in cX7_in 3 (some .boolean)] ++ wsX70)
def wsX7_count : List Cond := .code yX7_count cX7_count 2 (some .int) :: ([.fieldLink RX7 7 "FreshSharesModel" "state" "[I", .fieldLink RX7 71 "FreshSharesModel" "signs" "I", .fieldLink RX7 28 "FreshSharesModel" "isKept" "[Z", .methodLink RX7 117 yX7_having, .instanceMethod yX7_having, .selects RX7 yX7_having yX7_having, .initialized RX7, .code yX7_having cX7_having 3 (some .int), .methodLink RX7 61 yX7_hasShare, .instanceMethod yX7_hasShare, .selects RX7 yX7_hasShare yX7_hasShare, .code yX7_hasShare cX7_hasShare 2 (some .boolean), .methodLink RX7 120 yX7_bits, .static yX7_bits, .code yX7_bits cX7_bits 3 (some .int), .methodLink RX7 168 yX7_isEpoch, .instanceMethod yX7_isEpoch, .selects RX7 yX7_isEpoch yX7_isEpoch, .code yX7_isEpoch cX7_isEpoch 2 (some .boolean), .methodLink RX7 36 yX7_in, .static yX7_in, .code yX7_in cX7_in 3 (some .boolean)] ++ wsX70)
def wsJ9_min_7cf53 : List Cond := .code yJ9_min_7cf53 cJ9_min_7cf53 2 (some .int) :: ([])
abbrev vwCl : List vw_C := [(RX0, TX0, 12), (RX1, TX1, 4), (RX2, TX2, 6), (RX3, TX3, 2), (RX6, TX6, 4), (RX7, TX7, 9)]
set_option maxRecDepth 20000 in
theorem ggX0_init_X1_init : GoodIn wsX0_init wsX1_init := goodIn_r _ [22, 23, 2, 3, 4, 24, 25, 26, 27, 40, 41, 42, 43] (by decide +kernel) (by decide +kernel)
set_option maxRecDepth 20000 in
theorem gX0_init_X1_init : GoodIn wsX0_init (wsX1_init) := ggX0_init_X1_init
theorem dX0_init_0 : decode cX0_init 0 = .ok (.aload_n 0, 1) := by decide +kernel
theorem dX0_init_1 : decode cX0_init 1 = .ok (.invokespecial 3, 3) := by decide +kernel
theorem dX0_init_4 : decode cX0_init 4 = .ok (.aload_n 0, 1) := by decide +kernel
theorem dX0_init_5 : decode cX0_init 5 = .ok (.bipush 40, 2) := by decide +kernel
theorem dX0_init_7 : decode cX0_init 7 = .ok (.newarray .int, 2) := by decide +kernel
theorem dX0_init_9 : decode cX0_init 9 = .ok (.putfield 9, 3) := by decide +kernel
theorem dX0_init_12 : decode cX0_init 12 = .ok (.aload_n 0, 1) := by decide +kernel
theorem dX0_init_13 : decode cX0_init 13 = .ok (.bipush 40, 2) := by decide +kernel
theorem dX0_init_15 : decode cX0_init 15 = .ok (.newarray .int, 2) := by decide +kernel
theorem dX0_init_17 : decode cX0_init 17 = .ok (.putfield 15, 3) := by decide +kernel
theorem dX0_init_20 : decode cX0_init 20 = .ok (.aload_n 0, 1) := by decide +kernel
theorem dX0_init_21 : decode cX0_init 21 = .ok (.bipush 8, 2) := by decide +kernel
theorem dX0_init_23 : decode cX0_init 23 = .ok (.newarray .int, 2) := by decide +kernel
theorem dX0_init_25 : decode cX0_init 25 = .ok (.putfield 18, 3) := by decide +kernel
theorem dX0_init_28 : decode cX0_init 28 = .ok (.aload_n 0, 1) := by decide +kernel
theorem dX0_init_29 : decode cX0_init 29 = .ok (.iconst 5, 1) := by decide +kernel
theorem dX0_init_30 : decode cX0_init 30 = .ok (.newarray .int, 2) := by decide +kernel
theorem dX0_init_32 : decode cX0_init 32 = .ok (.putfield 21, 3) := by decide +kernel
theorem dX0_init_35 : decode cX0_init 35 = .ok (.aload_n 0, 1) := by decide +kernel
theorem dX0_init_36 : decode cX0_init 36 = .ok (.sipush 200, 3) := by decide +kernel
theorem dX0_init_39 : decode cX0_init 39 = .ok (.newarray .int, 2) := by decide +kernel
theorem dX0_init_41 : decode cX0_init 41 = .ok (.putfield 24, 3) := by decide +kernel
theorem dX0_init_44 : decode cX0_init 44 = .ok (.aload_n 0, 1) := by decide +kernel
theorem dX0_init_45 : decode cX0_init 45 = .ok (.new 27, 3) := by decide +kernel
theorem dX0_init_48 : decode cX0_init 48 = .ok (.dup, 1) := by decide +kernel
theorem dX0_init_49 : decode cX0_init 49 = .ok (.invokespecial 29, 3) := by decide +kernel
theorem dX0_init_52 : decode cX0_init 52 = .ok (.putfield 30, 3) := by decide +kernel
theorem dX0_init_55 : decode cX0_init 55 = .ok (.aload_n 0, 1) := by decide +kernel
theorem dX0_init_56 : decode cX0_init 56 = .ok (.iconst 0, 1) := by decide +kernel
theorem dX0_init_57 : decode cX0_init 57 = .ok (.putfield 34, 3) := by decide +kernel
theorem dX0_init_60 : decode cX0_init 60 = .ok (.aload_n 0, 1) := by decide +kernel
theorem dX0_init_61 : decode cX0_init 61 = .ok (.iconst 0, 1) := by decide +kernel
theorem dX0_init_62 : decode cX0_init 62 = .ok (.putfield 38, 3) := by decide +kernel
theorem dX0_init_65 : decode cX0_init 65 = .ok (.aload_n 0, 1) := by decide +kernel
theorem dX0_init_66 : decode cX0_init 66 = .ok (.iconst (-1), 1) := by decide +kernel
theorem dX0_init_67 : decode cX0_init 67 = .ok (.putfield 41, 3) := by decide +kernel
theorem dX0_init_70 : decode cX0_init 70 = .ok (.aload_n 0, 1) := by decide +kernel
theorem dX0_init_71 : decode cX0_init 71 = .ok (.iconst 0, 1) := by decide +kernel
theorem dX0_init_72 : decode cX0_init 72 = .ok (.putfield 44, 3) := by decide +kernel
theorem dX0_init_75 : decode cX0_init 75 = .ok (.aload_n 0, 1) := by decide +kernel
theorem dX0_init_76 : decode cX0_init 76 = .ok (.iconst 0, 1) := by decide +kernel
theorem dX0_init_77 : decode cX0_init 77 = .ok (.putfield 47, 3) := by decide +kernel
theorem dX0_init_80 : decode cX0_init 80 = .ok (.aload_n 0, 1) := by decide +kernel
theorem dX0_init_81 : decode cX0_init 81 = .ok (.iconst 0, 1) := by decide +kernel
theorem dX0_init_82 : decode cX0_init 82 = .ok (.putfield 50, 3) := by decide +kernel
theorem dX0_init_85 : decode cX0_init 85 = .ok (.iconst 1, 1) := by decide +kernel
theorem dX0_init_86 : decode cX0_init 86 = .ok (.istore_n 1, 1) := by decide +kernel
theorem dX0_init_87 : decode cX0_init 87 = .ok (.iload_n 1, 1) := by decide +kernel
theorem dX0_init_88 : decode cX0_init 88 = .ok (.bipush 7, 2) := by decide +kernel
theorem dX0_init_90 : decode cX0_init 90 = .ok (.if_icmp .gt 20, 3) := by decide +kernel
theorem dX0_init_93 : decode cX0_init 93 = .ok (.aload_n 0, 1) := by decide +kernel
theorem dX0_init_94 : decode cX0_init 94 = .ok (.getfield 15, 3) := by decide +kernel
theorem dX0_init_97 : decode cX0_init 97 = .ok (.iload_n 1, 1) := by decide +kernel
theorem dX0_init_98 : decode cX0_init 98 = .ok (.iconst 5, 1) := by decide +kernel
theorem dX0_init_99 : decode cX0_init 99 = .ok (.imul, 1) := by decide +kernel
theorem dX0_init_100 : decode cX0_init 100 = .ok (.iconst 4, 1) := by decide +kernel
theorem dX0_init_101 : decode cX0_init 101 = .ok (.iadd, 1) := by decide +kernel
theorem dX0_init_102 : decode cX0_init 102 = .ok (.iconst 1, 1) := by decide +kernel
theorem dX0_init_103 : decode cX0_init 103 = .ok (.iastore, 1) := by decide +kernel
theorem dX0_init_104 : decode cX0_init 104 = .ok (.iinc 1 1, 3) := by decide +kernel
theorem dX0_init_107 : decode cX0_init 107 = .ok (.goto (-20), 3) := by decide +kernel
theorem dX0_init_110 : decode cX0_init 110 = .ok (.return_, 1) := by decide +kernel
set_option maxRecDepth 20000 in
theorem ggX0_copyFrom_X1_copyFrom : GoodIn wsX0_copyFrom wsX1_copyFrom := goodIn_r _ [21, 22, 23, 3, 4, 5, 24, 25, 26, 39, 40, 41, 42] (by decide +kernel) (by decide +kernel)
set_option maxRecDepth 20000 in
theorem gX0_copyFrom_X1_copyFrom : GoodIn wsX0_copyFrom (wsV RX0 59 RX1 yX1_copyFrom wsX1_copyFrom) := goodIn_app (goodIn_of _ (by decide +kernel)) ggX0_copyFrom_X1_copyFrom
theorem dX0_copyFrom_0 : decode cX0_copyFrom 0 = .ok (.aload_n 1, 1) := by decide +kernel
theorem dX0_copyFrom_1 : decode cX0_copyFrom 1 = .ok (.getfield 9, 3) := by decide +kernel
theorem dX0_copyFrom_4 : decode cX0_copyFrom 4 = .ok (.iconst 0, 1) := by decide +kernel
theorem dX0_copyFrom_5 : decode cX0_copyFrom 5 = .ok (.aload_n 0, 1) := by decide +kernel
theorem dX0_copyFrom_6 : decode cX0_copyFrom 6 = .ok (.getfield 9, 3) := by decide +kernel
theorem dX0_copyFrom_9 : decode cX0_copyFrom 9 = .ok (.iconst 0, 1) := by decide +kernel
theorem dX0_copyFrom_10 : decode cX0_copyFrom 10 = .ok (.aload_n 0, 1) := by decide +kernel
theorem dX0_copyFrom_11 : decode cX0_copyFrom 11 = .ok (.getfield 9, 3) := by decide +kernel
theorem dX0_copyFrom_14 : decode cX0_copyFrom 14 = .ok (.arraylength, 1) := by decide +kernel
theorem dX0_copyFrom_15 : decode cX0_copyFrom 15 = .ok (.invokestatic 53, 3) := by decide +kernel
theorem dX0_copyFrom_18 : decode cX0_copyFrom 18 = .ok (.aload_n 1, 1) := by decide +kernel
theorem dX0_copyFrom_19 : decode cX0_copyFrom 19 = .ok (.getfield 15, 3) := by decide +kernel
theorem dX0_copyFrom_22 : decode cX0_copyFrom 22 = .ok (.iconst 0, 1) := by decide +kernel
theorem dX0_copyFrom_23 : decode cX0_copyFrom 23 = .ok (.aload_n 0, 1) := by decide +kernel
theorem dX0_copyFrom_24 : decode cX0_copyFrom 24 = .ok (.getfield 15, 3) := by decide +kernel
theorem dX0_copyFrom_27 : decode cX0_copyFrom 27 = .ok (.iconst 0, 1) := by decide +kernel
theorem dX0_copyFrom_28 : decode cX0_copyFrom 28 = .ok (.aload_n 0, 1) := by decide +kernel
theorem dX0_copyFrom_29 : decode cX0_copyFrom 29 = .ok (.getfield 15, 3) := by decide +kernel
theorem dX0_copyFrom_32 : decode cX0_copyFrom 32 = .ok (.arraylength, 1) := by decide +kernel
theorem dX0_copyFrom_33 : decode cX0_copyFrom 33 = .ok (.invokestatic 53, 3) := by decide +kernel
theorem dX0_copyFrom_36 : decode cX0_copyFrom 36 = .ok (.aload_n 1, 1) := by decide +kernel
theorem dX0_copyFrom_37 : decode cX0_copyFrom 37 = .ok (.getfield 18, 3) := by decide +kernel
theorem dX0_copyFrom_40 : decode cX0_copyFrom 40 = .ok (.iconst 0, 1) := by decide +kernel
theorem dX0_copyFrom_41 : decode cX0_copyFrom 41 = .ok (.aload_n 0, 1) := by decide +kernel
theorem dX0_copyFrom_42 : decode cX0_copyFrom 42 = .ok (.getfield 18, 3) := by decide +kernel
theorem dX0_copyFrom_45 : decode cX0_copyFrom 45 = .ok (.iconst 0, 1) := by decide +kernel
theorem dX0_copyFrom_46 : decode cX0_copyFrom 46 = .ok (.aload_n 0, 1) := by decide +kernel
theorem dX0_copyFrom_47 : decode cX0_copyFrom 47 = .ok (.getfield 18, 3) := by decide +kernel
theorem dX0_copyFrom_50 : decode cX0_copyFrom 50 = .ok (.arraylength, 1) := by decide +kernel
theorem dX0_copyFrom_51 : decode cX0_copyFrom 51 = .ok (.invokestatic 53, 3) := by decide +kernel
theorem dX0_copyFrom_54 : decode cX0_copyFrom 54 = .ok (.aload_n 1, 1) := by decide +kernel
theorem dX0_copyFrom_55 : decode cX0_copyFrom 55 = .ok (.getfield 21, 3) := by decide +kernel
theorem dX0_copyFrom_58 : decode cX0_copyFrom 58 = .ok (.iconst 0, 1) := by decide +kernel
theorem dX0_copyFrom_59 : decode cX0_copyFrom 59 = .ok (.aload_n 0, 1) := by decide +kernel
theorem dX0_copyFrom_60 : decode cX0_copyFrom 60 = .ok (.getfield 21, 3) := by decide +kernel
theorem dX0_copyFrom_63 : decode cX0_copyFrom 63 = .ok (.iconst 0, 1) := by decide +kernel
theorem dX0_copyFrom_64 : decode cX0_copyFrom 64 = .ok (.aload_n 0, 1) := by decide +kernel
theorem dX0_copyFrom_65 : decode cX0_copyFrom 65 = .ok (.getfield 21, 3) := by decide +kernel
theorem dX0_copyFrom_68 : decode cX0_copyFrom 68 = .ok (.arraylength, 1) := by decide +kernel
theorem dX0_copyFrom_69 : decode cX0_copyFrom 69 = .ok (.invokestatic 53, 3) := by decide +kernel
theorem dX0_copyFrom_72 : decode cX0_copyFrom 72 = .ok (.aload_n 1, 1) := by decide +kernel
theorem dX0_copyFrom_73 : decode cX0_copyFrom 73 = .ok (.getfield 24, 3) := by decide +kernel
theorem dX0_copyFrom_76 : decode cX0_copyFrom 76 = .ok (.iconst 0, 1) := by decide +kernel
theorem dX0_copyFrom_77 : decode cX0_copyFrom 77 = .ok (.aload_n 0, 1) := by decide +kernel
theorem dX0_copyFrom_78 : decode cX0_copyFrom 78 = .ok (.getfield 24, 3) := by decide +kernel
theorem dX0_copyFrom_81 : decode cX0_copyFrom 81 = .ok (.iconst 0, 1) := by decide +kernel
theorem dX0_copyFrom_82 : decode cX0_copyFrom 82 = .ok (.aload_n 0, 1) := by decide +kernel
theorem dX0_copyFrom_83 : decode cX0_copyFrom 83 = .ok (.getfield 24, 3) := by decide +kernel
theorem dX0_copyFrom_86 : decode cX0_copyFrom 86 = .ok (.arraylength, 1) := by decide +kernel
theorem dX0_copyFrom_87 : decode cX0_copyFrom 87 = .ok (.invokestatic 53, 3) := by decide +kernel
theorem dX0_copyFrom_90 : decode cX0_copyFrom 90 = .ok (.aload_n 0, 1) := by decide +kernel
theorem dX0_copyFrom_91 : decode cX0_copyFrom 91 = .ok (.getfield 30, 3) := by decide +kernel
theorem dX0_copyFrom_94 : decode cX0_copyFrom 94 = .ok (.aload_n 1, 1) := by decide +kernel
theorem dX0_copyFrom_95 : decode cX0_copyFrom 95 = .ok (.getfield 30, 3) := by decide +kernel
theorem dX0_copyFrom_98 : decode cX0_copyFrom 98 = .ok (.invokevirtual 59, 3) := by decide +kernel
theorem dX0_copyFrom_101 : decode cX0_copyFrom 101 = .ok (.aload_n 0, 1) := by decide +kernel
theorem dX0_copyFrom_102 : decode cX0_copyFrom 102 = .ok (.aload_n 1, 1) := by decide +kernel
theorem dX0_copyFrom_103 : decode cX0_copyFrom 103 = .ok (.getfield 34, 3) := by decide +kernel
theorem dX0_copyFrom_106 : decode cX0_copyFrom 106 = .ok (.putfield 34, 3) := by decide +kernel
theorem dX0_copyFrom_109 : decode cX0_copyFrom 109 = .ok (.aload_n 0, 1) := by decide +kernel
theorem dX0_copyFrom_110 : decode cX0_copyFrom 110 = .ok (.aload_n 1, 1) := by decide +kernel
theorem dX0_copyFrom_111 : decode cX0_copyFrom 111 = .ok (.getfield 38, 3) := by decide +kernel
theorem dX0_copyFrom_114 : decode cX0_copyFrom 114 = .ok (.putfield 38, 3) := by decide +kernel
theorem dX0_copyFrom_117 : decode cX0_copyFrom 117 = .ok (.aload_n 0, 1) := by decide +kernel
theorem dX0_copyFrom_118 : decode cX0_copyFrom 118 = .ok (.aload_n 1, 1) := by decide +kernel
theorem dX0_copyFrom_119 : decode cX0_copyFrom 119 = .ok (.getfield 41, 3) := by decide +kernel
theorem dX0_copyFrom_122 : decode cX0_copyFrom 122 = .ok (.putfield 41, 3) := by decide +kernel
theorem dX0_copyFrom_125 : decode cX0_copyFrom 125 = .ok (.aload_n 0, 1) := by decide +kernel
theorem dX0_copyFrom_126 : decode cX0_copyFrom 126 = .ok (.aload_n 1, 1) := by decide +kernel
theorem dX0_copyFrom_127 : decode cX0_copyFrom 127 = .ok (.getfield 44, 3) := by decide +kernel
theorem dX0_copyFrom_130 : decode cX0_copyFrom 130 = .ok (.putfield 44, 3) := by decide +kernel
theorem dX0_copyFrom_133 : decode cX0_copyFrom 133 = .ok (.aload_n 0, 1) := by decide +kernel
theorem dX0_copyFrom_134 : decode cX0_copyFrom 134 = .ok (.aload_n 1, 1) := by decide +kernel
theorem dX0_copyFrom_135 : decode cX0_copyFrom 135 = .ok (.getfield 47, 3) := by decide +kernel
theorem dX0_copyFrom_138 : decode cX0_copyFrom 138 = .ok (.putfield 47, 3) := by decide +kernel
theorem dX0_copyFrom_141 : decode cX0_copyFrom 141 = .ok (.aload_n 0, 1) := by decide +kernel
theorem dX0_copyFrom_142 : decode cX0_copyFrom 142 = .ok (.aload_n 1, 1) := by decide +kernel
theorem dX0_copyFrom_143 : decode cX0_copyFrom 143 = .ok (.getfield 50, 3) := by decide +kernel
theorem dX0_copyFrom_146 : decode cX0_copyFrom 146 = .ok (.putfield 50, 3) := by decide +kernel
theorem dX0_copyFrom_149 : decode cX0_copyFrom 149 = .ok (.return_, 1) := by decide +kernel
theorem dX0_isDealt_0 : decode cX0_isDealt 0 = .ok (.aload_n 0, 1) := by decide +kernel
theorem dX0_isDealt_1 : decode cX0_isDealt 1 = .ok (.getfield 41, 3) := by decide +kernel
theorem dX0_isDealt_4 : decode cX0_isDealt 4 = .ok (.ifCond .lt 7, 3) := by decide +kernel
theorem dX0_isDealt_7 : decode cX0_isDealt 7 = .ok (.iconst 1, 1) := by decide +kernel
theorem dX0_isDealt_8 : decode cX0_isDealt 8 = .ok (.goto 4, 3) := by decide +kernel
theorem dX0_isDealt_11 : decode cX0_isDealt 11 = .ok (.iconst 0, 1) := by decide +kernel
theorem dX0_isDealt_12 : decode cX0_isDealt 12 = .ok (.ireturn, 1) := by decide +kernel
theorem dX0_isLastEpoch_0 : decode cX0_isLastEpoch 0 = .ok (.aload_n 0, 1) := by decide +kernel
theorem dX0_isLastEpoch_1 : decode cX0_isLastEpoch 1 = .ok (.getfield 41, 3) := by decide +kernel
theorem dX0_isLastEpoch_4 : decode cX0_isLastEpoch 4 = .ok (.sipush 199, 3) := by decide +kernel
theorem dX0_isLastEpoch_7 : decode cX0_isLastEpoch 7 = .ok (.if_icmp .lt 7, 3) := by decide +kernel
theorem dX0_isLastEpoch_10 : decode cX0_isLastEpoch 10 = .ok (.iconst 1, 1) := by decide +kernel
theorem dX0_isLastEpoch_11 : decode cX0_isLastEpoch 11 = .ok (.goto 4, 3) := by decide +kernel
theorem dX0_isLastEpoch_14 : decode cX0_isLastEpoch 14 = .ok (.iconst 0, 1) := by decide +kernel
theorem dX0_isLastEpoch_15 : decode cX0_isLastEpoch 15 = .ok (.ireturn, 1) := by decide +kernel
theorem dX0_wasEpoch_0 : decode cX0_wasEpoch 0 = .ok (.iload_n 1, 1) := by decide +kernel
theorem dX0_wasEpoch_1 : decode cX0_wasEpoch 1 = .ok (.ifCond .lt 22, 3) := by decide +kernel
theorem dX0_wasEpoch_4 : decode cX0_wasEpoch 4 = .ok (.iload_n 1, 1) := by decide +kernel
theorem dX0_wasEpoch_5 : decode cX0_wasEpoch 5 = .ok (.aload_n 0, 1) := by decide +kernel
theorem dX0_wasEpoch_6 : decode cX0_wasEpoch 6 = .ok (.getfield 41, 3) := by decide +kernel
theorem dX0_wasEpoch_9 : decode cX0_wasEpoch 9 = .ok (.if_icmp .gt 14, 3) := by decide +kernel
theorem dX0_wasEpoch_12 : decode cX0_wasEpoch 12 = .ok (.iload_n 1, 1) := by decide +kernel
theorem dX0_wasEpoch_13 : decode cX0_wasEpoch 13 = .ok (.sipush 200, 3) := by decide +kernel
theorem dX0_wasEpoch_16 : decode cX0_wasEpoch 16 = .ok (.if_icmp .ge 7, 3) := by decide +kernel
theorem dX0_wasEpoch_19 : decode cX0_wasEpoch 19 = .ok (.iconst 1, 1) := by decide +kernel
theorem dX0_wasEpoch_20 : decode cX0_wasEpoch 20 = .ok (.goto 4, 3) := by decide +kernel
theorem dX0_wasEpoch_23 : decode cX0_wasEpoch 23 = .ok (.iconst 0, 1) := by decide +kernel
theorem dX0_wasEpoch_24 : decode cX0_wasEpoch 24 = .ok (.ireturn, 1) := by decide +kernel
set_option maxRecDepth 20000 in
theorem ggX0_thresholdOf_X0_wasEpoch : GoodIn wsX0_thresholdOf wsX0_wasEpoch := goodIn_r _ [6, 7, 8, 9, 10, 11, 12, 13, 14, 15, 16, 17, 18, 19] (by decide +kernel) (by decide +kernel)
set_option maxRecDepth 20000 in
theorem gX0_thresholdOf_X0_wasEpoch : GoodIn wsX0_thresholdOf (wsV RX0 63 RX0 yX0_wasEpoch wsX0_wasEpoch) := goodIn_app (goodIn_of _ (by decide +kernel)) ggX0_thresholdOf_X0_wasEpoch
theorem dX0_thresholdOf_0 : decode cX0_thresholdOf 0 = .ok (.aload_n 0, 1) := by decide +kernel
theorem dX0_thresholdOf_1 : decode cX0_thresholdOf 1 = .ok (.iload_n 1, 1) := by decide +kernel
theorem dX0_thresholdOf_2 : decode cX0_thresholdOf 2 = .ok (.invokevirtual 63, 3) := by decide +kernel
theorem dX0_thresholdOf_5 : decode cX0_thresholdOf 5 = .ok (.ifCond .eq 12, 3) := by decide +kernel
theorem dX0_thresholdOf_8 : decode cX0_thresholdOf 8 = .ok (.aload_n 0, 1) := by decide +kernel
theorem dX0_thresholdOf_9 : decode cX0_thresholdOf 9 = .ok (.getfield 24, 3) := by decide +kernel
theorem dX0_thresholdOf_12 : decode cX0_thresholdOf 12 = .ok (.iload_n 1, 1) := by decide +kernel
theorem dX0_thresholdOf_13 : decode cX0_thresholdOf 13 = .ok (.iaload, 1) := by decide +kernel
theorem dX0_thresholdOf_14 : decode cX0_thresholdOf 14 = .ok (.goto 4, 3) := by decide +kernel
theorem dX0_thresholdOf_17 : decode cX0_thresholdOf 17 = .ok (.iconst 0, 1) := by decide +kernel
theorem dX0_thresholdOf_18 : decode cX0_thresholdOf 18 = .ok (.ireturn, 1) := by decide +kernel
set_option maxRecDepth 20000 in
theorem ggX0_beginEpoch_X0_isLastEpoch : GoodIn wsX0_beginEpoch wsX0_isLastEpoch := goodIn_r _ [8, 1, 9, 10, 11, 12, 13, 14, 15, 16, 17, 18, 19, 20] (by decide +kernel) (by decide +kernel)
set_option maxRecDepth 20000 in
theorem gX0_beginEpoch_X0_isLastEpoch : GoodIn wsX0_beginEpoch (wsV RX0 67 RX0 yX0_isLastEpoch wsX0_isLastEpoch) := goodIn_app (goodIn_of _ (by decide +kernel)) ggX0_beginEpoch_X0_isLastEpoch
theorem dX0_beginEpoch_0 : decode cX0_beginEpoch 0 = .ok (.aload_n 0, 1) := by decide +kernel
theorem dX0_beginEpoch_1 : decode cX0_beginEpoch 1 = .ok (.invokevirtual 67, 3) := by decide +kernel
theorem dX0_beginEpoch_4 : decode cX0_beginEpoch 4 = .ok (.ifCond .ne 28, 3) := by decide +kernel
theorem dX0_beginEpoch_7 : decode cX0_beginEpoch 7 = .ok (.aload_n 0, 1) := by decide +kernel
theorem dX0_beginEpoch_8 : decode cX0_beginEpoch 8 = .ok (.dup, 1) := by decide +kernel
theorem dX0_beginEpoch_9 : decode cX0_beginEpoch 9 = .ok (.getfield 41, 3) := by decide +kernel
theorem dX0_beginEpoch_12 : decode cX0_beginEpoch 12 = .ok (.iconst 1, 1) := by decide +kernel
theorem dX0_beginEpoch_13 : decode cX0_beginEpoch 13 = .ok (.iadd, 1) := by decide +kernel
theorem dX0_beginEpoch_14 : decode cX0_beginEpoch 14 = .ok (.putfield 41, 3) := by decide +kernel
theorem dX0_beginEpoch_17 : decode cX0_beginEpoch 17 = .ok (.aload_n 0, 1) := by decide +kernel
theorem dX0_beginEpoch_18 : decode cX0_beginEpoch 18 = .ok (.iload_n 1, 1) := by decide +kernel
theorem dX0_beginEpoch_19 : decode cX0_beginEpoch 19 = .ok (.putfield 38, 3) := by decide +kernel
theorem dX0_beginEpoch_22 : decode cX0_beginEpoch 22 = .ok (.aload_n 0, 1) := by decide +kernel
theorem dX0_beginEpoch_23 : decode cX0_beginEpoch 23 = .ok (.getfield 24, 3) := by decide +kernel
theorem dX0_beginEpoch_26 : decode cX0_beginEpoch 26 = .ok (.aload_n 0, 1) := by decide +kernel
theorem dX0_beginEpoch_27 : decode cX0_beginEpoch 27 = .ok (.getfield 41, 3) := by decide +kernel
theorem dX0_beginEpoch_30 : decode cX0_beginEpoch 30 = .ok (.iload_n 1, 1) := by decide +kernel
theorem dX0_beginEpoch_31 : decode cX0_beginEpoch 31 = .ok (.iastore, 1) := by decide +kernel
theorem dX0_beginEpoch_32 : decode cX0_beginEpoch 32 = .ok (.return_, 1) := by decide +kernel
theorem dX0_bend_0 : decode cX0_bend 0 = .ok (.aload_n 0, 1) := by decide +kernel
theorem dX0_bend_1 : decode cX0_bend 1 = .ok (.getfield 15, 3) := by decide +kernel
theorem dX0_bend_4 : decode cX0_bend 4 = .ok (.iload_n 1, 1) := by decide +kernel
theorem dX0_bend_5 : decode cX0_bend 5 = .ok (.iconst 5, 1) := by decide +kernel
theorem dX0_bend_6 : decode cX0_bend 6 = .ok (.imul, 1) := by decide +kernel
theorem dX0_bend_7 : decode cX0_bend 7 = .ok (.iload_n 2, 1) := by decide +kernel
theorem dX0_bend_8 : decode cX0_bend 8 = .ok (.iadd, 1) := by decide +kernel
theorem dX0_bend_9 : decode cX0_bend 9 = .ok (.iaload, 1) := by decide +kernel
theorem dX0_bend_10 : decode cX0_bend 10 = .ok (.ireturn, 1) := by decide +kernel
set_option maxRecDepth 20000 in
theorem ggX0_tells_X0_bend : GoodIn wsX0_tells wsX0_bend := goodIn_r _ [6, 7, 12, 13, 14, 15, 16, 17, 18, 19, 20, 21, 22, 23] (by decide +kernel) (by decide +kernel)
set_option maxRecDepth 20000 in
theorem gX0_tells_X0_bend : GoodIn wsX0_tells (wsV RX0 71 RX0 yX0_bend wsX0_bend) := goodIn_app (goodIn_of _ (by decide +kernel)) ggX0_tells_X0_bend
set_option maxRecDepth 20000 in
theorem ggX0_tells_X5_plus : GoodIn wsX0_tells wsX5_plus := goodIn_r _ [11] (by decide +kernel) (by decide +kernel)
set_option maxRecDepth 20000 in
theorem gX0_tells_X5_plus : GoodIn wsX0_tells (va_wsS RX0 75 yX5_plus wsX5_plus) := goodIn_app (goodIn_of _ (by decide +kernel)) ggX0_tells_X5_plus
theorem dX0_tells_0 : decode cX0_tells 0 = .ok (.aload_n 0, 1) := by decide +kernel
theorem dX0_tells_1 : decode cX0_tells 1 = .ok (.getfield 18, 3) := by decide +kernel
theorem dX0_tells_4 : decode cX0_tells 4 = .ok (.iload_n 1, 1) := by decide +kernel
theorem dX0_tells_5 : decode cX0_tells 5 = .ok (.iaload, 1) := by decide +kernel
theorem dX0_tells_6 : decode cX0_tells 6 = .ok (.aload_n 0, 1) := by decide +kernel
theorem dX0_tells_7 : decode cX0_tells 7 = .ok (.iload_n 1, 1) := by decide +kernel
theorem dX0_tells_8 : decode cX0_tells 8 = .ok (.iconst 0, 1) := by decide +kernel
theorem dX0_tells_9 : decode cX0_tells 9 = .ok (.invokevirtual 71, 3) := by decide +kernel
theorem dX0_tells_12 : decode cX0_tells 12 = .ok (.invokestatic 75, 3) := by decide +kernel
theorem dX0_tells_15 : decode cX0_tells 15 = .ok (.ireturn, 1) := by decide +kernel
set_option maxRecDepth 20000 in
theorem ggX0_firstLostEpoch_X1_victims : GoodIn wsX0_firstLostEpoch wsX1_victims := goodIn_r _ [6, 7, 8, 9, 10, 11, 12, 13, 44, 45, 46, 47] (by decide +kernel) (by decide +kernel)
set_option maxRecDepth 20000 in
theorem gX0_firstLostEpoch_X1_victims : GoodIn wsX0_firstLostEpoch (wsV RX0 86 RX1 yX1_victims wsX1_victims) := goodIn_app (goodIn_of _ (by decide +kernel)) ggX0_firstLostEpoch_X1_victims
set_option maxRecDepth 20000 in
theorem ggX0_firstLostEpoch_J6_bitCount_0f7a4 : GoodIn wsX0_firstLostEpoch wsJ6_bitCount_0f7a4 := goodIn_r _ [17, 18, 19, 20] (by decide +kernel) (by decide +kernel)
set_option maxRecDepth 20000 in
theorem gX0_firstLostEpoch_J6_bitCount_0f7a4 : GoodIn wsX0_firstLostEpoch (va_wsS RX0 90 yJ6_bitCount_0f7a4 wsJ6_bitCount_0f7a4) := goodIn_app (goodIn_of _ (by decide +kernel)) ggX0_firstLostEpoch_J6_bitCount_0f7a4
set_option maxRecDepth 20000 in
theorem ggX0_firstLostEpoch_X0_thresholdOf : GoodIn wsX0_firstLostEpoch wsX0_thresholdOf := goodIn_r _ [25, 26, 27, 28, 29, 24, 30, 31, 32, 33, 34, 35, 36, 37, 38, 39, 40, 41, 42, 43] (by decide +kernel) (by decide +kernel)
set_option maxRecDepth 20000 in
theorem gX0_firstLostEpoch_X0_thresholdOf : GoodIn wsX0_firstLostEpoch (wsV RX0 95 RX0 yX0_thresholdOf wsX0_thresholdOf) := goodIn_app (goodIn_of _ (by decide +kernel)) ggX0_firstLostEpoch_X0_thresholdOf
theorem dX0_firstLostEpoch_0 : decode cX0_firstLostEpoch 0 = .ok (.iconst 0, 1) := by decide +kernel
theorem dX0_firstLostEpoch_1 : decode cX0_firstLostEpoch 1 = .ok (.istore_n 1, 1) := by decide +kernel
theorem dX0_firstLostEpoch_2 : decode cX0_firstLostEpoch 2 = .ok (.iload_n 1, 1) := by decide +kernel
theorem dX0_firstLostEpoch_3 : decode cX0_firstLostEpoch 3 = .ok (.aload_n 0, 1) := by decide +kernel
theorem dX0_firstLostEpoch_4 : decode cX0_firstLostEpoch 4 = .ok (.getfield 30, 3) := by decide +kernel
theorem dX0_firstLostEpoch_7 : decode cX0_firstLostEpoch 7 = .ok (.getfield 80, 3) := by decide +kernel
theorem dX0_firstLostEpoch_10 : decode cX0_firstLostEpoch 10 = .ok (.if_icmp .ge 46, 3) := by decide +kernel
theorem dX0_firstLostEpoch_13 : decode cX0_firstLostEpoch 13 = .ok (.iload_n 1, 1) := by decide +kernel
theorem dX0_firstLostEpoch_14 : decode cX0_firstLostEpoch 14 = .ok (.bipush 24, 2) := by decide +kernel
theorem dX0_firstLostEpoch_16 : decode cX0_firstLostEpoch 16 = .ok (.if_icmp .ge 40, 3) := by decide +kernel
theorem dX0_firstLostEpoch_19 : decode cX0_firstLostEpoch 19 = .ok (.aload_n 0, 1) := by decide +kernel
theorem dX0_firstLostEpoch_20 : decode cX0_firstLostEpoch 20 = .ok (.getfield 30, 3) := by decide +kernel
theorem dX0_firstLostEpoch_23 : decode cX0_firstLostEpoch 23 = .ok (.getfield 83, 3) := by decide +kernel
theorem dX0_firstLostEpoch_26 : decode cX0_firstLostEpoch 26 = .ok (.iload_n 1, 1) := by decide +kernel
theorem dX0_firstLostEpoch_27 : decode cX0_firstLostEpoch 27 = .ok (.iaload, 1) := by decide +kernel
theorem dX0_firstLostEpoch_28 : decode cX0_firstLostEpoch 28 = .ok (.istore_n 2, 1) := by decide +kernel
theorem dX0_firstLostEpoch_29 : decode cX0_firstLostEpoch 29 = .ok (.aload_n 0, 1) := by decide +kernel
theorem dX0_firstLostEpoch_30 : decode cX0_firstLostEpoch 30 = .ok (.getfield 30, 3) := by decide +kernel
theorem dX0_firstLostEpoch_33 : decode cX0_firstLostEpoch 33 = .ok (.iload_n 2, 1) := by decide +kernel
theorem dX0_firstLostEpoch_34 : decode cX0_firstLostEpoch 34 = .ok (.invokevirtual 86, 3) := by decide +kernel
theorem dX0_firstLostEpoch_37 : decode cX0_firstLostEpoch 37 = .ok (.invokestatic 90, 3) := by decide +kernel
theorem dX0_firstLostEpoch_40 : decode cX0_firstLostEpoch 40 = .ok (.aload_n 0, 1) := by decide +kernel
theorem dX0_firstLostEpoch_41 : decode cX0_firstLostEpoch 41 = .ok (.iload_n 2, 1) := by decide +kernel
theorem dX0_firstLostEpoch_42 : decode cX0_firstLostEpoch 42 = .ok (.invokevirtual 95, 3) := by decide +kernel
theorem dX0_firstLostEpoch_45 : decode cX0_firstLostEpoch 45 = .ok (.if_icmp .lt 5, 3) := by decide +kernel
theorem dX0_firstLostEpoch_48 : decode cX0_firstLostEpoch 48 = .ok (.iload_n 2, 1) := by decide +kernel
theorem dX0_firstLostEpoch_49 : decode cX0_firstLostEpoch 49 = .ok (.ireturn, 1) := by decide +kernel
theorem dX0_firstLostEpoch_50 : decode cX0_firstLostEpoch 50 = .ok (.iinc 1 1, 3) := by decide +kernel
theorem dX0_firstLostEpoch_53 : decode cX0_firstLostEpoch 53 = .ok (.goto (-51), 3) := by decide +kernel
theorem dX0_firstLostEpoch_56 : decode cX0_firstLostEpoch 56 = .ok (.bipush (-6), 2) := by decide +kernel
theorem dX0_firstLostEpoch_58 : decode cX0_firstLostEpoch 58 = .ok (.ireturn, 1) := by decide +kernel
theorem dX1_init_0 : decode cX1_init 0 = .ok (.aload_n 0, 1) := by decide +kernel
theorem dX1_init_1 : decode cX1_init 1 = .ok (.invokespecial 3, 3) := by decide +kernel
theorem dX1_init_4 : decode cX1_init 4 = .ok (.aload_n 0, 1) := by decide +kernel
theorem dX1_init_5 : decode cX1_init 5 = .ok (.bipush 24, 2) := by decide +kernel
theorem dX1_init_7 : decode cX1_init 7 = .ok (.newarray .int, 2) := by decide +kernel
theorem dX1_init_9 : decode cX1_init 9 = .ok (.putfield 9, 3) := by decide +kernel
theorem dX1_init_12 : decode cX1_init 12 = .ok (.aload_n 0, 1) := by decide +kernel
theorem dX1_init_13 : decode cX1_init 13 = .ok (.bipush 24, 2) := by decide +kernel
theorem dX1_init_15 : decode cX1_init 15 = .ok (.newarray .int, 2) := by decide +kernel
theorem dX1_init_17 : decode cX1_init 17 = .ok (.putfield 15, 3) := by decide +kernel
theorem dX1_init_20 : decode cX1_init 20 = .ok (.aload_n 0, 1) := by decide +kernel
theorem dX1_init_21 : decode cX1_init 21 = .ok (.bipush 24, 2) := by decide +kernel
theorem dX1_init_23 : decode cX1_init 23 = .ok (.newarray .int, 2) := by decide +kernel
theorem dX1_init_25 : decode cX1_init 25 = .ok (.putfield 18, 3) := by decide +kernel
theorem dX1_init_28 : decode cX1_init 28 = .ok (.aload_n 0, 1) := by decide +kernel
theorem dX1_init_29 : decode cX1_init 29 = .ok (.iconst 0, 1) := by decide +kernel
theorem dX1_init_30 : decode cX1_init 30 = .ok (.putfield 21, 3) := by decide +kernel
theorem dX1_init_33 : decode cX1_init 33 = .ok (.return_, 1) := by decide +kernel
theorem dX1_copyFrom_0 : decode cX1_copyFrom 0 = .ok (.aload_n 1, 1) := by decide +kernel
theorem dX1_copyFrom_1 : decode cX1_copyFrom 1 = .ok (.getfield 9, 3) := by decide +kernel
theorem dX1_copyFrom_4 : decode cX1_copyFrom 4 = .ok (.iconst 0, 1) := by decide +kernel
theorem dX1_copyFrom_5 : decode cX1_copyFrom 5 = .ok (.aload_n 0, 1) := by decide +kernel
theorem dX1_copyFrom_6 : decode cX1_copyFrom 6 = .ok (.getfield 9, 3) := by decide +kernel
theorem dX1_copyFrom_9 : decode cX1_copyFrom 9 = .ok (.iconst 0, 1) := by decide +kernel
theorem dX1_copyFrom_10 : decode cX1_copyFrom 10 = .ok (.bipush 24, 2) := by decide +kernel
theorem dX1_copyFrom_12 : decode cX1_copyFrom 12 = .ok (.invokestatic 25, 3) := by decide +kernel
theorem dX1_copyFrom_15 : decode cX1_copyFrom 15 = .ok (.aload_n 1, 1) := by decide +kernel
theorem dX1_copyFrom_16 : decode cX1_copyFrom 16 = .ok (.getfield 15, 3) := by decide +kernel
theorem dX1_copyFrom_19 : decode cX1_copyFrom 19 = .ok (.iconst 0, 1) := by decide +kernel
theorem dX1_copyFrom_20 : decode cX1_copyFrom 20 = .ok (.aload_n 0, 1) := by decide +kernel
theorem dX1_copyFrom_21 : decode cX1_copyFrom 21 = .ok (.getfield 15, 3) := by decide +kernel
theorem dX1_copyFrom_24 : decode cX1_copyFrom 24 = .ok (.iconst 0, 1) := by decide +kernel
theorem dX1_copyFrom_25 : decode cX1_copyFrom 25 = .ok (.bipush 24, 2) := by decide +kernel
theorem dX1_copyFrom_27 : decode cX1_copyFrom 27 = .ok (.invokestatic 25, 3) := by decide +kernel
theorem dX1_copyFrom_30 : decode cX1_copyFrom 30 = .ok (.aload_n 1, 1) := by decide +kernel
theorem dX1_copyFrom_31 : decode cX1_copyFrom 31 = .ok (.getfield 18, 3) := by decide +kernel
theorem dX1_copyFrom_34 : decode cX1_copyFrom 34 = .ok (.iconst 0, 1) := by decide +kernel
theorem dX1_copyFrom_35 : decode cX1_copyFrom 35 = .ok (.aload_n 0, 1) := by decide +kernel
theorem dX1_copyFrom_36 : decode cX1_copyFrom 36 = .ok (.getfield 18, 3) := by decide +kernel
theorem dX1_copyFrom_39 : decode cX1_copyFrom 39 = .ok (.iconst 0, 1) := by decide +kernel
theorem dX1_copyFrom_40 : decode cX1_copyFrom 40 = .ok (.bipush 24, 2) := by decide +kernel
theorem dX1_copyFrom_42 : decode cX1_copyFrom 42 = .ok (.invokestatic 25, 3) := by decide +kernel
theorem dX1_copyFrom_45 : decode cX1_copyFrom 45 = .ok (.aload_n 0, 1) := by decide +kernel
theorem dX1_copyFrom_46 : decode cX1_copyFrom 46 = .ok (.aload_n 1, 1) := by decide +kernel
theorem dX1_copyFrom_47 : decode cX1_copyFrom 47 = .ok (.getfield 21, 3) := by decide +kernel
theorem dX1_copyFrom_50 : decode cX1_copyFrom 50 = .ok (.putfield 21, 3) := by decide +kernel
theorem dX1_copyFrom_53 : decode cX1_copyFrom 53 = .ok (.return_, 1) := by decide +kernel
theorem dX1_isFull_0 : decode cX1_isFull 0 = .ok (.aload_n 0, 1) := by decide +kernel
theorem dX1_isFull_1 : decode cX1_isFull 1 = .ok (.getfield 21, 3) := by decide +kernel
theorem dX1_isFull_4 : decode cX1_isFull 4 = .ok (.ifCond .lt 12, 3) := by decide +kernel
theorem dX1_isFull_7 : decode cX1_isFull 7 = .ok (.aload_n 0, 1) := by decide +kernel
theorem dX1_isFull_8 : decode cX1_isFull 8 = .ok (.getfield 21, 3) := by decide +kernel
theorem dX1_isFull_11 : decode cX1_isFull 11 = .ok (.bipush 24, 2) := by decide +kernel
theorem dX1_isFull_13 : decode cX1_isFull 13 = .ok (.if_icmp .lt 7, 3) := by decide +kernel
theorem dX1_isFull_16 : decode cX1_isFull 16 = .ok (.iconst 1, 1) := by decide +kernel
theorem dX1_isFull_17 : decode cX1_isFull 17 = .ok (.goto 4, 3) := by decide +kernel
theorem dX1_isFull_20 : decode cX1_isFull 20 = .ok (.iconst 0, 1) := by decide +kernel
theorem dX1_isFull_21 : decode cX1_isFull 21 = .ok (.ireturn, 1) := by decide +kernel
set_option maxRecDepth 20000 in
theorem ggX1_add_X1_isFull : GoodIn wsX1_add wsX1_isFull := goodIn_r _ [9, 2, 10, 11, 12, 13] (by decide +kernel) (by decide +kernel)
set_option maxRecDepth 20000 in
theorem gX1_add_X1_isFull : GoodIn wsX1_add (wsV RX1 31 RX1 yX1_isFull wsX1_isFull) := goodIn_app (goodIn_of _ (by decide +kernel)) ggX1_add_X1_isFull
theorem dX1_add_0 : decode cX1_add 0 = .ok (.aload_n 0, 1) := by decide +kernel
theorem dX1_add_1 : decode cX1_add 1 = .ok (.invokevirtual 31, 3) := by decide +kernel
theorem dX1_add_4 : decode cX1_add 4 = .ok (.ifCond .eq 4, 3) := by decide +kernel
theorem dX1_add_7 : decode cX1_add 7 = .ok (.return_, 1) := by decide +kernel
theorem dX1_add_8 : decode cX1_add 8 = .ok (.aload_n 0, 1) := by decide +kernel
theorem dX1_add_9 : decode cX1_add 9 = .ok (.getfield 9, 3) := by decide +kernel
theorem dX1_add_12 : decode cX1_add 12 = .ok (.aload_n 0, 1) := by decide +kernel
theorem dX1_add_13 : decode cX1_add 13 = .ok (.getfield 21, 3) := by decide +kernel
theorem dX1_add_16 : decode cX1_add 16 = .ok (.iload_n 1, 1) := by decide +kernel
theorem dX1_add_17 : decode cX1_add 17 = .ok (.iastore, 1) := by decide +kernel
theorem dX1_add_18 : decode cX1_add 18 = .ok (.aload_n 0, 1) := by decide +kernel
theorem dX1_add_19 : decode cX1_add 19 = .ok (.getfield 15, 3) := by decide +kernel
theorem dX1_add_22 : decode cX1_add 22 = .ok (.aload_n 0, 1) := by decide +kernel
theorem dX1_add_23 : decode cX1_add 23 = .ok (.getfield 21, 3) := by decide +kernel
theorem dX1_add_26 : decode cX1_add 26 = .ok (.iload_n 2, 1) := by decide +kernel
theorem dX1_add_27 : decode cX1_add 27 = .ok (.iastore, 1) := by decide +kernel
theorem dX1_add_28 : decode cX1_add 28 = .ok (.aload_n 0, 1) := by decide +kernel
theorem dX1_add_29 : decode cX1_add 29 = .ok (.getfield 18, 3) := by decide +kernel
theorem dX1_add_32 : decode cX1_add 32 = .ok (.aload_n 0, 1) := by decide +kernel
theorem dX1_add_33 : decode cX1_add 33 = .ok (.getfield 21, 3) := by decide +kernel
theorem dX1_add_36 : decode cX1_add 36 = .ok (.iload_n 3, 1) := by decide +kernel
theorem dX1_add_37 : decode cX1_add 37 = .ok (.iastore, 1) := by decide +kernel
theorem dX1_add_38 : decode cX1_add 38 = .ok (.aload_n 0, 1) := by decide +kernel
theorem dX1_add_39 : decode cX1_add 39 = .ok (.dup, 1) := by decide +kernel
theorem dX1_add_40 : decode cX1_add 40 = .ok (.getfield 21, 3) := by decide +kernel
theorem dX1_add_43 : decode cX1_add 43 = .ok (.iconst 1, 1) := by decide +kernel
theorem dX1_add_44 : decode cX1_add 44 = .ok (.iadd, 1) := by decide +kernel
theorem dX1_add_45 : decode cX1_add 45 = .ok (.putfield 21, 3) := by decide +kernel
theorem dX1_add_48 : decode cX1_add 48 = .ok (.return_, 1) := by decide +kernel
set_option maxRecDepth 20000 in
theorem ggX1_victims_X4_only : GoodIn wsX1_victims wsX4_only := goodIn_r _ [7] (by decide +kernel) (by decide +kernel)
set_option maxRecDepth 20000 in
theorem gX1_victims_X4_only : GoodIn wsX1_victims (va_wsS RX1 35 yX4_only wsX4_only) := goodIn_app (goodIn_of _ (by decide +kernel)) ggX1_victims_X4_only
theorem dX1_victims_0 : decode cX1_victims 0 = .ok (.iconst 0, 1) := by decide +kernel
theorem dX1_victims_1 : decode cX1_victims 1 = .ok (.istore_n 2, 1) := by decide +kernel
theorem dX1_victims_2 : decode cX1_victims 2 = .ok (.iconst 0, 1) := by decide +kernel
theorem dX1_victims_3 : decode cX1_victims 3 = .ok (.istore_n 3, 1) := by decide +kernel
theorem dX1_victims_4 : decode cX1_victims 4 = .ok (.iload_n 3, 1) := by decide +kernel
theorem dX1_victims_5 : decode cX1_victims 5 = .ok (.aload_n 0, 1) := by decide +kernel
theorem dX1_victims_6 : decode cX1_victims 6 = .ok (.getfield 21, 3) := by decide +kernel
theorem dX1_victims_9 : decode cX1_victims 9 = .ok (.if_icmp .ge 42, 3) := by decide +kernel
theorem dX1_victims_12 : decode cX1_victims 12 = .ok (.iload_n 3, 1) := by decide +kernel
theorem dX1_victims_13 : decode cX1_victims 13 = .ok (.bipush 24, 2) := by decide +kernel
