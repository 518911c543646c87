/-! the judgement k_J: a walk over a fixed world whose ints are a memory; rules, one an instruction -/
abbrev k_M : Type := Nat → Nat → Int32
def k_put (σ : k_M) (i k : Nat) (v : Int32) : k_M := fun a => if a = i then upd (σ a) k v else σ a
def k_set (σ : k_M) (i : Nat) (f : Nat → Int32) : k_M := fun a => if a = i then f else σ a
abbrev k_C : Type := Program × Launch × Env × State × MethodId × Array Value × List Frame × Method × Code × (State → Prop) × va_G
abbrev k_p (Γ : k_C) : Program := Γ.1
abbrev k_l (Γ : k_C) : Launch := Γ.2.1
abbrev k_e (Γ : k_C) : Env := Γ.2.2.1
abbrev k_s (Γ : k_C) : State := Γ.2.2.2.1
abbrev k_m (Γ : k_C) : MethodId := Γ.2.2.2.2.1
abbrev k_ar (Γ : k_C) : Array Value := Γ.2.2.2.2.2.1
abbrev k_be (Γ : k_C) : List Frame := Γ.2.2.2.2.2.2.1
abbrev k_me (Γ : k_C) : Method := Γ.2.2.2.2.2.2.2.1
abbrev k_c (Γ : k_C) : Code := Γ.2.2.2.2.2.2.2.2.1
abbrev k_Q (Γ : k_C) : State → Prop := Γ.2.2.2.2.2.2.2.2.2.1
abbrev k_D (Γ : k_C) : va_G := Γ.2.2.2.2.2.2.2.2.2.2
/-- the links between nest mates -/
def k_nests : List Cond := [
  .fieldLinkNest "FreshShares" 59 "FreshShares$Script" "length" "I" "FreshShares",
  .fieldLinkNest "FreshShares" 115 "FreshShares$Loot" "members" "[I" "FreshShares",
  .fieldLinkNest "FreshShares$Circle" 83 "FreshShares$Loot" "epochs" "[I" "FreshShares",
  .fieldLinkNest "FreshShares" 118 "FreshShares$Loot" "epochs" "[I" "FreshShares",
  .fieldLinkNest "FreshShares" 121 "FreshShares$Loot" "shares" "[I" "FreshShares",
  .fieldLinkNest "FreshShares$Orders" 164 "FreshShares$Loot" "size" "I" "FreshShares",
  .fieldLinkNest "FreshShares$Circle" 80 "FreshShares$Loot" "size" "I" "FreshShares",
  .fieldLinkNest "FreshShares" 110 "FreshShares$Loot" "size" "I" "FreshShares",
  .fieldLinkNest "FreshShares" 41 "FreshShares$Circle" "rows" "[I" "FreshShares",
  .fieldLinkNest "FreshShares$Orders" 98 "FreshShares$Circle" "rows" "[I" "FreshShares",
  .fieldLinkNest "FreshShares" 49 "FreshShares$Circle" "bends" "[I" "FreshShares",
  .fieldLinkNest "FreshShares$Orders" 106 "FreshShares$Circle" "shares" "[I" "FreshShares",
  .fieldLinkNest "FreshShares" 161 "FreshShares$Circle" "shares" "[I" "FreshShares",
  .fieldLinkNest "FreshShares$Orders" 95 "FreshShares$Circle" "seals" "[I" "FreshShares",
  .fieldLinkNest "FreshShares" 84 "FreshShares$Circle" "seals" "[I" "FreshShares",
  .fieldLinkNest "FreshShares$Orders" 87 "FreshShares$Circle" "stolen" "LFreshShares$Loot;" "FreshShares",
  .fieldLinkNest "FreshShares" 106 "FreshShares$Circle" "stolen" "LFreshShares$Loot;" "FreshShares",
  .fieldLinkNest "FreshShares$Orders" 113 "FreshShares$Circle" "holders" "I" "FreshShares",
  .fieldLinkNest "FreshShares" 147 "FreshShares$Circle" "holders" "I" "FreshShares",
  .fieldLinkNest "FreshShares$Orders" 137 "FreshShares$Circle" "threshold" "I" "FreshShares",
  .fieldLinkNest "FreshShares" 87 "FreshShares$Circle" "threshold" "I" "FreshShares",
  .fieldLinkNest "FreshShares$Orders" 157 "FreshShares$Circle" "epoch" "I" "FreshShares",
  .fieldLinkNest "FreshShares" 144 "FreshShares$Circle" "epoch" "I" "FreshShares",
  .fieldLinkNest "FreshShares$Orders" 35 "FreshShares$Circle" "liars" "I" "FreshShares",
  .fieldLinkNest "FreshShares" 74 "FreshShares$Circle" "liars" "I" "FreshShares",
  .fieldLinkNest "FreshShares$Orders" 38 "FreshShares$Circle" "struck" "I" "FreshShares",
  .fieldLinkNest "FreshShares" 77 "FreshShares$Circle" "struck" "I" "FreshShares",
  .fieldLinkNest "FreshShares" 71 "FreshShares$Circle" "ordersDone" "I" "FreshShares",
  .fieldLinkNest "FreshShares" 23 "FreshShares$Orders" "circle" "LFreshShares$Circle;" "FreshShares",
  .methodLinkNest "FreshShares$Script" 37 ⟨"FreshShares", "isMember", "(I)Z"⟩ "FreshShares",
  .methodLinkNest "FreshShares$Orders" 154 ⟨"FreshShares", "isMember", "(I)Z"⟩ "FreshShares"]
theorem k_nests_ok : ∀ w ∈ k_nests, (∃ a i b n d h, w = Cond.fieldLinkNest a i b n d h) ∨ ∃ a i x h, w = Cond.methodLinkNest a i x h := by
  intro w hw
  simp only [k_nests, List.mem_cons, List.not_mem_nil, or_false] at hw
  rcases hw with rfl | rfl | rfl | rfl | rfl | rfl | rfl | rfl | rfl | rfl | rfl | rfl | rfl | rfl | rfl | rfl | rfl | rfl | rfl | rfl | rfl | rfl | rfl | rfl | rfl | rfl | rfl | rfl | rfl | rfl | rfl <;> first | exact Or.inl ⟨_, _, _, _, _, _, rfl⟩ | exact Or.inr ⟨_, _, _, _, rfl⟩
def k_N (U : State) : Prop := (∀ w ∈ k_nests, va_Nw w U) ∧ va_AO "FreshShares$Circle" U
theorem k_N.warm {s U : State} (hW : s.WarmedH U.vm) (h : k_N s) : k_N U := by
  refine ⟨?_, va_AO.moved hW.alike h.2⟩
  intro w hw
  rcases k_nests_ok w hw with ⟨a, i, b, n, d, h', rfl⟩ | ⟨a, i, x, h', rfl⟩
  · exact va_Nw.warmF hW (h.1 _ hw)
  · exact va_Nw.warmM hW (h.1 _ hw)
theorem k_N.same {s U : State} (hv : s.vm = U.vm) (h : k_N s) : k_N U := by
  refine ⟨?_, va_AO.moved (by rw [hv]; exact Vm.Alike.refl U.vm) h.2⟩
  intro w hw
  rcases k_nests_ok w hw with ⟨a, i, b, n, d, h', rfl⟩ | ⟨a, i, x, h', rfl⟩
  · exact va_Nw.same rfl hv (h.1 _ hw)
  · exact va_Nw.same rfl hv (h.1 _ hw)
theorem k_N.at {s : State} (h : k_N s) (k : Nat) {w : Cond} {args : Array Value} (hk : k_nests[k]? = some w) (ho : w.onTables = true) : w.before args s = true := va_Nw.use ho (h.1 w (List.mem_of_getElem? hk))
/-- the addresses of a world -/
def k_wA (wd : k_M → va_W) : Nat → Prop := fun q => ∃ (σ : k_M) (k : Nat) (e : va_E), (wd σ)[k]? = some (q, e)
def k_F (rd : Bool) (Γ : k_C) (wd : k_M → va_W) (H : Heap) (locs : List Loc) : Prop := match rd with
  | true => H = (k_s Γ).heap ∧ locs = []
  | false => va_S (k_wA wd) (k_s Γ).heap H locs
def k_J (Γ : k_C) (R : Room) (nL : Nat) (rd : Bool) (wd : k_M → va_W) (pc : Nat) (lv : List (Nat × Value)) (st : List Value) (σ : k_M) : Prop :=
  ∀ (H : Heap) (locs : List Loc) (ls : Array Slot), va_P (k_D Γ) vwCl (wd σ) H → k_F rd Γ wd H locs → lv_has ls nL lv → W (k_p Γ) (k_l Γ) (k_e Γ) R (k_s Γ) (k_m Γ) (k_ar Γ) (k_be Γ) (k_me Γ) (k_c Γ) H locs 0 0 (k_Q Γ) (F0 (k_m Γ) pc ls st)
/-- the walk's standing facts -/
def k_G (Γ : k_C) (nL : Nat) (own : String) (cc : ByteArray) (Ts : List Cond) (tys : List (ClassId × FieldType)) : Prop :=
  (k_p Γ).tables.exec = Jvm.exec ∧ (k_c Γ).code = cc ∧ (k_c Γ).maxLocals = nL ∧ (k_s Γ).vm.findClass own = some (k_m Γ).cls ∧ (∀ w ∈ Ts, w.before (k_ar Γ) (k_s Γ) = true) ∧ va_K (k_D Γ) vwCl tys (k_s Γ) ∧ k_N (k_s Γ)
section KR
variable {Γ : k_C} {R : Room} {nL : Nat} {rd : Bool} {wd : k_M → va_W} {pc : Nat} {lv : List (Nat × Value)} {st : List Value} {σ : k_M} {own : String} {cc : ByteArray} {Ts : List Cond} {tys : List (ClassId × FieldType)}
theorem r_sub {lv' : List (Nat × Value)} (ks : List Nat) (hk : lv_pick lv' ks = lv) (k : k_J Γ R nL rd wd pc lv st σ) : k_J Γ R nL rd wd pc lv' st σ := fun H locs ls hP hF hl => k H locs ls hP hF (lv_sub hl ks hk)
theorem r_mem {σ' : k_M} (hw : wd σ = wd σ') (k : k_J Γ R nL rd wd pc lv st σ') : k_J Γ R nL rd wd pc lv st σ := fun H locs ls hP hF hl => k H locs ls (hw ▸ hP) hF hl
theorem r_iconst (G : k_G Γ nL own cc Ts tys) {n : Int} (v : Int32) (d : decode cc pc = .ok (.iconst n, 1)) (hv : Int32.ofInt n = v) (k : k_J Γ R nL rd wd (pc + 1) lv (.int v :: st) σ) : k_J Γ R nL rd wd pc lv st σ := fun H locs ls hP hF hl => lv_iconst G.1 G.2.1 d hv (k H locs ls hP hF hl)
theorem r_bipush (G : k_G Γ nL own cc Ts tys) {n : Int} (v : Int32) (d : decode cc pc = .ok (.bipush n, 2)) (hv : (Int8.ofInt n).toInt32 = v) (k : k_J Γ R nL rd wd (pc + 2) lv (.int v :: st) σ) : k_J Γ R nL rd wd pc lv st σ := fun H locs ls hP hF hl => lv_bipush G.1 G.2.1 d hv (k H locs ls hP hF hl)
theorem r_sipush (G : k_G Γ nL own cc Ts tys) {n : Int} (v : Int32) (d : decode cc pc = .ok (.sipush n, 3)) (hv : (Int16.ofInt n).toInt32 = v) (k : k_J Γ R nL rd wd (pc + 3) lv (.int v :: st) σ) : k_J Γ R nL rd wd pc lv st σ := fun H locs ls hP hF hl => lv_sipush G.1 G.2.1 d hv (k H locs ls hP hF hl)
theorem r_ldcw (G : k_G Γ nL own cc Ts tys) {index : Nat} (v : Int32) (hc : (Jvm.Cond.constant own index v).before (k_ar Γ) (k_s Γ) = true) (d : decode cc pc = .ok (.ldc_w index, 3)) (k : k_J Γ R nL rd wd (pc + 3) lv (.int v :: st) σ) : k_J Γ R nL rd wd pc lv st σ := fun H locs ls hP hF hl => lv_ldcw G.1 G.2.1 G.2.2.2.1 hc d (k H locs ls hP hF hl)
theorem r_iload_n (G : k_G Γ nL own cc Ts tys) {n : Fin 4} {i : Nat} {x : Int32} (d : decode cc pc = .ok (.iload_n n, 1)) (j : Nat) (hi : (n : Nat) = i) (hj : lv[j]? = some (i, .int x)) (k : k_J Γ R nL rd wd (pc + 1) lv (.int x :: st) σ) : k_J Γ R nL rd wd pc lv st σ := fun H locs ls hP hF hl => lv_iload_n G.1 G.2.1 d hi (lv_at hl j hj) (k H locs ls hP hF hl)
theorem r_iload (G : k_G Γ nL own cc Ts tys) {i : Nat} {x : Int32} (d : decode cc pc = .ok (.iload i, 2)) (j : Nat) (hj : lv[j]? = some (i, .int x)) (k : k_J Γ R nL rd wd (pc + 2) lv (.int x :: st) σ) : k_J Γ R nL rd wd pc lv st σ := fun H locs ls hP hF hl => lv_iload G.1 G.2.1 d (lv_at hl j hj) (k H locs ls hP hF hl)
theorem r_aload_n (G : k_G Γ nL own cc Ts tys) {n : Fin 4} {i : Nat} {x : Nat} (d : decode cc pc = .ok (.aload_n n, 1)) (j : Nat) (hi : (n : Nat) = i) (hj : lv[j]? = some (i, .ref x)) (k : k_J Γ R nL rd wd (pc + 1) lv (.ref x :: st) σ) : k_J Γ R nL rd wd pc lv st σ := fun H locs ls hP hF hl => lv_aload_n G.1 G.2.1 d hi (lv_at hl j hj) (k H locs ls hP hF hl)
theorem r_aload (G : k_G Γ nL own cc Ts tys) {i : Nat} {x : Nat} (d : decode cc pc = .ok (.aload i, 2)) (j : Nat) (hj : lv[j]? = some (i, .ref x)) (k : k_J Γ R nL rd wd (pc + 2) lv (.ref x :: st) σ) : k_J Γ R nL rd wd pc lv st σ := fun H locs ls hP hF hl => lv_aload G.1 G.2.1 d (lv_at hl j hj) (k H locs ls hP hF hl)
theorem r_istore_n (G : k_G Γ nL own cc Ts tys) {n : Fin 4} {i : Nat} {x : Int32} {lv' : List (Nat × Value)} (d : decode cc pc = .ok (.istore_n n, 1)) (hi : (n : Nat) = i) (hn : i < nL) (hv : (i, Value.int x) :: lv.filter (fun q => !(q.1 == i) && !(q.1 + 1 == i && q.2.category == 2)) = lv') (k : k_J Γ R nL rd wd (pc + 1) lv' st σ) : k_J Γ R nL rd wd pc lv (.int x :: st) σ := fun H locs ls hP hF hl => lv_istore_n G.1 G.2.1 d hi hl hn hv (fun ls hl => k H locs ls hP hF hl)
theorem r_istore (G : k_G Γ nL own cc Ts tys) {i : Nat} {x : Int32} {lv' : List (Nat × Value)} (d : decode cc pc = .ok (.istore i, 2)) (hn : i < nL) (hv : (i, Value.int x) :: lv.filter (fun q => !(q.1 == i) && !(q.1 + 1 == i && q.2.category == 2)) = lv') (k : k_J Γ R nL rd wd (pc + 2) lv' st σ) : k_J Γ R nL rd wd pc lv (.int x :: st) σ := fun H locs ls hP hF hl => lv_istore G.1 G.2.1 d hl hn hv (fun ls hl => k H locs ls hP hF hl)
theorem r_astore_n (G : k_G Γ nL own cc Ts tys) {n : Fin 4} {i : Nat} {x : Nat} {lv' : List (Nat × Value)} (d : decode cc pc = .ok (.astore_n n, 1)) (hi : (n : Nat) = i) (hn : i < nL) (hv : (i, Value.ref x) :: lv.filter (fun q => !(q.1 == i) && !(q.1 + 1 == i && q.2.category == 2)) = lv') (k : k_J Γ R nL rd wd (pc + 1) lv' st σ) : k_J Γ R nL rd wd pc lv (.ref x :: st) σ := fun H locs ls hP hF hl => lv_astore_n G.1 G.2.1 d hi hl hn hv (fun ls hl => k H locs ls hP hF hl)
theorem r_iinc (G : k_G Γ nL own cc Ts tys) {i : Nat} {n : Int} {x w : Int32} {lv' : List (Nat × Value)} (j : Nat) (d : decode cc pc = .ok (.iinc i n, 3)) (hw : Int32.ofInt n = w) (hj : lv[j]? = some (i, .int x)) (hn : i < nL) (hv : (i, Value.int (x + w)) :: lv.filter (fun q => !(q.1 == i) && !(q.1 + 1 == i && q.2.category == 2)) = lv') (k : k_J Γ R nL rd wd (pc + 3) lv' st σ) : k_J Γ R nL rd wd pc lv st σ := fun H locs ls hP hF hl => lv_iinc G.1 G.2.1 d hl hj (by rw [hw]) hn hv (fun ls hl => k H locs ls hP hF hl)
theorem r_iadd (G : k_G Γ nL own cc Ts tys) {x y : Int32} (d : decode cc pc = .ok (.iadd, 1)) (k : k_J Γ R nL rd wd (pc + 1) lv (.int (x + y) :: st) σ) : k_J Γ R nL rd wd pc lv (.int y :: .int x :: st) σ := fun H locs ls hP hF hl => lv_iadd G.1 G.2.1 d (k H locs ls hP hF hl)
theorem r_isub (G : k_G Γ nL own cc Ts tys) {x y : Int32} (d : decode cc pc = .ok (.isub, 1)) (k : k_J Γ R nL rd wd (pc + 1) lv (.int (x - y) :: st) σ) : k_J Γ R nL rd wd pc lv (.int y :: .int x :: st) σ := fun H locs ls hP hF hl => lv_isub G.1 G.2.1 d (k H locs ls hP hF hl)
theorem r_imul (G : k_G Γ nL own cc Ts tys) {x y : Int32} (d : decode cc pc = .ok (.imul, 1)) (k : k_J Γ R nL rd wd (pc + 1) lv (.int (x * y) :: st) σ) : k_J Γ R nL rd wd pc lv (.int y :: .int x :: st) σ := fun H locs ls hP hF hl => lv_imul G.1 G.2.1 d (k H locs ls hP hF hl)
theorem r_iand (G : k_G Γ nL own cc Ts tys) {x y : Int32} (d : decode cc pc = .ok (.iand, 1)) (k : k_J Γ R nL rd wd (pc + 1) lv (.int (x &&& y) :: st) σ) : k_J Γ R nL rd wd pc lv (.int y :: .int x :: st) σ := fun H locs ls hP hF hl => lv_iand G.1 G.2.1 d (k H locs ls hP hF hl)
theorem r_ior (G : k_G Γ nL own cc Ts tys) {x y : Int32} (d : decode cc pc = .ok (.ior, 1)) (k : k_J Γ R nL rd wd (pc + 1) lv (.int (x ||| y) :: st) σ) : k_J Γ R nL rd wd pc lv (.int y :: .int x :: st) σ := fun H locs ls hP hF hl => lv_ior G.1 G.2.1 d (k H locs ls hP hF hl)
theorem r_ixor (G : k_G Γ nL own cc Ts tys) {x y : Int32} (d : decode cc pc = .ok (.ixor, 1)) (k : k_J Γ R nL rd wd (pc + 1) lv (.int (x ^^^ y) :: st) σ) : k_J Γ R nL rd wd pc lv (.int y :: .int x :: st) σ := fun H locs ls hP hF hl => lv_ixor G.1 G.2.1 d (k H locs ls hP hF hl)
theorem r_ishl (G : k_G Γ nL own cc Ts tys) {x y : Int32} (d : decode cc pc = .ok (.ishl, 1)) (k : k_J Γ R nL rd wd (pc + 1) lv (.int (x <<< (y &&& 31)) :: st) σ) : k_J Γ R nL rd wd pc lv (.int y :: .int x :: st) σ := fun H locs ls hP hF hl => lv_ishl G.1 G.2.1 d (k H locs ls hP hF hl)
theorem r_ishr (G : k_G Γ nL own cc Ts tys) {x y : Int32} (d : decode cc pc = .ok (.ishr, 1)) (k : k_J Γ R nL rd wd (pc + 1) lv (.int (x >>> (y &&& 31)) :: st) σ) : k_J Γ R nL rd wd pc lv (.int y :: .int x :: st) σ := fun H locs ls hP hF hl => lv_ishr G.1 G.2.1 d (k H locs ls hP hF hl)
def k_ushr (x y : Int32) : Int32 := (x.toUInt32 >>> (y.toUInt32 &&& Int32.toUInt32 31)).toInt32
theorem r_iushr (G : k_G Γ nL own cc Ts tys) {x y : Int32} (d : decode cc pc = .ok (.iushr, 1)) (k : k_J Γ R nL rd wd (pc + 1) lv (.int (k_ushr x y) :: st) σ) : k_J Γ R nL rd wd pc lv (.int y :: .int x :: st) σ := fun H locs ls hP hF hl => lv_iushr G.1 G.2.1 d rfl (k H locs ls hP hF hl)
def k_rem (x y : Int32) : Int32 := x - x / y * y
theorem r_irem (G : k_G Γ nL own cc Ts tys) {x y : Int32} (hne : ¬ y = 0) (d : decode cc pc = .ok (.irem, 1)) (k : k_J Γ R nL rd wd (pc + 1) lv (.int (k_rem x y) :: st) σ) : k_J Γ R nL rd wd pc lv (.int y :: .int x :: st) σ := fun H locs ls hP hF hl => lv_irem G.1 G.2.1 d hne (k H locs ls hP hF hl)
theorem r_idiv (G : k_G Γ nL own cc Ts tys) {x y : Int32} (hne : ¬ y = 0) (d : decode cc pc = .ok (.idiv, 1)) (k : k_J Γ R nL rd wd (pc + 1) lv (.int (x / y) :: st) σ) : k_J Γ R nL rd wd pc lv (.int y :: .int x :: st) σ := fun H locs ls hP hF hl => lv_idiv G.1 G.2.1 d hne (k H locs ls hP hF hl)
theorem r_dup (G : k_G Γ nL own cc Ts tys) {va : Value} (hva : va.category = 1) (d : decode cc pc = .ok (.dup, 1)) (k : k_J Γ R nL rd wd (pc + 1) lv (va :: va :: st) σ) : k_J Γ R nL rd wd pc lv (va :: st) σ := fun H locs ls hP hF hl => lv_dup G.1 G.2.1 d hva (k H locs ls hP hF hl)
theorem r_pop (G : k_G Γ nL own cc Ts tys) {va : Value} (hva : va.category = 1) (d : decode cc pc = .ok (.pop, 1)) (k : k_J Γ R nL rd wd (pc + 1) lv st σ) : k_J Γ R nL rd wd pc lv (va :: st) σ := fun H locs ls hP hF hl => lv_pop G.1 G.2.1 d hva (k H locs ls hP hF hl)
theorem r_dup2 (G : k_G Γ nL own cc Ts tys) {va vb : Value} (hva : va.category = 1) (hvb : vb.category = 1) (d : decode cc pc = .ok (.dup2, 1)) (k : k_J Γ R nL rd wd (pc + 1) lv (va :: vb :: va :: vb :: st) σ) : k_J Γ R nL rd wd pc lv (va :: vb :: st) σ := fun H locs ls hP hF hl => lv_dup2_11 G.1 G.2.1 d hva hvb (k H locs ls hP hF hl)
theorem r_min (G : k_G Γ nL own cc Ts tys) {x y : Int32} {index : Nat} (hlink : (Cond.methodLink own index Lib.Math.min.name).before (k_ar Γ) (k_s Γ) = true) (hstat : (Cond.static Lib.Math.min.name).before (k_ar Γ) (k_s Γ) = true) (hini : (Cond.initialized "java/lang/Math").before (k_ar Γ) (k_s Γ) = true) (hcode : (Cond.code Lib.Math.min.name Lib.Math.min.code 2 (some .int)).before (k_ar Γ) (k_s Γ) = true) (hfr : 1 ≤ R.frames) (hlo : (st.map fun v => v.category).sum + 13 ≤ R.locals) (d : decode cc pc = .ok (.invokestatic index, 3)) (k : k_J Γ R nL rd wd (pc + 3) lv (.int (if y < x then y else x) :: st) σ) : k_J Γ R nL rd wd pc lv (.int y :: .int x :: st) σ :=
  fun H locs ls hP hF hl => va_mmin G.1 G.2.1 (G.2.2.1.trans hl.1.symm) G.2.2.2.1 hlink hstat hini hcode hfr hlo (Nat.zero_le _) (Nat.zero_le _) d (k H locs ls hP hF hl)
theorem r_goto (G : k_G Γ nL own cc Ts tys) {off : Int} (tgt : Nat) (d : decode cc pc = .ok (.goto off, 3)) (ht : (pc : Int) + off = (tgt : Int)) (k : k_J Γ R nL rd wd tgt lv st σ) : k_J Γ R nL rd wd pc lv st σ := fun H locs ls hP hF hl => lv_goto G.1 G.2.1 d ht (k H locs ls hP hF hl)
theorem r_if_eq (G : k_G Γ nL own cc Ts tys) {x : Int32} {off : Int} (tgt : Nat) (d : decode cc pc = .ok (.ifCond .eq off, 3)) (ht : (pc : Int) + off = (tgt : Int)) (kt : x = 0 → k_J Γ R nL rd wd tgt lv st σ) (kf : ¬ x = 0 → k_J Γ R nL rd wd (pc + 3) lv st σ) : k_J Γ R nL rd wd pc lv (.int x :: st) σ := fun H locs ls hP hF hl => lv_if_eq G.1 G.2.1 d ht (fun hc => kt hc H locs ls hP hF hl) (fun hc => kf hc H locs ls hP hF hl)
theorem r_icmp_eq (G : k_G Γ nL own cc Ts tys) {x y : Int32} {off : Int} (tgt : Nat) (d : decode cc pc = .ok (.if_icmp .eq off, 3)) (ht : (pc : Int) + off = (tgt : Int)) (kt : x = y → k_J Γ R nL rd wd tgt lv st σ) (kf : ¬ x = y → k_J Γ R nL rd wd (pc + 3) lv st σ) : k_J Γ R nL rd wd pc lv (.int y :: .int x :: st) σ := fun H locs ls hP hF hl => lv_icmp_eq G.1 G.2.1 d ht (fun hc => kt hc H locs ls hP hF hl) (fun hc => kf hc H locs ls hP hF hl)
theorem r_if_ne (G : k_G Γ nL own cc Ts tys) {x : Int32} {off : Int} (tgt : Nat) (d : decode cc pc = .ok (.ifCond .ne off, 3)) (ht : (pc : Int) + off = (tgt : Int)) (kt : ¬ x = 0 → k_J Γ R nL rd wd tgt lv st σ) (kf : x = 0 → k_J Γ R nL rd wd (pc + 3) lv st σ) : k_J Γ R nL rd wd pc lv (.int x :: st) σ := fun H locs ls hP hF hl => lv_if_ne G.1 G.2.1 d ht (fun hc => kt hc H locs ls hP hF hl) (fun hc => kf hc H locs ls hP hF hl)
theorem r_icmp_ne (G : k_G Γ nL own cc Ts tys) {x y : Int32} {off : Int} (tgt : Nat) (d : decode cc pc = .ok (.if_icmp .ne off, 3)) (ht : (pc : Int) + off = (tgt : Int)) (kt : ¬ x = y → k_J Γ R nL rd wd tgt lv st σ) (kf : x = y → k_J Γ R nL rd wd (pc + 3) lv st σ) : k_J Γ R nL rd wd pc lv (.int y :: .int x :: st) σ := fun H locs ls hP hF hl => lv_icmp_ne G.1 G.2.1 d ht (fun hc => kt hc H locs ls hP hF hl) (fun hc => kf hc H locs ls hP hF hl)
theorem r_if_lt (G : k_G Γ nL own cc Ts tys) {x : Int32} {off : Int} (tgt : Nat) (d : decode cc pc = .ok (.ifCond .lt off, 3)) (ht : (pc : Int) + off = (tgt : Int)) (kt : x < 0 → k_J Γ R nL rd wd tgt lv st σ) (kf : ¬ x < 0 → k_J Γ R nL rd wd (pc + 3) lv st σ) : k_J Γ R nL rd wd pc lv (.int x :: st) σ := fun H locs ls hP hF hl => lv_if_lt G.1 G.2.1 d ht (fun hc => kt hc H locs ls hP hF hl) (fun hc => kf hc H locs ls hP hF hl)
theorem r_icmp_lt (G : k_G Γ nL own cc Ts tys) {x y : Int32} {off : Int} (tgt : Nat) (d : decode cc pc = .ok (.if_icmp .lt off, 3)) (ht : (pc : Int) + off = (tgt : Int)) (kt : x < y → k_J Γ R nL rd wd tgt lv st σ) (kf : ¬ x < y → k_J Γ R nL rd wd (pc + 3) lv st σ) : k_J Γ R nL rd wd pc lv (.int y :: .int x :: st) σ := fun H locs ls hP hF hl => lv_icmp_lt G.1 G.2.1 d ht (fun hc => kt hc H locs ls hP hF hl) (fun hc => kf hc H locs ls hP hF hl)
theorem r_if_ge (G : k_G Γ nL own cc Ts tys) {x : Int32} {off : Int} (tgt : Nat) (d : decode cc pc = .ok (.ifCond .ge off, 3)) (ht : (pc : Int) + off = (tgt : Int)) (kt : 0 ≤ x → k_J Γ R nL rd wd tgt lv st σ) (kf : ¬ 0 ≤ x → k_J Γ R nL rd wd (pc + 3) lv st σ) : k_J Γ R nL rd wd pc lv (.int x :: st) σ := fun H locs ls hP hF hl => lv_if_ge G.1 G.2.1 d ht (fun hc => kt hc H locs ls hP hF hl) (fun hc => kf hc H locs ls hP hF hl)
theorem r_icmp_ge (G : k_G Γ nL own cc Ts tys) {x y : Int32} {off : Int} (tgt : Nat) (d : decode cc pc = .ok (.if_icmp .ge off, 3)) (ht : (pc : Int) + off = (tgt : Int)) (kt : y ≤ x → k_J Γ R nL rd wd tgt lv st σ) (kf : ¬ y ≤ x → k_J Γ R nL rd wd (pc + 3) lv st σ) : k_J Γ R nL rd wd pc lv (.int y :: .int x :: st) σ := fun H locs ls hP hF hl => lv_icmp_ge G.1 G.2.1 d ht (fun hc => kt hc H locs ls hP hF hl) (fun hc => kf hc H locs ls hP hF hl)
theorem r_if_gt (G : k_G Γ nL own cc Ts tys) {x : Int32} {off : Int} (tgt : Nat) (d : decode cc pc = .ok (.ifCond .gt off, 3)) (ht : (pc : Int) + off = (tgt : Int)) (kt : 0 < x → k_J Γ R nL rd wd tgt lv st σ) (kf : ¬ 0 < x → k_J Γ R nL rd wd (pc + 3) lv st σ) : k_J Γ R nL rd wd pc lv (.int x :: st) σ := fun H locs ls hP hF hl => lv_if_gt G.1 G.2.1 d ht (fun hc => kt hc H locs ls hP hF hl) (fun hc => kf hc H locs ls hP hF hl)
theorem r_icmp_gt (G : k_G Γ nL own cc Ts tys) {x y : Int32} {off : Int} (tgt : Nat) (d : decode cc pc = .ok (.if_icmp .gt off, 3)) (ht : (pc : Int) + off = (tgt : Int)) (kt : y < x → k_J Γ R nL rd wd tgt lv st σ) (kf : ¬ y < x → k_J Γ R nL rd wd (pc + 3) lv st σ) : k_J Γ R nL rd wd pc lv (.int y :: .int x :: st) σ := fun H locs ls hP hF hl => lv_icmp_gt G.1 G.2.1 d ht (fun hc => kt hc H locs ls hP hF hl) (fun hc => kf hc H locs ls hP hF hl)
theorem r_if_le (G : k_G Γ nL own cc Ts tys) {x : Int32} {off : Int} (tgt : Nat) (d : decode cc pc = .ok (.ifCond .le off, 3)) (ht : (pc : Int) + off = (tgt : Int)) (kt : x ≤ 0 → k_J Γ R nL rd wd tgt lv st σ) (kf : ¬ x ≤ 0 → k_J Γ R nL rd wd (pc + 3) lv st σ) : k_J Γ R nL rd wd pc lv (.int x :: st) σ := fun H locs ls hP hF hl => lv_if_le G.1 G.2.1 d ht (fun hc => kt hc H locs ls hP hF hl) (fun hc => kf hc H locs ls hP hF hl)
theorem r_icmp_le (G : k_G Γ nL own cc Ts tys) {x y : Int32} {off : Int} (tgt : Nat) (d : decode cc pc = .ok (.if_icmp .le off, 3)) (ht : (pc : Int) + off = (tgt : Int)) (kt : x ≤ y → k_J Γ R nL rd wd tgt lv st σ) (kf : ¬ x ≤ y → k_J Γ R nL rd wd (pc + 3) lv st σ) : k_J Γ R nL rd wd pc lv (.int y :: .int x :: st) σ := fun H locs ls hP hF hl => lv_icmp_le G.1 G.2.1 d ht (fun hc => kt hc H locs ls hP hF hl) (fun hc => kf hc H locs ls hP hF hl)
theorem r_get (G : k_G Γ nL own cc Ts tys) {ref C : String} {T : u_T} {N ci index ad : Nat} {fs : List Value} {v : Value} (hin : ∀ w ∈ u_ws C T N, w ∈ Ts) (q0 k : Nat) (he : (wd σ)[q0]? = some (ad, .inr (ci, fs))) (hc : vwCl[ci]? = some (C, T, N)) (hk : k < N) (hlink : (Cond.fieldLink own index ref (T k).2.1 (T k).2.2.1).before (k_ar Γ) (k_s Γ) = true) (hsame : (T k).1 = ref) (hv : fs[k]? = some v) (d : decode cc pc = .ok (.getfield index, 3)) (kk : k_J Γ R nL rd wd (pc + 3) lv (v :: st) σ) : k_J Γ R nL rd wd pc lv (.ref ad :: st) σ :=
  fun H locs ls hP hF hl => va_get G.1 G.2.1 G.2.2.2.2.1 hin G.2.2.2.1 G.2.2.2.2.2.1 hP q0 he hc k hk hlink (fun x h => hsame ▸ h) hv d (kk H locs ls hP hF hl)
theorem r_getN (G : k_G Γ nL own cc Ts tys) {ref C host : String} {T : u_T} {N ci index ad : Nat} {fs : List Value} {v : Value} (hin : ∀ w ∈ u_ws C T N, w ∈ Ts) (q0 k : Nat) (he : (wd σ)[q0]? = some (ad, .inr (ci, fs))) (hc : vwCl[ci]? = some (C, T, N)) (hk : k < N) (hlink : (Cond.fieldLinkNest own index ref (T k).2.1 (T k).2.2.1 host).before (k_ar Γ) (k_s Γ) = true) (hsame : (T k).1 = ref) (hv : fs[k]? = some v) (d : decode cc pc = .ok (.getfield index, 3)) (kk : k_J Γ R nL rd wd (pc + 3) lv (v :: st) σ) : k_J Γ R nL rd wd pc lv (.ref ad :: st) σ :=
  fun H locs ls hP hF hl => va_getN G.1 G.2.1 G.2.2.2.2.1 hin G.2.2.2.1 G.2.2.2.2.2.1 hP q0 he hc k hk hlink (fun x h => hsame ▸ h) hv d (kk H locs ls hP hF hl)
theorem r_iald (G : k_G Γ nL own cc Ts tys) (q0 t0 : Nat) {ad : Nat} {cA : ClassId} {n : Nat} {f : Nat → Int32} {i : Int32} (ha : (wd σ)[q0]? = some (ad, .inl (cA, n, .inl f))) (ht : tys[t0]? = some (cA, .int)) (hin : vp_in i n) (d : decode cc pc = .ok (.iaload, 1)) (kk : k_J Γ R nL rd wd (pc + 1) lv (.int (f i.toNatClampNeg) :: st) σ) : k_J Γ R nL rd wd pc lv (.int i :: .ref ad :: st) σ :=
  fun H locs ls hP hF hl => va_iald G.1 G.2.1 G.2.2.2.2.2.1 hP q0 t0 ha ht hin d (kk H locs ls hP hF hl)
theorem r_zald (G : k_G Γ nL own cc Ts tys) (q0 t0 : Nat) {ad : Nat} {cA : ClassId} {n : Nat} {f : Nat → Int32} {i : Int32} (ha : (wd σ)[q0]? = some (ad, .inl (cA, n, .inl f))) (ht : tys[t0]? = some (cA, .boolean)) (hin : vp_in i n) (d : decode cc pc = .ok (.baload, 1)) (kk : k_J Γ R nL rd wd (pc + 1) lv (.int (f i.toNatClampNeg) :: st) σ) : k_J Γ R nL rd wd pc lv (.int i :: .ref ad :: st) σ :=
  fun H locs ls hP hF hl => va_zald G.1 G.2.1 G.2.2.2.2.2.1 hP q0 t0 ha ht hin d (kk H locs ls hP hF hl)
theorem r_aald (G : k_G Γ nL own cc Ts tys) (q0 t0 : Nat) {ad : Nat} {cA : ClassId} {C : String} {n : Nat} {f : Nat → Option Nat} {i : Int32} (ha : (wd σ)[q0]? = some (ad, .inl (cA, n, .inr (.inr (.inr (.inr f)))))) (ht : tys[t0]? = some (cA, .object C)) (hin : vp_in i n) (d : decode cc pc = .ok (.aaload, 1)) (kk : k_J Γ R nL rd wd (pc + 1) lv (va_rf (f i.toNatClampNeg) :: st) σ) : k_J Γ R nL rd wd pc lv (.int i :: .ref ad :: st) σ :=
  fun H locs ls hP hF hl => va_aldq G.1 G.2.1 G.2.2.2.2.2.1 hP q0 t0 ha ht hin d (kk H locs ls hP hF hl)
theorem r_ifnull (G : k_G Γ nL own cc Ts tys) {o : Option Nat} {off : Int} (tgt : Nat) (d : decode cc pc = .ok (.ifnull off, 3)) (ht : (pc : Int) + off = (tgt : Int)) (kt : o = none → k_J Γ R nL rd wd tgt lv st σ) (kf : ∀ y, o = some y → k_J Γ R nL rd wd (pc + 3) lv st σ) : k_J Γ R nL rd wd pc lv (va_rf o :: st) σ := by
  intro H locs ls hP hF hl
  cases o with
  | none => exact lv_ifnullN G.1 G.2.1 d ht (kt rfl H locs ls hP hF hl)
  | some y => exact lv_ifnull G.1 G.2.1 d (kf y rfl H locs ls hP hF hl)
theorem r_ifnonnull (G : k_G Γ nL own cc Ts tys) {o : Option Nat} {off : Int} (tgt : Nat) (d : decode cc pc = .ok (.ifnonnull off, 3)) (ht : (pc : Int) + off = (tgt : Int)) (kt : o = none → k_J Γ R nL rd wd (pc + 3) lv st σ) (kf : ∀ y, o = some y → k_J Γ R nL rd wd tgt lv st σ) : k_J Γ R nL rd wd pc lv (va_rf o :: st) σ := by
  intro H locs ls hP hF hl
  cases o with
  | none => exact lv_ifnonnullN G.1 G.2.1 d (kt rfl H locs ls hP hF hl)
  | some y => exact lv_ifnonnull G.1 G.2.1 d ht (kf y rfl H locs ls hP hF hl)
theorem r_alen (G : k_G Γ nL own cc Ts tys) (q0 t0 : Nat) {ad : Nat} {cA : ClassId} {x : vp_A} {ty : FieldType} (v : Int32) (ha : (wd σ)[q0]? = some (ad, .inl (cA, x))) (ht : tys[t0]? = some (cA, ty)) (hv : Int32.ofNat x.1 = v) (d : decode cc pc = .ok (.arraylength, 1)) (kk : k_J Γ R nL rd wd (pc + 1) lv (.int v :: st) σ) : k_J Γ R nL rd wd pc lv (.ref ad :: st) σ :=
  fun H locs ls hP hF hl => va_alen G.1 G.2.1 G.2.2.2.2.2.1 hP q0 t0 ha ht hv d (kk H locs ls hP hF hl)
theorem r_put (G : k_G Γ nL own cc Ts tys) (hD : ∀ σ, va_D (k_wA wd) (wd σ)) {ref C : String} {T : u_T} {N ci index ad : Nat} {fs : List Value} {v : Value} {ty : FieldType} (ty0 : Nat → FieldType) (hty : ∀ k, k < N → parseFieldDescriptor (T k).2.2.1 = some (ty0 k)) (hnm : ∀ a, a < N → ∀ b, b < N → a ≠ b → (T a).2.1 ≠ (T b).2.1) (hin : ∀ w ∈ u_ws C T N, w ∈ Ts) (q0 k : Nat) (he : (wd σ)[q0]? = some (ad, .inr (ci, fs))) (hc : vwCl[ci]? = some (C, T, N)) (hk : k < N) (hlink : (Cond.fieldLink own index ref (T k).2.1 (T k).2.2.1).before (k_ar Γ) (k_s Γ) = true) (hsame : (T k).1 = ref) (hfin : (T k).2.2.2 = false) (hd : parseFieldDescriptor (T k).2.2.1 = some ty) (hn : narrow ty v = v) (hfit : fits ty v = true) (hl0 : k < fs.length) (σ' : k_M) (hw : (wd σ).set q0 (ad, .inr (ci, fs.set k v)) = wd σ') (d : decode cc pc = .ok (.putfield index, 3)) (kk : k_J Γ R nL false wd (pc + 3) lv st σ') : k_J Γ R nL false wd pc lv (v :: .ref ad :: st) σ :=
  fun H locs ls hP hF hl => va_put G.1 G.2.1 G.2.2.2.2.1 hin ty0 hty hnm G.2.2.2.1 G.2.2.2.2.2.1 hP (hD σ) hF q0 he hc k hk hlink (fun x h => hsame ▸ h) hfin hd hn hfit hl0 d (fun H1 locs1 h1 _ h3 => kk H1 locs1 ls (hw ▸ h1) h3 hl)
theorem r_putN (G : k_G Γ nL own cc Ts tys) (hD : ∀ σ, va_D (k_wA wd) (wd σ)) {ref C host : String} {T : u_T} {N ci index ad : Nat} {fs : List Value} {v : Value} {ty : FieldType} (ty0 : Nat → FieldType) (hty : ∀ k, k < N → parseFieldDescriptor (T k).2.2.1 = some (ty0 k)) (hnm : ∀ a, a < N → ∀ b, b < N → a ≠ b → (T a).2.1 ≠ (T b).2.1) (hin : ∀ w ∈ u_ws C T N, w ∈ Ts) (q0 k : Nat) (he : (wd σ)[q0]? = some (ad, .inr (ci, fs))) (hc : vwCl[ci]? = some (C, T, N)) (hk : k < N) (hlink : (Cond.fieldLinkNest own index ref (T k).2.1 (T k).2.2.1 host).before (k_ar Γ) (k_s Γ) = true) (hsame : (T k).1 = ref) (hfin : (T k).2.2.2 = false) (hd : parseFieldDescriptor (T k).2.2.1 = some ty) (hn : narrow ty v = v) (hfit : fits ty v = true) (hl0 : k < fs.length) (σ' : k_M) (hw : (wd σ).set q0 (ad, .inr (ci, fs.set k v)) = wd σ') (d : decode cc pc = .ok (.putfield index, 3)) (kk : k_J Γ R nL false wd (pc + 3) lv st σ') : k_J Γ R nL false wd pc lv (v :: .ref ad :: st) σ :=
  fun H locs ls hP hF hl => va_putN G.1 G.2.1 G.2.2.2.2.1 hin ty0 hty hnm G.2.2.2.1 G.2.2.2.2.2.1 hP (hD σ) hF q0 he hc k hk hlink (fun x h => hsame ▸ h) hfin hd hn hfit hl0 d (fun H1 locs1 h1 _ h3 => kk H1 locs1 ls (hw ▸ h1) h3 hl)
theorem r_iast (G : k_G Γ nL own cc Ts tys) (hD : ∀ σ, va_D (k_wA wd) (wd σ)) (q0 t0 : Nat) {ad : Nat} {cA : ClassId} {n : Nat} {f : Nat → Int32} {i x : Int32} (ha : (wd σ)[q0]? = some (ad, .inl (cA, n, .inl f))) (ht : tys[t0]? = some (cA, .int)) (hin : vp_in i n) (σ' : k_M) (hw : (wd σ).set q0 (ad, .inl (cA, n, .inl (upd f i.toNatClampNeg x))) = wd σ') (d : decode cc pc = .ok (.iastore, 1)) (kk : k_J Γ R nL false wd (pc + 1) lv st σ') : k_J Γ R nL false wd pc lv (.int x :: .int i :: .ref ad :: st) σ :=
  fun H locs ls hP hF hl => va_iast G.1 G.2.1 G.2.2.2.2.2.1 hP (hD σ) hF q0 t0 ha ht hin d (fun H1 locs1 h1 _ h3 => kk H1 locs1 ls (hw ▸ h1) h3 hl)
theorem r_zast (G : k_G Γ nL own cc Ts tys) (hD : ∀ σ, va_D (k_wA wd) (wd σ)) (q0 t0 : Nat) {ad : Nat} {cA : ClassId} {n : Nat} {f : Nat → Int32} {i x : Int32} (ha : (wd σ)[q0]? = some (ad, .inl (cA, n, .inl f))) (ht : tys[t0]? = some (cA, .boolean)) (hin : vp_in i n) (hx : vp_nar .boolean x = x) (σ' : k_M) (hw : (wd σ).set q0 (ad, .inl (cA, n, .inl (upd f i.toNatClampNeg x))) = wd σ') (d : decode cc pc = .ok (.bastore, 1)) (kk : k_J Γ R nL false wd (pc + 1) lv st σ') : k_J Γ R nL false wd pc lv (.int x :: .int i :: .ref ad :: st) σ :=
  fun H locs ls hP hF hl => va_zast G.1 G.2.1 G.2.2.2.2.2.1 hP (hD σ) hF q0 t0 ha ht hin d (fun H1 locs1 h1 _ h3 => kk H1 locs1 ls (hw ▸ (hx ▸ h1)) h3 hl)
theorem r_copy (G : k_G Γ nL own cc Ts tys) (hD : ∀ σ, va_D (k_wA wd) (wd σ)) (q0 q1 : Nat) {a0 a1 : Nat} {cA : ClassId} {n0 n1 index : Nat} {f g : Nat → Int32} {sp dp n : Int32} (ha0 : (wd σ)[q0]? = some (a0, .inl (cA, n0, .inl f))) (ha1 : (wd σ)[q1]? = some (a1, .inl (cA, n1, .inl g))) (ht0 : tys[0]? = some (cA, .int)) (ht1 : tys[0]? = some (cA, .int)) (hlink : (Cond.methodLink own index arraycopyName).before (k_ar Γ) (k_s Γ) = true) (hnat : (Cond.native arraycopyName).before (k_ar Γ) (k_s Γ) = true) (hstat : (Cond.static arraycopyName).before (k_ar Γ) (k_s Γ) = true) (hini : (Cond.initialized "java/lang/System").before (k_ar Γ) (k_s Γ) = true) (h1 : ¬ sp < 0) (h2 : ¬ dp < 0) (h3 : ¬ n < 0) (h4 : sp.toNatClampNeg + n.toNatClampNeg ≤ n0) (h5 : dp.toNatClampNeg + n.toNatClampNeg ≤ n1) (hfr : 1 ≤ R.frames) (hlo : (st.map fun v => v.category).sum + (nativeFrameWords "java/lang/System" "arraycopy" 5 + 11) ≤ R.locals) (σ' : k_M) (hw : (wd σ).set q1 (a1, .inl (cA, n1, .inl (va_cpy f g sp.toNatClampNeg dp.toNatClampNeg n.toNatClampNeg))) = wd σ') (d : decode cc pc = .ok (.invokestatic index, 3)) (kk : k_J Γ R nL false wd (pc + 3) lv st σ') : k_J Γ R nL false wd pc lv (.int n :: .int dp :: .ref a1 :: .int sp :: .ref a0 :: st) σ :=
  fun H locs ls hP hF hl => va_copyi G.1 G.2.1 (G.2.2.1.trans hl.1.symm) G.2.2.2.1 hlink hnat hstat hini G.2.2.2.2.2.1 hP (hD σ) hF q0 q1 0 0 ha0 ha1 ht0 ht1 rfl h1 h2 h3 h4 h5 (fun _ _ => rfl) hfr hlo d (fun H1 locs1 h1 _ h3 => kk H1 locs1 ls (hw ▸ h1) h3 hl)
theorem r_lookup (G : k_G Γ nL own cc Ts tys) {dflt : Int} {ps : Array (Int × Int)} {len : Nat} {x : Int32} {off : Int} (tgt : Nat) (d : decode cc pc = .ok (.lookupswitch dflt ps, len)) (hp : (ps.toList.zip (ps.toList.drop 1)).all (fun (a, next) => a.1 < next.1) = true) (ho : Op.lookupswitch.offset ps.toList dflt x.toInt = off) (ht : (pc : Int) + off = (tgt : Int)) (k : k_J Γ R nL rd wd tgt lv st σ) : k_J Γ R nL rd wd pc lv (.int x :: st) σ := fun H locs ls hP hF hl => lv_lookup G.1 G.2.1 d hp ho ht (k H locs ls hP hF hl)
theorem r_tableOut (G : k_G Γ nL own cc Ts tys) {dflt lo hi : Int} {offs : Array Int} {len : Nat} {x : Int32} (tgt : Nat) (d : decode cc pc = .ok (.tableswitch dflt lo hi offs, len)) (h : x.toInt < lo ∨ hi < x.toInt) (ht : (pc : Int) + dflt = (tgt : Int)) (k : k_J Γ R nL rd wd tgt lv st σ) : k_J Γ R nL rd wd pc lv (.int x :: st) σ := fun H locs ls hP hF hl => lv_tableOut G.1 G.2.1 d h ht (k H locs ls hP hF hl)
theorem r_tableIn (G : k_G Γ nL own cc Ts tys) {dflt lo hi : Int} {offs : Array Int} {len : Nat} {x : Int32} {off : Int} (tgt : Nat) (d : decode cc pc = .ok (.tableswitch dflt lo hi offs, len)) (z : Int) (hz : x.toInt = z) (h1 : ¬ z < lo) (h2 : ¬ hi < z) (ho : offs[(z - lo).toNat]? = some off) (ht : (pc : Int) + off = (tgt : Int)) (k : k_J Γ R nL rd wd tgt lv st σ) : k_J Γ R nL rd wd pc lv (.int x :: st) σ := fun H locs ls hP hF hl => lv_tableIn G.1 G.2.1 d (by rw [hz]; exact h1) (by rw [hz]; exact h2) (by rw [hz]; exact ho) ht (k H locs ls hP hF hl)
/-- contracts: what a reader, a writer asks of its start -/
def k_PR (D : va_G) (tys : List (ClassId × FieldType)) (wd : k_M → va_W) (σ : k_M) (av : List Value) : Array Value → State → Prop := va_Pc av (fun U => va_P D vwCl (wd σ) U.heap ∧ va_K D vwCl tys U ∧ k_N U)
def k_PW (D : va_G) (tys : List (ClassId × FieldType)) (wd : k_M → va_W) (σ : k_M) (av : List Value) : Array Value → State → Prop := va_Pc av (fun U => va_P D vwCl (wd σ) U.heap ∧ va_K D vwCl tys U ∧ k_N U ∧ ∀ σ, va_D (fun _ => True) (wd σ))
def k_Qi (D : va_G) (wd : k_M → va_W) (Q : Int32 → k_M → Prop) : Array Value → State → Outcome → State → Prop := fun _ s0 oc t => ∃ (r : Int32) (σ' : k_M), oc = .returned (some (.int r)) ∧ Q r σ' ∧ va_P D vwCl (wd σ') t.heap ∧ va_F (k_wA wd) s0 t
def k_Qv (D : va_G) (wd : k_M → va_W) (Q : k_M → Prop) : Array Value → State → Outcome → State → Prop := fun _ s0 oc t => ∃ (σ' : k_M), oc = .returned none ∧ Q σ' ∧ va_P D vwCl (wd σ') t.heap ∧ va_F (k_wA wd) s0 t
theorem k_PR_blind {D : va_G} {tys : List (ClassId × FieldType)} {wd : k_M → va_W} {σ : k_M} {av : List Value} : FrameBlind (k_PR D tys wd σ av) := fun a U g mk q => by
  obtain ⟨q0, qP, qK, qN⟩ := q
  exact ⟨q0, qP, va_K.moved (u := U) (U := U.calling g mk a) (Vm.Alike.refl U.vm) qK, k_N.same (s := U) (U := U.calling g mk a) rfl qN⟩
theorem k_PW_blind {D : va_G} {tys : List (ClassId × FieldType)} {wd : k_M → va_W} {σ : k_M} {av : List Value} : FrameBlind (k_PW D tys wd σ av) := fun a U g mk q => by
  obtain ⟨q0, qP, qK, qN, qD⟩ := q
  exact ⟨q0, qP, va_K.moved (u := U) (U := U.calling g mk a) (Vm.Alike.refl U.vm) qK, k_N.same (s := U) (U := U.calling g mk a) rfl qN, qD⟩
/-- the ends -/
def k_ER (Γ : k_C) (Q' : Int32 → Prop) (ret : Option FieldType) : Prop := k_Q Γ = MQ (k_be Γ) (vp_Si Q') (k_ar Γ) (k_s Γ) 0 0 (fun _ => False) ∧ (k_me Γ).sig.returnType = ret ∧ (k_me Γ).locks = false
def k_EW (Γ : k_C) (wd : k_M → va_W) (Qc : Array Value → State → Outcome → State → Prop) (ret : Option FieldType) : Prop := k_Q Γ = MQ (k_be Γ) Qc (k_ar Γ) (k_s Γ) 0 0 (k_wA wd) ∧ (k_me Γ).sig.returnType = ret ∧ (k_me Γ).locks = false
theorem r_iretR (G : k_G Γ nL own cc Ts tys) {Q' : Int32 → Prop} (E : k_ER Γ Q' (some .int)) {v : Int32} (d : decode cc pc = .ok (.ireturn, 1)) (h : Q' v) : k_J Γ R nL true wd pc lv [.int v] σ := by
  intro H locs ls hP hF hl
  obtain ⟨hQ, hr, hlk⟩ := E
  obtain ⟨rfl, rfl⟩ := hF
  rw [hQ]
  exact W.iret G.1 G.2.1 hr (fun t ht hW => ⟨v, rfl, h, ht⟩) (fun q hq => by cases hq) d hlk
theorem r_zretR (G : k_G Γ nL own cc Ts tys) {Q' : Int32 → Prop} (E : k_ER Γ Q' (some .boolean)) {v : Int32} (hn : narrow .boolean (.int v) = .int v) (d : decode cc pc = .ok (.ireturn, 1)) (h : Q' v) : k_J Γ R nL true wd pc lv [.int v] σ := by
  intro H locs ls hP hF hl
  obtain ⟨hQ, hr, hlk⟩ := E
  obtain ⟨rfl, rfl⟩ := hF
  rw [hQ]
  exact W.zret G.1 G.2.1 hr hn (fun t ht hW => ⟨v, rfl, h, ht⟩) (fun q hq => by cases hq) d hlk
theorem r_iretW (G : k_G Γ nL own cc Ts tys) {Q' : Int32 → k_M → Prop} (E : k_EW Γ wd (k_Qi (k_D Γ) wd Q') (some .int)) {v : Int32} (d : decode cc pc = .ok (.ireturn, 1)) (h : Q' v σ) : k_J Γ R nL false wd pc lv [.int v] σ := by
  intro H locs ls hP hF hl
  obtain ⟨hQ, hr, hlk⟩ := E
  rw [hQ]
  exact W.iret G.1 G.2.1 hr (fun t ht hW => ⟨v, σ, rfl, h, by rw [ht]; exact hP, va_S.F hF ht⟩) hF.2.2 d hlk
theorem r_zretW (G : k_G Γ nL own cc Ts tys) {Q' : Int32 → k_M → Prop} (E : k_EW Γ wd (k_Qi (k_D Γ) wd Q') (some .boolean)) {v : Int32} (hn : narrow .boolean (.int v) = .int v) (d : decode cc pc = .ok (.ireturn, 1)) (h : Q' v σ) : k_J Γ R nL false wd pc lv [.int v] σ := by
  intro H locs ls hP hF hl
  obtain ⟨hQ, hr, hlk⟩ := E
  rw [hQ]
  exact W.zret G.1 G.2.1 hr hn (fun t ht hW => ⟨v, σ, rfl, h, by rw [ht]; exact hP, va_S.F hF ht⟩) hF.2.2 d hlk
theorem r_vretW (G : k_G Γ nL own cc Ts tys) {Q' : k_M → Prop} (E : k_EW Γ wd (k_Qv (k_D Γ) wd Q') none) (d : decode cc pc = .ok (.return_, 1)) (h : Q' σ) : k_J Γ R nL false wd pc lv [] σ := by
  intro H locs ls hP hF hl
  obtain ⟨hQ, hr, hlk⟩ := E
  rw [hQ]
  exact W.vret G.1 G.2.1 hr (fun t ht hW => ⟨σ, rfl, h, by rw [ht]; exact hP, va_S.F hF ht⟩) hF.2.2 d hlk
/-- calls of readers: the heap stays -/
theorem k_PR_S (G : k_G Γ nL own cc Ts tys) {wd' : k_M → va_W} {σ' : k_M} {H : Heap} {tys' : List (ClassId × FieldType)} {av : List Value} (ts : List Nat) (hts : ts.filterMap (fun i => tys[i]?) = tys') (hP : va_P (k_D Γ) vwCl (wd' σ') H) : PreS (k_s Γ) H (k_PR (k_D Γ) tys' wd' σ' av) av :=
  ⟨k_PR_blind, fun U hU hW => ⟨rfl, by rw [hU]; exact hP, va_K.moved hW.alike (G.2.2.2.2.2.1.sub ts hts), k_N.warm hW G.2.2.2.2.2.2⟩⟩
theorem k_PW_S (G : k_G Γ nL own cc Ts tys) {wd' : k_M → va_W} {σ' : k_M} {H : Heap} {tys' : List (ClassId × FieldType)} {av : List Value} (hD : ∀ σ, va_D (k_wA wd') (wd' σ)) (ts : List Nat) (hts : ts.filterMap (fun i => tys[i]?) = tys') (hP : va_P (k_D Γ) vwCl (wd' σ') H) : PreS (k_s Γ) H (k_PW (k_D Γ) tys' wd' σ' av) av :=
  ⟨k_PW_blind, fun U hU hW => ⟨rfl, by rw [hU]; exact hP, va_K.moved hW.alike (G.2.2.2.2.2.1.sub ts hts), k_N.warm hW G.2.2.2.2.2.2, fun σ => (hD σ).weaken (fun _ _ _ _ => trivial)⟩⟩
theorem r_cR {rest : List Value} {Q' : Int32 → Prop} {a : Array Value}
    (hr : ∀ (H : Heap) (locs : List Loc) (ls : Array Slot), va_P (k_D Γ) vwCl (wd σ) H → lv_has ls nL lv → CallRun (k_p Γ) (k_l Γ) (k_e Γ) R (k_s Γ) (k_m Γ) (k_ar Γ) (k_be Γ) (k_me Γ) (k_c Γ) H locs 0 0 0 0 (F0 (k_m Γ) pc ls st) rest (vp_Si Q' a) (fun _ => False))
    (k : ∀ r, Q' r → k_J Γ R nL rd wd (pc + 3) lv (.int r :: rest) σ) : k_J Γ R nL rd wd pc lv st σ :=
  fun H locs ls hP hF hl => vp_callSi (hr H locs ls hP hl) (fun r hq => k r hq H locs ls hP hF hl)
/-- a reader, static -/
theorem r_cSR (G : k_G Γ nL own cc Ts tys) {y : MethodName} {bytes : ByteArray} {maxL n index : Nat} {ret : Option FieldType} {ws : List Cond} {rm : Room} {wd' : k_M → va_W} {σ' : k_M} {tys' : List (ClassId × FieldType)} {Q' : Int32 → Prop} (As rest : List Value)
    (hM : Met (k_l Γ) y ws rm (k_PR (k_D Γ) tys' wd' σ' As) (vp_Si Q') 0 0 (fun _ => False)) (cw : CallB R (k_s Γ) (k_ar Γ) own index y bytes maxL ret ws rm 0 0 n ∧ (Cond.static y).before (k_ar Γ) (k_s Γ) = true) (ts : List Nat) (hts : ts.filterMap (fun i => tys[i]?) = tys') (hsub : ∀ H, va_P (k_D Γ) vwCl (wd σ) H → va_P (k_D Γ) vwCl (wd' σ') H)
    (hn : As.length = n) (hst : st = As.reverse ++ rest) (hrm : (rest.map fun v => v.category).sum ≤ 8) (d : decode cc pc = .ok (.invokestatic index, 3)) (k : ∀ r, Q' r → k_J Γ R nL rd wd (pc + 3) lv (.int r :: rest) σ) : k_J Γ R nL rd wd pc lv st σ :=
  r_cR (a := As.toArray) (fun H locs ls hP hl => W.runS ⟨G.1, G.2.1, G.2.2.1, G.2.2.2.1, G.2.2.2.2.1⟩ hM cw (k_PR_S G ts hts (hsub H hP)) rfl hn hl.1 hst (lv_room (rest := st) hrm) d ⟨Nat.zero_le _, Nat.zero_le _⟩) k
/-- a reader, static, a nest mate's private one -/
theorem r_cSNR (G : k_G Γ nL own cc Ts tys) {y : MethodName} {bytes : ByteArray} {maxL n index : Nat} {ret : Option FieldType} {ws : List Cond} {rm : Room} {host : String} {wd' : k_M → va_W} {σ' : k_M} {tys' : List (ClassId × FieldType)} {Q' : Int32 → Prop} (As rest : List Value)
    (hM : Met (k_l Γ) y ws rm (k_PR (k_D Γ) tys' wd' σ' As) (vp_Si Q') 0 0 (fun _ => False)) (cw : va_CN R (k_s Γ) (k_ar Γ) own index y host bytes maxL ret ws rm 0 0 n ∧ (Cond.static y).before (k_ar Γ) (k_s Γ) = true ∧ True) (ts : List Nat) (hts : ts.filterMap (fun i => tys[i]?) = tys') (hsub : ∀ H, va_P (k_D Γ) vwCl (wd σ) H → va_P (k_D Γ) vwCl (wd' σ') H)
    (hn : As.length = n) (hst : st = As.reverse ++ rest) (hrm : (rest.map fun v => v.category).sum ≤ 8) (d : decode cc pc = .ok (.invokestatic index, 3)) (k : ∀ r, Q' r → k_J Γ R nL rd wd (pc + 3) lv (.int r :: rest) σ) : k_J Γ R nL rd wd pc lv st σ :=
  r_cR (a := As.toArray) (fun H locs ls hP hl => by
    have h := va_runSN (H := H) (locs := locs) (cells := 0) (slots := 0) (g := F0 (k_m Γ) pc ls st) (rest := rest) (p := k_p Γ) (e := k_e Γ) (below := k_be Γ) (meth := k_me Γ) ⟨G.1, G.2.1, G.2.2.1, G.2.2.2.1, G.2.2.2.2.1⟩ hM cw (k_PR_S G ts hts (hsub H hP)) rfl hn hl.1 hst (lv_room (rest := st) hrm) d ⟨Nat.zero_le _, Nat.zero_le _⟩
    intro T hT X
    obtain ⟨v, st₀, t, T', L, h0, X', hL, e1, -, hq, hs⟩ := h T hT X
    exact ⟨v, st₀, t, T', L, h0, X', hL, e1, hq, hs⟩) k
/-- a reader, of an object -/
theorem r_cVR (G : k_G Γ nL own cc Ts tys) {y : MethodName} {bytes : ByteArray} {maxL n index : Nat} {ret : Option FieldType} {ws : List Cond} {rm : Room} {wd' : k_M → va_W} {σ' : k_M} {tys' : List (ClassId × FieldType)} {Q' : Int32 → Prop} {b ci : Nat} {fs : List Value} {cq : vw_C} (As rest : List Value)
    (hM : Met (k_l Γ) y ws rm (k_PR (k_D Γ) tys' wd' σ' (.ref b :: As)) (vp_Si Q') 0 0 (fun _ => False)) (q0 : Nat) (hc : vwCl[ci]? = some cq) (he : (wd σ)[q0]? = some (b, .inr (ci, fs))) (cw : CallW R (k_s Γ) (k_ar Γ) own cq.1 index y bytes maxL ret ws rm 0 0 n) (ts : List Nat) (hts : ts.filterMap (fun i => tys[i]?) = tys') (hsub : ∀ H, va_P (k_D Γ) vwCl (wd σ) H → va_P (k_D Γ) vwCl (wd' σ') H)
    (hn : As.length = n) (hst : st = As.reverse ++ .ref b :: rest) (hrm : (rest.map fun v => v.category).sum ≤ 8) (d : decode cc pc = .ok (.invokevirtual index, 3)) (k : ∀ r, Q' r → k_J Γ R nL rd wd (pc + 3) lv (.int r :: rest) σ) : k_J Γ R nL rd wd pc lv st σ :=
  r_cR (a := (Value.ref b :: As).toArray) (fun H locs ls hP hl => W.runV ⟨G.1, G.2.1, G.2.2.1, G.2.2.2.1, G.2.2.2.2.1⟩ hM cw ⟨k_PR_blind, va_recv G.2.2.2.2.2.1 hP hc he, (k_PR_S G ts hts (hsub H hP)).2⟩ rfl hn hl.1 hst (lv_room (rest := st) hrm) d ⟨Nat.zero_le _, Nat.zero_le _⟩) k
/-- calls of writers of the same world -/
theorem k_Sjoin {A : Nat → Prop} {H0 H H1 : Heap} {locs L : List Loc} (hS : va_S A H0 H locs) (hz : H.size ≤ H1.size) (hk : ∀ q : Nat, q < H.size → ¬ A q → H1[q]? = H[q]?) (hL : ∀ q ∈ L, A q.base) : va_S A H0 H1 (locs ++ L) :=
  ⟨Nat.le_trans hS.1 hz, fun q h1 h2 => (hk q (Nat.lt_of_lt_of_le h1 hS.1) h2).trans (hS.2.1 q h1 h2), fun q hq => (List.mem_append.mp hq).elim (hS.2.2 q) (hL q)⟩
theorem r_cWi {rest : List Value} {Q' : Int32 → k_M → Prop} {a : Array Value}
    (hr : ∀ (H : Heap) (locs : List Loc) (ls : Array Slot), va_P (k_D Γ) vwCl (wd σ) H → lv_has ls nL lv → CallRun (k_p Γ) (k_l Γ) (k_e Γ) R (k_s Γ) (k_m Γ) (k_ar Γ) (k_be Γ) (k_me Γ) (k_c Γ) H locs 0 0 0 0 (F0 (k_m Γ) pc ls st) rest (k_Qi (k_D Γ) wd Q' a) (k_wA wd))
    (k : ∀ r σ', Q' r σ' → k_J Γ R nL false wd (pc + 3) lv (.int r :: rest) σ') : k_J Γ R nL false wd pc lv st σ := by
  intro H locs ls hP hF hl T hT X
  obtain ⟨v, st₀, t, T', L, h0, X', hL, e1, ⟨r, σ', hv, hq, hp, hz, hk⟩, hs⟩ := hr H locs ls hP hl T hT X
  cases hv
  rw [h0] at hz hk
  obtain ⟨t2, a1, b1⟩ := k r σ' hq T'.heap (locs ++ L) ls (by rw [e1]; exact hp) (k_Sjoin hF (by rw [e1]; exact hz) (fun q h1 h2 => by rw [e1]; exact hk q h1 h2) hL) hl T' rfl X'
  exact ⟨t2, hs t2 a1, b1⟩
theorem r_cWv {rest : List Value} {Q' : k_M → Prop} {a : Array Value}
    (hr : ∀ (H : Heap) (locs : List Loc) (ls : Array Slot), va_P (k_D Γ) vwCl (wd σ) H → lv_has ls nL lv → CallRun (k_p Γ) (k_l Γ) (k_e Γ) R (k_s Γ) (k_m Γ) (k_ar Γ) (k_be Γ) (k_me Γ) (k_c Γ) H locs 0 0 0 0 (F0 (k_m Γ) pc ls st) rest (k_Qv (k_D Γ) wd Q' a) (k_wA wd))
    (k : ∀ σ', Q' σ' → k_J Γ R nL false wd (pc + 3) lv rest σ') : k_J Γ R nL false wd pc lv st σ := by
  intro H locs ls hP hF hl T hT X
  obtain ⟨v, st₀, t, T', L, h0, X', hL, e1, ⟨σ', hv, hq, hp, hz, hk⟩, hs⟩ := hr H locs ls hP hl T hT X
  cases hv
  rw [h0] at hz hk
  obtain ⟨t2, a1, b1⟩ := k σ' hq T'.heap (locs ++ L) ls (by rw [e1]; exact hp) (k_Sjoin hF (by rw [e1]; exact hz) (fun q h1 h2 => by rw [e1]; exact hk q h1 h2) hL) hl T' rfl X'
  exact ⟨t2, hs t2 a1, b1⟩
theorem r_cVWi (G : k_G Γ nL own cc Ts tys) (hD : ∀ σ, va_D (k_wA wd) (wd σ)) {y : MethodName} {bytes : ByteArray} {maxL n index : Nat} {ret : Option FieldType} {ws : List Cond} {rm : Room} {tys' : List (ClassId × FieldType)} {Q' : Int32 → k_M → Prop} {b ci : Nat} {fs : List Value} {cq : vw_C} (As rest : List Value)
    (hM : Met (k_l Γ) y ws rm (k_PW (k_D Γ) tys' wd σ (.ref b :: As)) (k_Qi (k_D Γ) wd Q') 0 0 (k_wA wd)) (q0 : Nat) (hc : vwCl[ci]? = some cq) (he : (wd σ)[q0]? = some (b, .inr (ci, fs))) (cw : CallW R (k_s Γ) (k_ar Γ) own cq.1 index y bytes maxL ret ws rm 0 0 n) (ts : List Nat) (hts : ts.filterMap (fun i => tys[i]?) = tys')
    (hn : As.length = n) (hst : st = As.reverse ++ .ref b :: rest) (hrm : (rest.map fun v => v.category).sum ≤ 8) (d : decode cc pc = .ok (.invokevirtual index, 3)) (k : ∀ r σ', Q' r σ' → k_J Γ R nL false wd (pc + 3) lv (.int r :: rest) σ') : k_J Γ R nL false wd pc lv st σ :=
  r_cWi (a := (Value.ref b :: As).toArray) (fun H locs ls hP hl => W.runV ⟨G.1, G.2.1, G.2.2.1, G.2.2.2.1, G.2.2.2.2.1⟩ hM cw ⟨k_PW_blind, va_recv G.2.2.2.2.2.1 hP hc he, (k_PW_S G hD ts hts hP).2⟩ rfl hn hl.1 hst (lv_room (rest := st) hrm) d ⟨Nat.zero_le _, Nat.zero_le _⟩) k
theorem r_cVWv (G : k_G Γ nL own cc Ts tys) (hD : ∀ σ, va_D (k_wA wd) (wd σ)) {y : MethodName} {bytes : ByteArray} {maxL n index : Nat} {ret : Option FieldType} {ws : List Cond} {rm : Room} {tys' : List (ClassId × FieldType)} {Q' : k_M → Prop} {b ci : Nat} {fs : List Value} {cq : vw_C} (As rest : List Value)
    (hM : Met (k_l Γ) y ws rm (k_PW (k_D Γ) tys' wd σ (.ref b :: As)) (k_Qv (k_D Γ) wd Q') 0 0 (k_wA wd)) (q0 : Nat) (hc : vwCl[ci]? = some cq) (he : (wd σ)[q0]? = some (b, .inr (ci, fs))) (cw : CallW R (k_s Γ) (k_ar Γ) own cq.1 index y bytes maxL ret ws rm 0 0 n) (ts : List Nat) (hts : ts.filterMap (fun i => tys[i]?) = tys')
    (hn : As.length = n) (hst : st = As.reverse ++ .ref b :: rest) (hrm : (rest.map fun v => v.category).sum ≤ 8) (d : decode cc pc = .ok (.invokevirtual index, 3)) (k : ∀ σ', Q' σ' → k_J Γ R nL false wd (pc + 3) lv rest σ') : k_J Γ R nL false wd pc lv st σ :=
  r_cWv (a := (Value.ref b :: As).toArray) (fun H locs ls hP hl => W.runV ⟨G.1, G.2.1, G.2.2.1, G.2.2.2.1, G.2.2.2.2.1⟩ hM cw ⟨k_PW_blind, va_recv G.2.2.2.2.2.1 hP hc he, (k_PW_S G hD ts hts hP).2⟩ rfl hn hl.1 hst (lv_room (rest := st) hrm) d ⟨Nat.zero_le _, Nat.zero_le _⟩) k
theorem r_cSWv (G : k_G Γ nL own cc Ts tys) (hD : ∀ σ, va_D (k_wA wd) (wd σ)) {y : MethodName} {bytes : ByteArray} {maxL n index : Nat} {ret : Option FieldType} {ws : List Cond} {rm : Room} {tys' : List (ClassId × FieldType)} {Q' : k_M → Prop} (As rest : List Value)
    (hM : Met (k_l Γ) y ws rm (k_PW (k_D Γ) tys' wd σ As) (k_Qv (k_D Γ) wd Q') 0 0 (k_wA wd)) (cw : CallB R (k_s Γ) (k_ar Γ) own index y bytes maxL ret ws rm 0 0 n ∧ (Cond.static y).before (k_ar Γ) (k_s Γ) = true) (ts : List Nat) (hts : ts.filterMap (fun i => tys[i]?) = tys')
    (hn : As.length = n) (hst : st = As.reverse ++ rest) (hrm : (rest.map fun v => v.category).sum ≤ 8) (d : decode cc pc = .ok (.invokestatic index, 3)) (k : ∀ σ', Q' σ' → k_J Γ R nL false wd (pc + 3) lv rest σ') : k_J Γ R nL false wd pc lv st σ :=
  r_cWv (a := As.toArray) (fun H locs ls hP hl => W.runS ⟨G.1, G.2.1, G.2.2.1, G.2.2.2.1, G.2.2.2.2.1⟩ hM cw (k_PW_S G hD ts hts hP) rfl hn hl.1 hst (lv_room (rest := st) hrm) d ⟨Nat.zero_le _, Nat.zero_le _⟩) k
end KR
/-- a method's contract out of its walk -/
theorem k_metR {l : Launch} {y : MethodName} {ws ws' : List Cond} {rm : Room} {cc : ByteArray} {maxL : Nat} {ret : Option FieldType} {D : va_G} {tys : List (ClassId × FieldType)} {wd : k_M → va_W} {σ : k_M} {av : List Value} {Q' : Int32 → Prop}
    (hy : plainName y.cls = true) (hw : ws = Cond.code y cc maxL ret :: ws') (hav : (lg_sl av).length ≤ maxL) (body : ∀ Γ : k_C, k_G Γ maxL y.cls cc ws tys → k_ER Γ Q' ret → k_J Γ rm maxL true wd 0 (lv_args 0 av) [] σ) : Met l y ws rm (k_PR D tys wd σ av) (vp_Si Q') 0 0 (fun _ => False) := by
  refine Met.ofW (cc := cc) (maxL := maxL) (ret := ret) hy hw ?_
  intro p e s m args below meth c s₁ B hml hv
  obtain ⟨rfl, hP, hK, hN⟩ := hv
  have hts := atoms_spec (ws := ws) B.pre
  have hl := lv_entry av (n := maxL) hav
  rw [lg_entry_eq]
  exact body (p, l, e, s, m, av.toArray, below, meth, c, MQ below (vp_Si Q') av.toArray s 0 0 (fun _ => False), D) ⟨B.exec, B.bytes, hml, findClass_of_methodNamed B.named, hts, hK, hN⟩ ⟨rfl, B.returns, B.notSynchronized⟩ s.heap [] _ hP ⟨rfl, rfl⟩ hl
theorem k_metW {l : Launch} {y : MethodName} {ws ws' : List Cond} {rm : Room} {cc : ByteArray} {maxL : Nat} {ret : Option FieldType} {D : va_G} {tys : List (ClassId × FieldType)} {wd : k_M → va_W} {σ : k_M} {av : List Value} {Qc : va_G → Array Value → State → Outcome → State → Prop}
    (hy : plainName y.cls = true) (hw : ws = Cond.code y cc maxL ret :: ws') (hav : (lg_sl av).length ≤ maxL) (body : ∀ Γ : k_C, k_G Γ maxL y.cls cc ws tys → (∀ σ, va_D (k_wA wd) (wd σ)) → k_EW Γ wd (Qc (k_D Γ)) ret → k_J Γ rm maxL false wd 0 (lv_args 0 av) [] σ) : Met l y ws rm (k_PW D tys wd σ av) (Qc D) 0 0 (k_wA wd) := by
  refine Met.ofW (cc := cc) (maxL := maxL) (ret := ret) hy hw ?_
  intro p e s m args below meth c s₁ B hml hv
  obtain ⟨rfl, hP, hK, hN, hD⟩ := hv
  have hts := atoms_spec (ws := ws) B.pre
  have hl := lv_entry av (n := maxL) hav
  rw [lg_entry_eq]
  exact body (p, l, e, s, m, av.toArray, below, meth, c, MQ below (Qc D) av.toArray s 0 0 (k_wA wd), D) ⟨B.exec, B.bytes, hml, findClass_of_methodNamed B.named, hts, hK, hN⟩ (fun σ => ⟨(hD σ).1, fun k q h => ⟨σ, k, q.2, h⟩⟩) ⟨rfl, B.returns, B.notSynchronized⟩ s.heap [] _ hP va_S.rf hl
/-- loops: an invariant with a measure -/
def k_lp0 (body : Prop → Prop) : Prop := ∃ (I : Nat → Prop) (n : Nat), I n ∧ ∀ n, I n → body (∃ n', n' < n ∧ I n')
def k_lp1 {A1 : Type} (body : (A1 → Prop) → A1 → Prop) (x1 : A1) : Prop := ∃ (I : Nat → A1 → Prop) (n : Nat), I n x1 ∧ ∀ (n : Nat) (x1 : A1), I n x1 → body (fun (x1' : A1) => ∃ n', n' < n ∧ I n' x1') x1
def k_lp2 {A1 A2 : Type} (body : (A1 → A2 → Prop) → A1 → A2 → Prop) (x1 : A1) (x2 : A2) : Prop := ∃ (I : Nat → A1 → A2 → Prop) (n : Nat), I n x1 x2 ∧ ∀ (n : Nat) (x1 : A1) (x2 : A2), I n x1 x2 → body (fun (x1' : A1) (x2' : A2) => ∃ n', n' < n ∧ I n' x1' x2') x1 x2
def k_lp3 {A1 A2 A3 : Type} (body : (A1 → A2 → A3 → Prop) → A1 → A2 → A3 → Prop) (x1 : A1) (x2 : A2) (x3 : A3) : Prop := ∃ (I : Nat → A1 → A2 → A3 → Prop) (n : Nat), I n x1 x2 x3 ∧ ∀ (n : Nat) (x1 : A1) (x2 : A2) (x3 : A3), I n x1 x2 x3 → body (fun (x1' : A1) (x2' : A2) (x3' : A3) => ∃ n', n' < n ∧ I n' x1' x2' x3') x1 x2 x3
def k_lp4 {A1 A2 A3 A4 : Type} (body : (A1 → A2 → A3 → A4 → Prop) → A1 → A2 → A3 → A4 → Prop) (x1 : A1) (x2 : A2) (x3 : A3) (x4 : A4) : Prop := ∃ (I : Nat → A1 → A2 → A3 → A4 → Prop) (n : Nat), I n x1 x2 x3 x4 ∧ ∀ (n : Nat) (x1 : A1) (x2 : A2) (x3 : A3) (x4 : A4), I n x1 x2 x3 x4 → body (fun (x1' : A1) (x2' : A2) (x3' : A3) (x4' : A4) => ∃ n', n' < n ∧ I n' x1' x2' x3' x4') x1 x2 x3 x4
def k_lp5 {A1 A2 A3 A4 A5 : Type} (body : (A1 → A2 → A3 → A4 → A5 → Prop) → A1 → A2 → A3 → A4 → A5 → Prop) (x1 : A1) (x2 : A2) (x3 : A3) (x4 : A4) (x5 : A5) : Prop := ∃ (I : Nat → A1 → A2 → A3 → A4 → A5 → Prop) (n : Nat), I n x1 x2 x3 x4 x5 ∧ ∀ (n : Nat) (x1 : A1) (x2 : A2) (x3 : A3) (x4 : A4) (x5 : A5), I n x1 x2 x3 x4 x5 → body (fun (x1' : A1) (x2' : A2) (x3' : A3) (x4' : A4) (x5' : A5) => ∃ n', n' < n ∧ I n' x1' x2' x3' x4' x5') x1 x2 x3 x4 x5
def k_lp6 {A1 A2 A3 A4 A5 A6 : Type} (body : (A1 → A2 → A3 → A4 → A5 → A6 → Prop) → A1 → A2 → A3 → A4 → A5 → A6 → Prop) (x1 : A1) (x2 : A2) (x3 : A3) (x4 : A4) (x5 : A5) (x6 : A6) : Prop := ∃ (I : Nat → A1 → A2 → A3 → A4 → A5 → A6 → Prop) (n : Nat), I n x1 x2 x3 x4 x5 x6 ∧ ∀ (n : Nat) (x1 : A1) (x2 : A2) (x3 : A3) (x4 : A4) (x5 : A5) (x6 : A6), I n x1 x2 x3 x4 x5 x6 → body (fun (x1' : A1) (x2' : A2) (x3' : A3) (x4' : A4) (x5' : A5) (x6' : A6) => ∃ n', n' < n ∧ I n' x1' x2' x3' x4' x5' x6') x1 x2 x3 x4 x5 x6
def k_lp7 {A1 A2 A3 A4 A5 A6 A7 : Type} (body : (A1 → A2 → A3 → A4 → A5 → A6 → A7 → Prop) → A1 → A2 → A3 → A4 → A5 → A6 → A7 → Prop) (x1 : A1) (x2 : A2) (x3 : A3) (x4 : A4) (x5 : A5) (x6 : A6) (x7 : A7) : Prop := ∃ (I : Nat → A1 → A2 → A3 → A4 → A5 → A6 → A7 → Prop) (n : Nat), I n x1 x2 x3 x4 x5 x6 x7 ∧ ∀ (n : Nat) (x1 : A1) (x2 : A2) (x3 : A3) (x4 : A4) (x5 : A5) (x6 : A6) (x7 : A7), I n x1 x2 x3 x4 x5 x6 x7 → body (fun (x1' : A1) (x2' : A2) (x3' : A3) (x4' : A4) (x5' : A5) (x6' : A6) (x7' : A7) => ∃ n', n' < n ∧ I n' x1' x2' x3' x4' x5' x6' x7') x1 x2 x3 x4 x5 x6 x7
def k_lp8 {A1 A2 A3 A4 A5 A6 A7 A8 : Type} (body : (A1 → A2 → A3 → A4 → A5 → A6 → A7 → A8 → Prop) → A1 → A2 → A3 → A4 → A5 → A6 → A7 → A8 → Prop) (x1 : A1) (x2 : A2) (x3 : A3) (x4 : A4) (x5 : A5) (x6 : A6) (x7 : A7) (x8 : A8) : Prop := ∃ (I : Nat → A1 → A2 → A3 → A4 → A5 → A6 → A7 → A8 → Prop) (n : Nat), I n x1 x2 x3 x4 x5 x6 x7 x8 ∧ ∀ (n : Nat) (x1 : A1) (x2 : A2) (x3 : A3) (x4 : A4) (x5 : A5) (x6 : A6) (x7 : A7) (x8 : A8), I n x1 x2 x3 x4 x5 x6 x7 x8 → body (fun (x1' : A1) (x2' : A2) (x3' : A3) (x4' : A4) (x5' : A5) (x6' : A6) (x7' : A7) (x8' : A8) => ∃ n', n' < n ∧ I n' x1' x2' x3' x4' x5' x6' x7' x8') x1 x2 x3 x4 x5 x6 x7 x8
