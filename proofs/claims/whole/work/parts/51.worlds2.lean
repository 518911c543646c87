/-! counting worlds: sums and digits -/
theorem vsum_add (f g : Nat → Nat) (V : Nat) : ∀ n, vsum (fun m => f m + g m) V n = vsum f V n + vsum g V n
  | 0 => rfl
  | n + 1 => by
    simp only [vsum]
    rw [vsum_add f g V n]
    split <;> omega
theorem vsum_smul (k : Nat) (f : Nat → Nat) (V : Nat) : ∀ n, vsum (fun m => k * f m) V n = k * vsum f V n
  | 0 => rfl
  | n + 1 => by
    simp only [vsum]
    rw [vsum_smul k f V n, Nat.mul_add]
    split <;> rfl
theorem vsum_modc {f g : Nat → Nat} {V : Nat} : ∀ n, (∀ m, 1 ≤ m → m ≤ n → V.testBit m = true → f m % 23 = g m % 23) → vsum f V n % 23 = vsum g V n % 23
  | 0, _ => rfl
  | n + 1, h => by
    simp only [vsum]
    have ih := vsum_modc (f := f) (g := g) (V := V) n (fun m a b c => h m a (by omega) c)
    by_cases hb : V.testBit (n + 1) = true
    · rw [if_pos hb, if_pos hb, Nat.add_mod, ih, h (n + 1) (by omega) (by omega) hb, ← Nat.add_mod]
    · rw [if_neg hb, if_neg hb]; exact ih
theorem lsum_add (f g : Nat → Nat) (x : Nat) : ∀ k, lsum (fun i => f i + g i) x k = lsum f x k + lsum g x k
  | 0 => rfl
  | k + 1 => by
    simp only [lsum]
    rw [lsum_add f g x k, Nat.add_mul]
    omega
theorem lsum_smul (c : Nat) (f : Nat → Nat) (x : Nat) : ∀ k, lsum (fun i => c * f i) x k = c * lsum f x k
  | 0 => rfl
  | k + 1 => by
    simp only [lsum]
    rw [lsum_smul c f x k, Nat.mul_add, Nat.mul_assoc]
theorem lsum_mod (f : Nat → Nat) (x : Nat) : ∀ k, lsum (fun i => f i % 23) x k % 23 = lsum f x k % 23
  | 0 => rfl
  | k + 1 => by
    simp only [lsum]
    rw [Nat.add_mod, lsum_mod f x k, Nat.mod_mul_mod, ← Nat.add_mod]
theorem lsum_congr {f g : Nat → Nat} {x : Nat} : ∀ k, (∀ i, 1 ≤ i → i ≤ k → f i = g i) → lsum f x k = lsum g x k
  | 0, _ => rfl
  | k + 1, h => by
    simp only [lsum]
    rw [lsum_congr k (fun i a b => h i a (by omega)), h (k + 1) (by omega) (by omega)]
theorem lsum_z (x : Nat) : ∀ k, lsum (fun _ => 0) x k = 0
  | 0 => rfl
  | k + 1 => by
    simp only [lsum]
    rw [lsum_z x k, Nat.zero_mul]
theorem lemU {V : Nat} (hV : V < 256) (h0 : V.testBit 0 = false) (h4 : cnt V ≤ 4) {d : Nat → Nat} {i : Nat} (i1 : 1 ≤ i) (i2 : i ≤ cnt V) : ∀ k, k ≤ cnt V → vsum (fun m => invT V i m * lsum d m k) V 7 % 23 = (if i ≤ k then d i else 0) % 23
  | 0, _ => by
    have e : (fun m => invT V i m * lsum d m 0) = fun m => 0 * (fun _ => 0) m := by
      funext m
      show invT V i m * 0 = 0 * 0
      omega
    rw [e, vsum_smul, if_neg (by omega), Nat.zero_mul]
  | k + 1, hk => by
    have e : (fun m => invT V i m * lsum d m (k + 1)) = fun m => invT V i m * lsum d m k + d (k + 1) * (invT V i m * m ^ (k + 1)) := by
      funext m
      show invT V i m * (lsum d m k + d (k + 1) * m ^ (k + 1)) = _
      rw [Nat.mul_add, Nat.mul_left_comm]
    rw [e, vsum_add, vsum_smul, Nat.add_mod, lemU hV h0 h4 i1 i2 k (by omega), Nat.mul_mod, inv_U hV h0 h4 i1 i2 (show 1 ≤ k + 1 by omega) hk]
    by_cases e1 : i ≤ k
    · rw [if_pos e1, if_neg (show ¬ i = k + 1 by omega), if_pos (show i ≤ k + 1 by omega)]
      omega
    · by_cases e2 : i = k + 1
      · rw [if_neg e1, if_pos e2, if_pos (show i ≤ k + 1 by omega), e2]
        omega
      · rw [if_neg e1, if_neg e2, if_neg (show ¬ i ≤ k + 1 by omega)]
        omega
theorem dig_uniq {V : Nat} (hV : V < 256) (h0 : V.testBit 0 = false) (h4 : cnt V ≤ 4) {d d' : Nat → Nat} (h : ∀ m, 1 ≤ m → m ≤ 7 → V.testBit m = true → lsum d m (cnt V) % 23 = lsum d' m (cnt V) % 23) {i : Nat} (i1 : 1 ≤ i) (i2 : i ≤ cnt V) : d i % 23 = d' i % 23 := by
  have a := lemU hV h0 h4 (d := d) i1 i2 (cnt V) (Nat.le_refl _)
  have b := lemU hV h0 h4 (d := d') i1 i2 (cnt V) (Nat.le_refl _)
  rw [if_pos i2] at a b
  rw [← a, ← b]
  exact vsum_modc 7 (fun m m1 m2 m3 => by rw [Nat.mul_mod, h m m1 m2 m3, ← Nat.mul_mod])
def sol (V : Nat) (R : Nat → Nat) (i : Nat) : Nat := vsum (fun m => invT V i m * R m) V 7 % 23
theorem lemE {V : Nat} (hV : V < 256) (h0 : V.testBit 0 = false) (h4 : cnt V ≤ 4) {R : Nat → Nat} {x : Nat} (x1 : 1 ≤ x) (x7 : x ≤ 7) (hx : V.testBit x = true) : lsum (sol V R) x (cnt V) % 23 = R x % 23 := by
  have key : ∀ n, n ≤ 7 → lsum (fun i => vsum (fun m => invT V i m * R m) V n) x (cnt V) % 23 = (if x ≤ n then R x else 0) % 23 := by
    intro n
    induction n with
    | zero =>
      intro _
      rw [if_neg (by omega)]
      show lsum (fun _ => 0) x (cnt V) % 23 = _
      rw [lsum_z]
    | succ n ih =>
      intro hn
      have ih' := ih (by omega)
      by_cases hb : V.testBit (n + 1) = true
      · have e : (fun i => vsum (fun m => invT V i m * R m) V (n + 1)) = fun i => vsum (fun m => invT V i m * R m) V n + R (n + 1) * invT V i (n + 1) := by
          funext i
          simp only [vsum]
          rw [if_pos hb, Nat.mul_comm]
        rw [e, lsum_add, lsum_smul, Nat.add_mod, ih', Nat.mul_mod, inv_E hV h0 h4 (show n + 1 < 8 by omega) (show x < 8 by omega) hb hx]
        by_cases e1 : x ≤ n
        · rw [if_pos e1, if_neg (show ¬ n + 1 = x by omega), if_pos (show x ≤ n + 1 by omega)]
          omega
        · by_cases e2 : n + 1 = x
          · rw [if_neg e1, if_pos e2, if_pos (show x ≤ n + 1 by omega), e2]
            omega
          · rw [if_neg e1, if_neg e2, if_neg (show ¬ x ≤ n + 1 by omega)]
            omega
      · have e : (fun i => vsum (fun m => invT V i m * R m) V (n + 1)) = fun i => vsum (fun m => invT V i m * R m) V n := by
          funext i
          simp only [vsum]
          rw [if_neg hb, Nat.add_zero]
        rw [e, ih']
        by_cases e1 : x ≤ n
        · rw [if_pos e1, if_pos (by omega)]
        · have : ¬ x = n + 1 := fun z => hb (by rw [← z]; exact hx)
          rw [if_neg e1, if_neg (by omega)]
  have := key 7 (by omega)
  rw [if_pos x7] at this
  rw [← this]
  exact lsum_mod _ _ _
/-- digits -/
def dg (n j : Nat) : Nat := n / 23 ^ (j - 1) % 23
def pol (v n : Nat) : Nat → Nat := fun j => if j = 0 then v else dg n j
def valD (s : Nat → Nat) : Nat → Nat
  | 0 => 0
  | k + 1 => valD s k + s (k + 1) * 23 ^ k
def hs (h k m : Nat) : Nat → Nat
  | 0 => 0
  | c + 1 => hs h k m c + h / 23 ^ c % 23 * m ^ (k + 1 + c)
theorem pol_lo (v n m : Nat) : ∀ k, psum (pol v n) m (k + 1) = v + lsum (dg n) m k
  | 0 => by simp [psum, pol, lsum]
  | k + 1 => by
    rw [show psum (pol v n) m (k + 1 + 1) = psum (pol v n) m (k + 1) + pol v n (k + 1) * m ^ (k + 1) from rfl, pol_lo v n m k]
    simp only [lsum]
    rw [show pol v n (k + 1) = dg n (k + 1) from if_neg (by omega)]
    omega
theorem pol_hi (v n m k : Nat) : ∀ c, psum (pol v n) m (k + 1 + c) = v + lsum (dg n) m k + hs (n / 23 ^ k) k m c
  | 0 => pol_lo v n m k
  | c + 1 => by
    rw [show psum (pol v n) m (k + 1 + (c + 1)) = psum (pol v n) m (k + 1 + c) + pol v n (k + 1 + c) * m ^ (k + 1 + c) from rfl, pol_hi v n m k c]
    simp only [hs]
    have e : pol v n (k + 1 + c) = n / 23 ^ k / 23 ^ c % 23 := by
      rw [show pol v n (k + 1 + c) = dg n (k + 1 + c) from if_neg (by omega)]
      unfold dg
      rw [Nat.div_div_eq_div_mul, ← Nat.pow_add, show k + 1 + c - 1 = k + c by omega]
    rw [e]
    omega
theorem pe_pol {v n m k t : Nat} (hk : k < t) : pe (pol v n) t m = (v + lsum (dg n) m k + hs (n / 23 ^ k) k m (t - 1 - k)) % 23 := by
  unfold pe
  rw [← pol_hi v n m k, show k + 1 + (t - 1 - k) = t by omega]
theorem dg_val {s : Nat → Nat} {h k : Nat} (hk : k ≤ 4) (hs : ∀ i, s i < 23) : (h * 23 ^ k + valD s k) / 23 ^ k = h ∧ ∀ i, 1 ≤ i → i ≤ k → dg (h * 23 ^ k + valD s k) i = s i := by
  have s1 := hs 1
  have s2 := hs 2
  have s3 := hs 3
  have s4 := hs 4
  rcases (show k = 0 ∨ k = 1 ∨ k = 2 ∨ k = 3 ∨ k = 4 by omega) with rfl | rfl | rfl | rfl | rfl
  · exact ⟨by simp [valD], fun i a b => by omega⟩
  · refine ⟨?_, fun i a b => ?_⟩
    · simp only [valD, Nat.reducePow, Nat.reduceAdd]; omega
    · have e : i = 1 := by omega
      subst e
      simp only [dg, valD, Nat.reducePow, Nat.reduceAdd, Nat.reduceSub]; omega
  · refine ⟨?_, fun i a b => ?_⟩
    · simp only [valD, Nat.reducePow, Nat.reduceAdd]; omega
    · rcases (show i = 1 ∨ i = 2 by omega) with rfl | rfl
      · simp only [dg, valD, Nat.reducePow, Nat.reduceAdd, Nat.reduceSub]; omega
      · simp only [dg, valD, Nat.reducePow, Nat.reduceAdd, Nat.reduceSub]; omega
  · refine ⟨?_, fun i a b => ?_⟩
    · simp only [valD, Nat.reducePow, Nat.reduceAdd]; omega
    · rcases (show i = 1 ∨ i = 2 ∨ i = 3 by omega) with rfl | rfl | rfl
      · simp only [dg, valD, Nat.reducePow, Nat.reduceAdd, Nat.reduceSub]; omega
      · simp only [dg, valD, Nat.reducePow, Nat.reduceAdd, Nat.reduceSub]; omega
      · simp only [dg, valD, Nat.reducePow, Nat.reduceAdd, Nat.reduceSub]; omega
  · refine ⟨?_, fun i a b => ?_⟩
    · simp only [valD, Nat.reducePow, Nat.reduceAdd]; omega
    · rcases (show i = 1 ∨ i = 2 ∨ i = 3 ∨ i = 4 by omega) with rfl | rfl | rfl | rfl
      · simp only [dg, valD, Nat.reducePow, Nat.reduceAdd, Nat.reduceSub]; omega
      · simp only [dg, valD, Nat.reducePow, Nat.reduceAdd, Nat.reduceSub]; omega
      · simp only [dg, valD, Nat.reducePow, Nat.reduceAdd, Nat.reduceSub]; omega
      · simp only [dg, valD, Nat.reducePow, Nat.reduceAdd, Nat.reduceSub]; omega
theorem dg_inj {n n' k : Nat} (hk : k ≤ 4) (h : n / 23 ^ k = n' / 23 ^ k) (hd : ∀ i, 1 ≤ i → i ≤ k → dg n i = dg n' i) : n = n' := by
  rcases (show k = 0 ∨ k = 1 ∨ k = 2 ∨ k = 3 ∨ k = 4 by omega) with rfl | rfl | rfl | rfl | rfl
  · simpa using h
  · have d1 := hd 1 (by omega) (by omega)
    simp only [dg, Nat.reducePow, Nat.reduceSub] at h d1
    omega
  · have d1 := hd 1 (by omega) (by omega)
    have d2 := hd 2 (by omega) (by omega)
    simp only [dg, Nat.reducePow, Nat.reduceSub] at h d1 d2
    omega
  · have d1 := hd 1 (by omega) (by omega)
    have d2 := hd 2 (by omega) (by omega)
    have d3 := hd 3 (by omega) (by omega)
    simp only [dg, Nat.reducePow, Nat.reduceSub] at h d1 d2 d3
    omega
  · have d1 := hd 1 (by omega) (by omega)
    have d2 := hd 2 (by omega) (by omega)
    have d3 := hd 3 (by omega) (by omega)
    have d4 := hd 4 (by omega) (by omega)
    simp only [dg, Nat.reducePow, Nat.reduceSub] at h d1 d2 d3 d4
    omega
theorem dg_lt (n j : Nat) : dg n j < 23 := Nat.mod_lt _ (by omega)
theorem w_exist {V : Nat} (hV : V < 256) (h0 : V.testBit 0 = false) (h4 : cnt V ≤ 4) {v t h : Nat} {G : Nat → Nat} (ht : cnt V < t) (hG : ∀ m, G m < 23) : ∃ n, n / 23 ^ cnt V = h ∧ ∀ m, 1 ≤ m → m ≤ 7 → V.testBit m = true → pe (pol v n) t m = G m := by
  obtain ⟨e1, e2⟩ := dg_val (s := sol V (fun m => G m + 22 * (v + hs h (cnt V) m (t - 1 - cnt V)))) (h := h) h4 (fun i => Nat.mod_lt _ (by omega))
  refine ⟨_, e1, fun m m1 m2 m3 => ?_⟩
  rw [pe_pol ht, e1, lsum_congr (cnt V) e2]
  have := lemE hV h0 h4 (R := fun m => G m + 22 * (v + hs h (cnt V) m (t - 1 - cnt V))) m1 m2 m3
  have hg := hG m
  generalize lsum (sol V (fun m => G m + 22 * (v + hs h (cnt V) m (t - 1 - cnt V)))) m (cnt V) = X at this ⊢
  generalize hs h (cnt V) m (t - 1 - cnt V) = Y at this ⊢
  omega
theorem w_uniq {V : Nat} (hV : V < 256) (h0 : V.testBit 0 = false) (h4 : cnt V ≤ 4) {v t n n' : Nat} {G : Nat → Nat} (ht : cnt V < t) (hn : n / 23 ^ cnt V = n' / 23 ^ cnt V) (h1 : ∀ m, 1 ≤ m → m ≤ 7 → V.testBit m = true → pe (pol v n) t m = G m) (h2 : ∀ m, 1 ≤ m → m ≤ 7 → V.testBit m = true → pe (pol v n') t m = G m) : n = n' := by
  refine dg_inj h4 hn (fun i i1 i2 => ?_)
  have := dig_uniq hV h0 h4 (d := dg n) (d' := dg n') (fun m m1 m2 m3 => ?_) i1 i2
  · rw [Nat.mod_eq_of_lt (dg_lt n i), Nat.mod_eq_of_lt (dg_lt n' i)] at this
    exact this
  · have a := h1 m m1 m2 m3
    have b := h2 m m1 m2 m3
    rw [← b, pe_pol ht, pe_pol ht, hn] at a
    generalize hs (n' / 23 ^ cnt V) (cnt V) m (t - 1 - cnt V) = Y at a
    omega
/-- counting -/
def cntW (p : Nat → Bool) : Nat → Nat
  | 0 => 0
  | n + 1 => cntW p n + (if p n then 1 else 0)
theorem cntW_0 {p : Nat → Bool} : ∀ n, (∀ i, i < n → ¬ p i = true) → cntW p n = 0
  | 0, _ => rfl
  | n + 1, h => by
    simp only [cntW]
    rw [cntW_0 n (fun i hi => h i (by omega)), if_neg (h n (by omega))]
theorem cntW_le (p : Nat → Bool) : ∀ n, cntW p n ≤ n
  | 0 => Nat.le_refl _
  | n + 1 => by
    have := cntW_le p n
    simp only [cntW]
    split <;> omega
theorem cntW_one {p : Nat → Bool} {lo x : Nat} (hx : lo ≤ x) (hp : p x = true) : ∀ c, (∀ y, lo ≤ y → y < lo + c → p y = true → y = x) → cntW p (lo + c) = cntW p lo + if x < lo + c then 1 else 0
  | 0, _ => by rw [if_neg (by omega)]; rfl
  | c + 1, hu => by
    have ih := cntW_one hx hp c (fun y a b d => hu y a (by omega) d)
    rw [show lo + (c + 1) = lo + c + 1 by omega]
    simp only [cntW]
    rw [ih]
    by_cases e : lo + c = x
    · rw [if_neg (by omega), if_pos (by rw [e]; exact hp), if_pos (by omega)]
    · by_cases e2 : x < lo + c
      · rw [if_pos e2, if_neg (fun z => e (hu _ (by omega) (by omega) z)), if_pos (by omega)]
      · rw [if_neg e2, if_neg (fun z => e (hu _ (by omega) (by omega) z)), if_neg (by omega)]
theorem cnt_blocks {p : Nat → Bool} {a : Nat} (ha : 0 < a) (huq : ∀ n n', n / a = n' / a → p n = true → p n' = true → n = n') : ∀ b, (∀ h, h < b → ∃ n, n / a = h ∧ p n = true) → cntW p (a * b) = b
  | 0, _ => rfl
  | b + 1, hex => by
    obtain ⟨x, x1, x2⟩ := hex b (by omega)
    have hb1 : a * b ≤ x := by
      rw [← x1, Nat.mul_comm]
      exact Nat.div_mul_le_self x a
    have hb2 : x < a * b + a := by
      have := Nat.lt_div_mul_add (a := x) ha
      rw [x1, Nat.mul_comm] at this
      exact this
    have := cntW_one hb1 x2 a (fun y y1 y2 y3 => huq y x (by
      rw [x1]
      exact Nat.div_eq_of_lt_le (by rw [Nat.mul_comm]; exact y1) (by rw [Nat.mul_comm, Nat.mul_succ]; exact y2)) y3 x2)
    rw [Nat.mul_succ, this, if_pos hb2, cnt_blocks ha huq b (fun h hh => hex h (by omega))]
theorem psum_at0 (c : Nat → Nat) : ∀ t, psum c 0 (t + 1) = c 0
  | 0 => by simp [psum]
  | t + 1 => by
    rw [show psum c 0 (t + 1 + 1) = psum c 0 (t + 1) + c (t + 1) * 0 ^ (t + 1) from rfl, psum_at0 c t, Nat.zero_pow (by omega), Nat.mul_zero, Nat.add_zero]
theorem pe_at0 {c : Nat → Nat} {t : Nat} (ht : 1 ≤ t) (h : c 0 < 23) : pe c t 0 = c 0 := by
  unfold pe
  rw [show t = t - 1 + 1 by omega, psum_at0]
  exact Nat.mod_eq_of_lt h
/-- how many worlds -/
theorem worlds_cnt {V v t : Nat} {C : Nat → Nat} {p : Nat → Bool} (hV : V < 256) (h0 : V.testBit 0 = false) (ht1 : 1 ≤ t) (ht5 : t ≤ 5) (hv : v < 23) (hC : ∀ j, C j < 23) (hp : ∀ n, p n = true ↔ ∀ m, 1 ≤ m → m ≤ 7 → V.testBit m = true → pe (pol v n) t m = pe C t m) : cntW p (23 ^ (t - 1)) = if t ≤ cnt V then (if C 0 = v then 1 else 0) else 23 ^ (t - 1 - cnt V) := by
  by_cases hk : t ≤ cnt V
  · rw [if_pos hk]
    by_cases hc : C 0 = v
    · rw [if_pos hc]
      have hV' := lowN_lt V (t - 1) (k := 7) (by omega)
      have h0' := lowN_0 V (t - 1) 7
      have hcn := lowN_cnt V hV h0 (t - 1) (by omega) (by omega)
      have h4' : cnt (lowN V (t - 1) 7) ≤ 4 := by omega
      have key := cnt_blocks (p := p) (a := 23 ^ (t - 1)) (Nat.pow_pos (by omega)) (fun n n' e a b => ?_) 1 (fun h hh => ?_)
      · rw [Nat.mul_one] at key
        exact key
      · refine w_uniq hV' h0' h4' (v := v) (t := t) (G := fun m => pe C t m) (by omega) (by rw [hcn]; exact e) (fun m m1 m2 m3 => (hp n).mp a m m1 m2 (lowN_sub _ _ _ _ m3)) (fun m m1 m2 m3 => (hp n').mp b m m1 m2 (lowN_sub _ _ _ _ m3))
      · obtain ⟨e1, e2⟩ := dg_val (s := C) (h := 0) (k := t - 1) (by omega) hC
        refine ⟨_, (by rw [e1]; omega), (hp _).mpr (fun m m1 m2 m3 => pe_congr (fun j hj => ?_))⟩
        unfold pol
        by_cases hj0 : j = 0
        · rw [if_pos hj0, hj0, hc]
        · rw [if_neg hj0]
          exact e2 j (by omega) (by omega)
    · rw [if_neg hc]
      refine cntW_0 _ (fun n _ hn => hc ?_)
      have hW := lowN_lt V t (k := 7) (by omega)
      have hW0 := lowN_0 V t 7
      have hcn := lowN_cnt V hV h0 t (by omega) hk
      have a := lagr (c := pol v n) (g := fun m => pe C t m) (x := 0) hW hW0 hcn ht5 (by omega) (fun m m1 m2 m3 => ((hp n).mp hn m m1 m2 (lowN_sub _ _ _ _ m3)).symm)
      have b := lagr (c := C) (g := fun m => pe C t m) (x := 0) hW hW0 hcn ht5 (by omega) (fun m m1 m2 m3 => rfl)
      rw [a, pe_at0 ht1 (show pol v n 0 < 23 from hv), pe_at0 ht1 (hC 0)] at b
      exact b.symm
  · rw [if_neg hk]
    have key := cnt_blocks (p := p) (a := 23 ^ cnt V) (Nat.pow_pos (by omega)) (fun n n' e a b => ?_) (23 ^ (t - 1 - cnt V)) (fun h hh => ?_)
    · rw [← Nat.pow_add, show cnt V + (t - 1 - cnt V) = t - 1 by omega] at key
      exact key
    · exact w_uniq hV h0 (by omega) (v := v) (t := t) (G := fun m => pe C t m) (by omega) e ((hp n).mp a) ((hp n').mp b)
    · obtain ⟨n, n1, n2⟩ := w_exist hV h0 (by omega) (v := v) (t := t) (h := h) (G := fun m => pe C t m) (by omega) (fun m => pe_lt _ _ _)
      exact ⟨n, n1, (hp n).mpr n2⟩
