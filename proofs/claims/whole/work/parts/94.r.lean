/-! pure part R: the slope's bits -/
/-- a is c times 2 to the q, in the one way -/
def VF (a : UInt32) (c : Nat) (q : Int) : Prop := FP.Core.val32 a = .fin false c q
def NF (c : Nat) (q : Int) : Prop := 8388608 ≤ c ∧ c < 16777216 ∧ -149 ≤ q ∧ q ≤ 104
theorem f_fits {c : Nat} {q : Int} (h : NF c q) : FP.Core.fits FP.Core.b32 (.fin false c q) := by
  obtain ⟨h1, h2, h3, h4⟩ := h
  have e1 : (2 : Nat) ^ FP.Core.b32.p = 16777216 := by decide
  have e2 : FP.Core.b32.qmin = -149 := by decide
  have e3 : FP.Core.b32.qmax = 104 := by decide
  have e4 : FP.Core.b32.tails = 8388608 := by decide
  refine ⟨by omega, by omega, by omega, Or.inr (by omega)⟩
theorem f_rr {c A : Nat} {q e : Int} {s : Bool} (h : NF c q) (hs : s = false) (he : A * 2 ^ (e - q).toNat = c * 2 ^ (q - e).toNat) : FP.Core.roundRatio FP.Core.b32 s A 1 e = .fin false c q := by
  subst hs
  exact FP.Core.roundRatio_exact FP.Core.good_b32 (by decide) (f_fits h) (by rw [Nat.mul_one]; exact he)
theorem f_norm : ∀ (j a : Nat), 1 ≤ a → 8388608 ≤ a * 2 ^ j → a < 16777216 → ∃ k : Nat, k ≤ j ∧ 8388608 ≤ a * 2 ^ k ∧ a * 2 ^ k < 16777216 := by
  intro j
  induction j with
  | zero => intro a h0 h1 h2; exact ⟨0, Nat.le_refl _, h1, by omega⟩
  | succ j ih =>
    intro a h0 h1 h2
    by_cases c : 8388608 ≤ a
    · exact ⟨0, Nat.zero_le _, by omega, by omega⟩
    · obtain ⟨k, k1, k2, k3⟩ := ih (a * 2) (by omega) (by rw [Nat.mul_assoc, ← Nat.pow_succ']; exact h1) (by omega)
      exact ⟨k + 1, by omega, by rw [Nat.pow_succ', ← Nat.mul_assoc]; exact k2, by rw [Nat.pow_succ', ← Nat.mul_assoc]; exact k3⟩
theorem f_norm23 {a : Nat} (h0 : 1 ≤ a) (h1 : a < 16777216) : ∃ k : Nat, k ≤ 23 ∧ 8388608 ≤ a * 2 ^ k ∧ a * 2 ^ k < 16777216 := f_norm 23 a h0 (by omega) h1
theorem f_i2f {a : Nat} (h0 : 1 ≤ a) (h1 : a < 16777216) : ∃ k : Nat, k ≤ 23 ∧ 8388608 ≤ a * 2 ^ k ∧ a * 2 ^ k < 16777216 ∧ VF (FP.i2f (nI a)) (a * 2 ^ k) (-(k : Int)) := by
  obtain ⟨k, k1, k2, k3⟩ := f_norm23 h0 h1
  refine ⟨k, k1, k2, k3, ?_⟩
  unfold VF
  rw [show FP.i2f (nI a) = FP.Core.i2f (nI a) from rfl, FP.Core.val32_i2f, t_nI (by omega)]
  show FP.Core.roundRatio FP.Core.b32 _ _ 1 0 = _
  refine f_rr ⟨k2, k3, by omega, by omega⟩ (by simp) ?_
  rw [show ((0 : Int) - -(k : Int)).toNat = k by omega, show (-(k : Int) - 0).toNat = 0 by omega, Nat.pow_zero, Nat.mul_one]
  rfl
theorem f_div {x y : UInt32} {c d : Nat} {q r : Int} (hx : VF x c q) (hy : VF y d r) (c0 : 1 ≤ c) (c1 : c < 16777216) (d0 : 1 ≤ d) (d1 : d < 16777216) (e0 : -60 ≤ q - r) (e1 : q - r ≤ 60) : ∃ (c' : Nat) (q' : Int), NF c' q' ∧ q' ≤ 100 ∧ VF (FP.fdiv x y) c' q' := by
  unfold VF at *
  have e24 : (2 : Nat) ^ FP.Core.b32.p = 16777216 := by decide
  have em : FP.Core.b32.qmin = -149 := by decide
  have ex : FP.Core.b32.qmax = 104 := by decide
  have et : FP.Core.b32.tails = 8388608 := by decide
  have ep : (FP.Core.b32.p : Int) = 24 := by decide
  have hv : FP.Core.val32 (FP.fdiv x y) = FP.Core.roundRatio FP.Core.b32 false c d (q - r) := by
    rw [show FP.fdiv x y = FP.Core.fdiv x y from rfl, FP.Core.val32_fdiv, hx, hy]
    show (if d = 0 then _ else _) = _
    rw [if_neg (by omega)]
    rfl
  have nb : ∀ z : Int, z ≤ -25 → ¬ FP.Core.Below c d z := by
    intro z hz hb
    unfold FP.Core.Below at hb
    rw [show z.toNat = 0 by omega, Nat.pow_zero, Nat.mul_one] at hb
    have : 2 ^ 25 ≤ 2 ^ (-z).toNat := Nat.pow_le_pow_right (by omega) (by omega)
    have h2 : 1 * 2 ^ 25 ≤ c * 2 ^ (-z).toNat := Nat.mul_le_mul c0 this
    omega
  have qb := FP.Core.quantum_below (f := FP.Core.b32) (A := c) (B := d) (by omega) (by omega) (q - r)
  have qn := FP.Core.quantum_not_below (f := FP.Core.b32) (A := c) (B := d) (by omega) (by omega) (q - r)
  have qg := FP.Core.quantum_ge FP.Core.b32 c d (q - r)
  obtain ⟨Q, eQ⟩ : ∃ Q, Q = FP.Core.quantum FP.Core.b32 c d (q - r) := ⟨_, rfl⟩
  rw [← eQ] at qb qn qg
  have qnb : ¬ FP.Core.Below c d (Q - (q - r) + 23) := by
    rcases qn with h | h
    · exfalso
      exact nb _ (by omega) qb
    · rw [show Q - (q - r) + 23 = Q - (q - r) + ((FP.Core.b32.p : Int) - 1) by omega]; exact h
  have qu : Q - (q - r) + 23 < 25 := by
    refine FP.Core.lt_of_below qnb ?_
    unfold FP.Core.Below
    rw [show ((-25 : Int)).toNat = 0 by decide, show ((25 : Int)).toNat = 25 by decide, Nat.pow_zero, Nat.mul_one]
    have : 1 * 2 ^ 25 ≤ d * 2 ^ 25 := Nat.mul_le_mul d0 (Nat.le_refl _)
    omega
  have n1 := FP.Core.nearest_units_le (f := FP.Core.b32) (A := c) (B := d) (by omega) (by omega) (q - r)
  rw [← eQ, e24] at n1
  have n0 : 8388608 ≤ FP.Core.nearest (FP.Core.unitsNum c (q - r) Q) (FP.Core.unitsDen d (q - r) Q) := by
    refine FP.Core.nearest_ge (FP.Core.unitsDen_pos (by omega) _ _) ?_
    have h := qnb
    rw [show Q - (q - r) + 23 = Q - (q - r) + ((23 : Nat) : Int) by omega, ← FP.Core.units_below] at h
    have e23 : (2 : Nat) ^ 23 = 8388608 := by decide
    rw [e23] at h
    omega
  rw [hv]
  unfold FP.Core.roundRatio FP.Core.roundAt FP.Core.settle FP.Core.bound
  rw [if_neg (by omega), ← eQ, e24]
  by_cases hc : FP.Core.nearest (FP.Core.unitsNum c (q - r) Q) (FP.Core.unitsDen d (q - r) Q) < 16777216
  · rw [if_pos hc, if_pos (by omega)]
    exact ⟨_, _, ⟨n0, hc, by omega, by omega⟩, by omega, rfl⟩
  · rw [if_neg hc, if_pos (by omega)]
    exact ⟨_, _, ⟨by omega, by omega, by omega, by omega⟩, by omega, rfl⟩
/-- its bits -/
theorem f_bits {x : UInt32} {c : Nat} {q : Int} (h : NF c q) (hx : VF x c q) : x.toNat = (q + 150).toNat * 8388608 + (c - 8388608) := by
  unfold VF at hx
  have e := FP.Core.of32_val32 (a := x) (by rw [hx]; exact FP.Core.Datum.noConfusion)
  rw [← e, hx, FP.Core.toNat_of32 (f_fits h)]
  obtain ⟨h1, h2, h3, h4⟩ := h
  have em : FP.Core.b32.qmin = -149 := by decide
  have et : FP.Core.b32.tails = 8388608 := by decide
  unfold FP.Core.encode FP.Core.assemble
  dsimp only
  rw [if_neg (by omega), et, em, show (q - -149).toNat + 1 = (q + 150).toNat by omega]
  show (0 * _ + _) * _ + _ = _
  rw [Nat.zero_mul, Nat.zero_add]
theorem f_ok {x : UInt32} {s : Bool} {c : Nat} {q : Int} (hx : FP.Core.val32 x = .fin s c q) : x &&& 0x7fffffff ≤ 0x7f800000 := by
  have h := (FP.Core.ne_nan32 x).mp (by rw [hx]; exact FP.Core.Datum.noConfusion)
  rw [UInt32.le_iff_toNat_le, UInt32.toNat_and]
  rw [show (0x7fffffff : UInt32).toNat = 2 ^ 31 - 1 by decide, show (0x7f800000 : UInt32).toNat = 2139095040 by decide, Nat.and_two_pow_sub_one_eq_mod]
  exact h
theorem f_k2 : FP.Core.val32 FP.fconst2 = .fin false 8388608 (-22) := by decide +kernel
theorem f_k1 : FP.Core.val32 FP.fconst1 = .fin false 8388608 (-23) := by decide +kernel
theorem f_kh : FP.Core.val32 1056964608 = .fin false 8388608 (-24) := by decide +kernel
theorem f_km : FP.Core.val32 1258291200 = .fin false 8388608 0 := by decide +kernel
theorem f_mul {x y : UInt32} {c : Nat} {q r : Int} (hx : VF x c q) (hy : FP.Core.val32 y = .fin false 8388608 r) (h : NF c (q + r + 23)) : VF (FP.fmul x y) c (q + r + 23) := by
  unfold VF at *
  rw [show FP.fmul x y = FP.Core.fmul x y from rfl, FP.Core.val32_fmul, hx, hy]
  show FP.Core.roundRatio FP.Core.b32 _ (c * 8388608) 1 (q + r) = _
  refine f_rr h rfl ?_
  rw [show (q + r - (q + r + 23)).toNat = 0 by omega, show (q + r + 23 - (q + r)).toNat = 23 by omega, Nat.pow_zero, Nat.mul_one]
theorem f_cmp {x y : UInt32} {c d : Nat} {q r : Int} (h : NF c q) (hx : VF x c q) (h2 : NF d r) (hy : VF y d r) : FP.fcmp x y = some (compare (x.toNat : Int) (y.toNat : Int)) := by
  have k : ∀ {a : UInt32} {c : Nat} {q : Int}, NF c q → VF a c q → FP.Core.fkey a = (a.toNat : Int) := by
    intro a c q h ha
    have := f_bits h ha
    obtain ⟨h1, h2, h3, h4⟩ := h
    unfold FP.Core.fkey
    rw [if_neg (by omega)]
  have hx' := hx
  have hy' := hy
  unfold VF at hx' hy'
  rw [show FP.fcmp x y = FP.Core.fcmp x y from rfl, FP.Core.fcmp_key (by rw [hx']; exact FP.Core.Datum.noConfusion) (by rw [hy']; exact FP.Core.Datum.noConfusion), k h hx, k h2 hy]
/-- the part behind the point -/
theorem f_frac {x : UInt32} {c : Nat} (h : NF c (-23)) (hx : VF x c (-23)) : (FP.fsub x FP.fconst1) &&& 0x7fffffff ≤ 0x7f800000 ∧ (FP.fmul (FP.fsub x FP.fconst1) 1258291200) &&& 0x7fffffff ≤ 0x7f800000 ∧ FP.f2i (FP.fmul (FP.fsub x FP.fconst1) 1258291200) = nI (c - 8388608) := by
  unfold VF at hx
  obtain ⟨h1, h2, -, -⟩ := h
  have hs : FP.Core.val32 (FP.fsub x FP.fconst1) = FP.Core.roundRatio FP.Core.b32 false (c - 8388608) 1 (-23) := by
    rw [show FP.fsub x FP.fconst1 = FP.Core.fsub x FP.fconst1 from rfl, FP.Core.val32_fsub, hx, f_k1]
    have hu : FP.Core.sumUnits false c (-23) (!false) 8388608 (-23) (-23) = ((c - 8388608 : Nat) : Int) := by
      show (if false = true then -((c * 2 ^ ((-23 : Int) - -23).toNat : Nat) : Int) else ((c * 2 ^ ((-23 : Int) - -23).toNat : Nat) : Int)) + (if true = true then -((8388608 * 2 ^ ((-23 : Int) - -23).toNat : Nat) : Int) else ((8388608 * 2 ^ ((-23 : Int) - -23).toNat : Nat) : Int)) = _
      rw [show ((-23 : Int) - -23).toNat = 0 by decide, Nat.pow_zero, Nat.mul_one, Nat.mul_one, if_neg (by decide), if_pos rfl]
      omega
    show FP.Core.roundRatio FP.Core.b32 (FP.Core.sumSign false true (FP.Core.sumUnits false c (-23) (!false) 8388608 (-23) (-23))) (FP.Core.sumUnits false c (-23) (!false) 8388608 (-23) (-23)).natAbs 1 (-23) = _
    rw [hu]
    have e1 : FP.Core.sumSign false true ((c - 8388608 : Nat) : Int) = false := by
      unfold FP.Core.sumSign
      by_cases z : ((c - 8388608 : Nat) : Int) = 0
      · rw [if_pos z]; rfl
      · rw [if_neg z]; simp
    rw [e1, Int.natAbs_natCast]
  by_cases z : c - 8388608 = 0
  · rw [z] at hs ⊢
    have hs0 : FP.Core.val32 (FP.fsub x FP.fconst1) = .fin false 0 (-149) := by rw [hs]; decide
    have hm : FP.Core.val32 (FP.fmul (FP.fsub x FP.fconst1) 1258291200) = .fin false 0 (-149) := by
      rw [show FP.fmul (FP.fsub x FP.fconst1) 1258291200 = FP.Core.fmul (FP.fsub x FP.fconst1) 1258291200 from rfl, FP.Core.val32_fmul, hs0, f_km]
      decide
    refine ⟨f_ok hs0, f_ok hm, ?_⟩
    show FP.Core.toI (FP.Core.val32 (FP.fmul (FP.fsub x FP.fconst1) 1258291200)) = _
    rw [hm]
    decide
  · obtain ⟨k, k1, k2, k3⟩ := f_norm23 (a := c - 8388608) (by omega) (by omega)
    have hs1 : VF (FP.fsub x FP.fconst1) ((c - 8388608) * 2 ^ k) (-23 - k) := by
      unfold VF
      rw [hs]
      refine f_rr ⟨k2, k3, by omega, by omega⟩ rfl ?_
      rw [show ((-23 : Int) - (-23 - (k : Int))).toNat = k by omega, show ((-23 : Int) - (k : Int) - -23).toNat = 0 by omega, Nat.pow_zero, Nat.mul_one]
    have hm : VF (FP.fmul (FP.fsub x FP.fconst1) 1258291200) ((c - 8388608) * 2 ^ k) (-23 - (k : Int) + 0 + 23) := f_mul hs1 f_km ⟨k2, k3, by omega, by omega⟩
    refine ⟨f_ok hs1, f_ok hm, ?_⟩
    show FP.Core.toI (FP.Core.val32 (FP.fmul (FP.fsub x FP.fconst1) 1258291200)) = _
    unfold VF at hm
    rw [hm, show -23 - (k : Int) + 0 + 23 = -(k : Int) by omega]
    have et : FP.Core.truncate false ((c - 8388608) * 2 ^ k) (-(k : Int)) = ((c - 8388608 : Nat) : Int) := by
      show (((c - 8388608) * 2 ^ k * 2 ^ (-(k : Int)).toNat / 2 ^ (- -(k : Int)).toNat : Nat) : Int) = _
      rw [show (-(k : Int)).toNat = 0 by omega, show (- -(k : Int)).toNat = k by omega, Nat.pow_zero, Nat.mul_one, Nat.mul_div_cancel _ (Nat.two_pow_pos k)]
    show Int32.ofInt (max (-2 ^ 31) (min (2 ^ 31 - 1) (FP.Core.truncate false ((c - 8388608) * 2 ^ k) (-(k : Int))))) = _
    rw [et]
    refine (nI_of_t ?_)
    rw [Int32.toInt_ofInt_of_le (by omega) (by omega)]
    omega
