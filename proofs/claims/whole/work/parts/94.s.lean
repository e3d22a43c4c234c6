/-! pure part S: the slope's bits, by halving and doubling -/
-- FP.Core
theorem v_lt {a b : Int} {op : CmpOp} : (Op.cmpValue (some (compare a b)) op < 0) ↔ a < b := by
  rcases Int.lt_trichotomy a b with h | h | h
  · rw [Int.compare_eq_lt.mpr h]; exact ⟨fun _ => h, fun _ => by cases op <;> decide⟩
  · rw [Int.compare_eq_eq.mpr h]; exact ⟨fun e => absurd e (by cases op <;> decide), fun e => by omega⟩
  · rw [Int.compare_eq_gt.mpr h]; exact ⟨fun e => absurd e (by cases op <;> decide), fun e => by omega⟩
theorem v_ge {a b : Int} {op : CmpOp} : (0 ≤ Op.cmpValue (some (compare a b)) op) ↔ b ≤ a := by
  rcases Int.lt_trichotomy a b with h | h | h
  · rw [Int.compare_eq_lt.mpr h]; exact ⟨fun e => absurd e (by cases op <;> decide), fun e => by omega⟩
  · rw [Int.compare_eq_eq.mpr h]; exact ⟨fun _ => by omega, fun _ => by cases op <;> decide⟩
  · rw [Int.compare_eq_gt.mpr h]; exact ⟨fun _ => by omega, fun _ => by cases op <;> decide⟩
theorem v_gt {a b : Int} {op : CmpOp} : (0 < Op.cmpValue (some (compare a b)) op) ↔ b < a := by
  rcases Int.lt_trichotomy a b with h | h | h
  · rw [Int.compare_eq_lt.mpr h]; exact ⟨fun e => absurd e (by cases op <;> decide), fun e => by omega⟩
  · rw [Int.compare_eq_eq.mpr h]; exact ⟨fun e => absurd e (by cases op <;> decide), fun e => by omega⟩
  · rw [Int.compare_eq_gt.mpr h]; exact ⟨fun _ => h, fun _ => by cases op <;> decide⟩
theorem f_n1 : FP.fconst1.toNat = 127 * 8388608 := by decide
theorem f_n2 : FP.fconst2.toNat = 128 * 8388608 := by decide
theorem f_b1 : NF 8388608 (-23) := ⟨by omega, by omega, by omega, by omega⟩
theorem f_b2 : NF 8388608 (-22) := ⟨by omega, by omega, by omega, by omega⟩
/-- what stands when x lies from 1 to 2 -/
theorem f_end {x : UInt32} {c m : Nat} (h : NF c (-23)) (hx : VF x c (-23)) (hm : m < 512) : gT ((FP.fsub x FP.fconst1) &&& 0x7fffffff ≤ 0x7f800000) (gT ((FP.fmul (FP.fsub x FP.fconst1) (1258291200 : UInt32)) &&& 0x7fffffff ≤ 0x7f800000) (some ((nI m <<< ((23 : Int32) &&& 31)) + (FP.f2i (FP.fmul (FP.fsub x FP.fconst1) (1258291200 : UInt32)))))) = some (nI (m * 8388608 + (c - 8388608))) := by
  obtain ⟨g1, g2, g3⟩ := f_frac h hx
  rw [gT_t _ g1, gT_t _ g2, g3, pk_shlN ((23 : Int32) &&& 31) 23 (by decide) (by omega), nI_add]
theorem f_lo {c : Nat} (c0 : 8388608 ≤ c) (c1 : c < 16777216) : ∀ (j k i m : Nat) (x : UInt32), VF x c (-23 - (j : Int)) → i + j ≤ 126 → j < k → j ≤ m → m < 512 → f_X7_bitsOf_b44 k x (nI m) (nI i) = some (nI ((m - j) * 8388608 + (c - 8388608))) := by
  intro j
  induction j with
  | zero =>
    intro k i m x hx hi hk hm hm2
    obtain ⟨k, rfl⟩ : ∃ k', k = k' + 1 := ⟨k - 1, by omega⟩
    have hx' : VF x c (-23) := hx
    have hN : NF c (-23) := ⟨c0, c1, by omega, by omega⟩
    rw [f_X7_bitsOf_b44]
    by_cases h : (126 : Int32) ≤ nI i
    · rw [if_pos h]; exact f_end hN hx' hm2
    · rw [if_neg h, f_cmp hN hx' f_b1 f_k1, if_pos (v_ge.mpr (by rw [f_bits hN hx', f_n1, show ((-23 : Int) + 150).toNat = 127 by decide]; omega))]
      exact f_end hN hx' hm2
  | succ j ih =>
    intro k i m x hx hi hk hm hm2
    obtain ⟨k, rfl⟩ : ∃ k', k = k' + 1 := ⟨k - 1, by omega⟩
    have hN : NF c (-23 - ((j + 1 : Nat) : Int)) := ⟨c0, c1, by omega, by omega⟩
    have hb := f_bits hN hx
    have h2 : VF (FP.fmul x FP.fconst2) c (-23 - ((j + 1 : Nat) : Int) + -22 + 23) := f_mul hx f_k2 ⟨c0, c1, by omega, by omega⟩
    have h3 : VF (FP.fmul x FP.fconst2) c (-23 - (j : Int)) := by rw [show -23 - (j : Int) = -23 - ((j + 1 : Nat) : Int) + -22 + 23 by omega]; exact h2
    obtain ⟨m, rfl⟩ : ∃ m', m = m' + 1 := ⟨m - 1, by omega⟩
    rw [f_X7_bitsOf_b44, if_neg (show ¬ (126 : Int32) ≤ nI i from (show ¬ nI 126 ≤ nI i from nI_ge (by omega) (by omega))), f_cmp hN hx f_b1 f_k1, if_neg (fun e => by
      have := v_ge.mp e
      rw [hb, f_n1] at this
      have e2 : (-23 - ((j + 1 : Nat) : Int) + 150).toNat ≤ 126 := by omega
      omega), gT_t _ (f_ok h3), nm_s, t_add1, m_1, nm_s, p_1, nm_s, ih k (i + 1) m _ h3 (by omega) (by omega) (by omega) (by omega), show m + 1 - (j + 1) = m - j by omega]
theorem f_hi {N c : Nat} (hN1 : 1 ≤ N) (c0 : 8388608 ≤ c) (c1 : c < 16777216) : ∀ (j k i m : Nat) (x : UInt32), VF x c (-23 + (j : Int)) → i + j ≤ 126 → j < k → m + j < 512 → f_X7_bitsOf_b15 N k x (nI m) (nI i) = some (nI ((m + j) * 8388608 + (c - 8388608))) := by
  intro j
  induction j with
  | zero =>
    intro k i m x hx hi hk hm
    obtain ⟨k, rfl⟩ : ∃ k', k = k' + 1 := ⟨k - 1, by omega⟩
    have hx' : VF x c (-23) := hx
    have hN : NF c (-23) := ⟨c0, c1, by omega, by omega⟩
    have hl := f_lo c0 c1 0 N 0 m x hx (by omega) (by omega) (by omega) (by omega)
    rw [f_X7_bitsOf_b15, if_neg (show ¬ (127 : Int32) ≤ nI i from (show ¬ nI 127 ≤ nI i from nI_ge (by omega) (by omega))), f_cmp hN hx' f_b2 f_k2, if_pos (v_lt.mpr (by rw [f_bits hN hx', f_n2, show ((-23 : Int) + 150).toNat = 127 by decide]; omega))]
    exact hl
  | succ j ih =>
    intro k i m x hx hi hk hm
    obtain ⟨k, rfl⟩ : ∃ k', k = k' + 1 := ⟨k - 1, by omega⟩
    have hN : NF c (-23 + ((j + 1 : Nat) : Int)) := ⟨c0, c1, by omega, by omega⟩
    have hb := f_bits hN hx
    have h2 : VF (FP.fmul x 1056964608) c (-23 + ((j + 1 : Nat) : Int) + -24 + 23) := f_mul hx f_kh ⟨c0, c1, by omega, by omega⟩
    have h3 : VF (FP.fmul x 1056964608) c (-23 + (j : Int)) := by rw [show -23 + (j : Int) = -23 + ((j + 1 : Nat) : Int) + -24 + 23 by omega]; exact h2
    rw [f_X7_bitsOf_b15, if_neg (show ¬ (127 : Int32) ≤ nI i from (show ¬ nI 127 ≤ nI i from nI_ge (by omega) (by omega))), f_cmp hN hx f_b2 f_k2, if_neg (fun e => by
      have := v_lt.mp e
      rw [hb, f_n2] at this
      have e2 : 128 ≤ (-23 + ((j + 1 : Nat) : Int) + 150).toNat := by omega
      omega), gT_t _ (f_ok h3), nm_s, p_1, nm_s, p_1, nm_s, ih k (i + 1) (m + 1) _ h3 (by omega) (by omega) (by omega), show m + 1 + j = m + (j + 1) by omega]
theorem f_i32 (x : UInt32) : UInt32.toInt32 x = nI x.toNat := by
  apply Int32.toBitVec_inj.mp
  show x.toBitVec = BitVec.ofNat 32 x.toBitVec.toNat
  rw [BitVec.ofNat_toNat, BitVec.setWidth_eq]
theorem f_nan {x : UInt32} {c : Nat} {q : Int} (h : NF c q) (hx : VF x c q) : f_Jxf58ca_isNaN_12338 x = some 0 := by
  unfold f_Jxf58ca_isNaN_12338
  rw [f_cmp h hx h hx, Int.compare_eq_eq.mpr rfl, if_pos (by decide)]
/-- the bits that halving and doubling find are the bits -/
theorem f_bo {N c : Nat} {q : Int} {x : UInt32} (hN : 200 ≤ N) (h : NF c q) (hq : q ≤ 100) (hx : VF x c q) : f_X7_bitsOf N x = some (UInt32.toInt32 x) := by
  have hb := f_bits h hx
  obtain ⟨c0, c1, q0, q1⟩ := id h
  have hx2 := hx
  unfold VF at hx2
  have h0 : FP.fcmp x FP.fconst0 = some (compare (x.toNat : Int) 0) := by
    rw [show FP.fcmp x FP.fconst0 = FP.Core.fcmp x FP.Core.fconst0 from rfl, FP.Core.fcmp_key (by rw [hx2]; exact FP.Core.Datum.noConfusion) (by rw [FP.Core.val32_fconst0]; exact FP.Core.Datum.noConfusion), show FP.Core.fkey FP.Core.fconst0 = 0 by decide]
    unfold FP.Core.fkey
    rw [if_neg (by omega)]
  unfold f_X7_bitsOf
  rw [h0, if_pos (v_gt.mpr (by omega)), f_i32, hb]
  by_cases c2 : -23 ≤ q
  · have e := f_hi (N := N) (by omega) c0 c1 (q + 23).toNat N 0 127 x (by rw [show -23 + ((q + 23).toNat : Int) = q by omega]; exact hx) (by omega) (by omega) (by omega)
    rw [show (127 + (q + 23).toNat) = (q + 150).toNat by omega] at e
    exact e
  · have e := f_lo c0 c1 (-23 - q).toNat N 0 127 x (by rw [show -23 - ((-23 - q).toNat : Int) = q by omega]; exact hx) (by omega) (by omega) (by omega) (by omega)
    rw [show 127 - (-23 - q).toNat = (q + 150).toNat by omega] at e
    obtain ⟨N', rfl⟩ : ∃ k', N = k' + 1 := ⟨N - 1, by omega⟩
    rw [f_X7_bitsOf_b15, if_neg (by decide), f_cmp h hx f_b2 f_k2, if_pos (v_lt.mpr (by
      rw [hb, f_n2]
      have e2 : (q + 150).toNat ≤ 126 := by omega
      omega))]
    exact e

theorem s_slopeBits {N : Nat} {L : Int32} {E : Int32} {C : Int32} {P : Int32} {W : Int32} {A : Int64} {dz : Int32} {rt : Int32} {st : Int32} {z : Int32} {T : Nat → Int32} {X : Nat → Int32} {zc : Int32} {fc : Nat → Int32} {sc : Nat → Int32} {zk : Int32} {fk : Nat → Int32} {sk : Nat → Int32} {zw : Int32} {ms : Nat → Int32} {es : Nat → Int32} {vs : Nat → Int32} {ps : Nat → Int32} {pn : Nat → Int32} {hs : Int32} {hB : Nat → BS} {sts : Int32} {d : Nat → Int32} {was : Nat → Int32} {ac : Int64} {acs : Nat → Int64} {p0 : Int32} (hN : 20000 ≤ N) (R : RB24 L E C P W A dz rt st z T X zc fc sc zk fk sk zw ms es vs ps pn d ac) (H : RH hs hB sts was acs) :
    ∃ (r : Int32), f_X7_slopeBits N zk fk sk p0 = some r ∧ f_X8_slopeBits d p0 = some r := by
  obtain ⟨-, -, -, hK, -⟩ := R
  obtain ⟨n, n2, n6, rfl, d26, df, ds, f0, f1, s0, s1, i1, i2⟩ := hK
  unfold f_X7_slopeBits f_X8_slopeBits
  rw [d26]
  by_cases c : 0 ≤ p0
  · rw [if_pos c, if_pos c]
    by_cases c2 : p0 < nI n - 1
    · rw [if_pos c2, if_pos c2]
      obtain ⟨m, rfl⟩ : ∃ m, n = m + 1 := ⟨n - 1, by omega⟩
      rw [m_1] at c2
      obtain ⟨i, hi, rfl⟩ : ∃ i : Nat, i < m ∧ p0 = nI i := by
        rw [t_le, t_0] at c
        rw [t_lt, t_nI (by omega)] at c2
        exact ⟨p0.toInt.toNat, by omega, nI_of_t (by omega)⟩
      have bf := RK_bd f0 f1 i1
      have bs := RK_bd s0 s1 i2
      have x1 := bf i (by omega)
      have x2 := bf (i + 1) (by omega)
      have y1 := bs i (by omega)
      have y2 := bs (i + 1) (by omega)
      have lf : (fk i).toInt < (fk (i + 1)).toInt := i1 i (by omega)
      have ls : (sk i).toInt < (sk (i + 1)).toInt := i2 i (by omega)
      have ef : (fk (i + 1) - fk i).toInt = (fk (i + 1)).toInt - (fk i).toInt := t_sub (by omega) (by omega)
      have es' : (sk (i + 1) - sk i).toInt = (sk (i + 1)).toInt - (sk i).toInt := t_sub (by omega) (by omega)
      obtain ⟨w, w0, w1, ew⟩ : ∃ w : Nat, 1 ≤ w ∧ w ≤ 31000 ∧ fk (i + 1) - fk i = nI w := ⟨(fk (i + 1) - fk i).toInt.toNat, by omega, by omega, nI_of_t (by omega)⟩
      obtain ⟨h, h0, h1, eh⟩ : ∃ h : Nat, 1 ≤ h ∧ h ≤ 1000 ∧ sk (i + 1) - sk i = nI h := ⟨(sk (i + 1) - sk i).toInt.toNat, by omega, by omega, nI_of_t (by omega)⟩
      obtain ⟨k, k1, k2, k3, vh⟩ := f_i2f (a := h) h0 (by omega)
      obtain ⟨l, l1, l2, l3, vw⟩ := f_i2f (a := w) w0 (by omega)
      obtain ⟨c', q', hN', hq, hx⟩ := f_div vh vw (by omega) k3 (by omega) l3 (by omega) (by omega)
      have hbo := f_bo (N := N) (by omega) hN' hq hx
      refine ⟨UInt32.toInt32 (FP.fdiv (FP.i2f (nI h)) (FP.i2f (nI w))), ?_, ?_⟩
      · unfold f_X2_slopeAfter
        rw [p_1, e_first (by omega) (by omega) (by omega), ob_s, e_first (by omega) (by omega) (by omega), ob_s, ew, nm_s, e_second (by omega) (by omega) (by omega), ob_s, e_second (by omega) (by omega) (by omega), ob_s, eh, nm_s, if_neg (show ¬ nI w ≤ 0 from (show ¬ nI w ≤ nI 0 from nI_ge (by omega) (by omega))), gT_t _ (f_ok hx), ob_s, hbo, ob_s]
      · rw [k_34, k_27, p_1, p_1, gA_i _ (by omega) (by omega), gA_i _ (by omega) (by omega), cl_i (n := 34 + i + 1) (by omega), cl_i (n := 34 + i) (by omega), show 34 + i + 1 = 34 + (i + 1) by omega, ds i (by omega), ds (i + 1) (by omega), eh, nm_s, gA_i _ (by omega) (by omega), gA_i _ (by omega) (by omega), cl_i (n := 27 + i + 1) (by omega), cl_i (n := 27 + i) (by omega), show 27 + i + 1 = 27 + (i + 1) by omega, df i (by omega), df (i + 1) (by omega), ew, nm_s, gT_t _ (f_ok hx)]
        unfold f_Jxf58ca_floatToIntBits_5c35a
        rw [f_nan hN' hx, ob_s, if_neg o2, ob_s]
    · rw [if_neg c2, if_neg c2]
      exact ⟨_, rfl, rfl⟩
  · rw [if_neg c, if_neg c]
    exact ⟨_, rfl, rfl⟩

