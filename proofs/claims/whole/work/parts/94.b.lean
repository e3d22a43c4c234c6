/-! pure part B: the reference's lines -/
theorem t64 (x : Int32) : x.toInt64.toInt = x.toInt := Int32.toInt_toInt64 x
theorem e_down {a b : Int64} {A B : Int} (ha : a.toInt = A) (hb : b.toInt = B) (h0 : 0 < B) (h1 : -4611686018427387904 ≤ A) (h2 : A ≤ 4611686018427387904) (q1 : -2147483648 ≤ A / B) (q2 : A / B < 2147483648) :
    ∃ r : Int32, f_X8_down a b = some r ∧ r.toInt = A / B := by
  have hq : (a / b).toInt = A.tdiv B := by rw [Jvm.Kit.i64_div (by rw [hb]; omega), ha, hb]
  have hid := Int.mul_tdiv_add_tmod A B
  have hm1 := Int.tmod_lt_of_pos A h0
  have hm2 : -B < A.tmod B := by
    have := Int.lt_tmod_of_pos A h0
    exact this
  have hlo : ∀ r : Int, r * B ≤ A → A < (r + 1) * B → A / B = r := by
    intro r h3 h4
    have h5 := Int.le_ediv_of_mul_le h0 h3
    have h6 := Int.ediv_lt_of_lt_mul h0 h4
    omega
  have hqb : B * A.tdiv B = A - A.tmod B := by omega
  have hcm : A.tdiv B * B = A - A.tmod B := by rw [Int.mul_comm]; exact hqb
  have hbd : -4611686018427387904 ≤ A.tdiv B ∧ A.tdiv B ≤ 4611686018427387904 := by
    have hh : A.tdiv B = A / B ∨ A.tdiv B = A / B + 1 := by
      by_cases c : 0 ≤ A.tmod B
      · left
        refine (hlo _ (by rw [hcm]; omega) ?_).symm
        rw [Int.add_mul, hcm]; omega
      · right
        have := hlo (A.tdiv B - 1) (by rw [Int.sub_mul, hcm]; omega) (by rw [Int.sub_add_cancel, hcm]; omega)
        omega
    omega
  have hmul : ((a / b) * b).toInt = A - A.tmod B := by
    have e1 : (a / b).toInt * b.toInt = A - A.tmod B := by rw [hq, hb, hcm]
    have hB : A.natAbs ≤ 4611686018427387904 := by omega
    have hmm : -4611686018427387904 ≤ A - A.tmod B ∧ A - A.tmod B ≤ 4611686018427387904 := by
      by_cases c : 0 ≤ A
      · have := Int.tmod_nonneg B c
        have h7 : A.tmod B ≤ A := by
          have h8 : 0 ≤ B * A.tdiv B := Int.mul_nonneg (by omega) (Int.tdiv_nonneg c (by omega))
          omega
        omega
      · have h9 := Int.tmod_nonneg B (a := -A) (by omega)
        rw [Int.neg_tmod] at h9
        have h8 : 0 ≤ B * (-A).tdiv B := Int.mul_nonneg (by omega) (Int.tdiv_nonneg (by omega) (by omega))
        rw [Int.neg_tdiv, Int.mul_neg] at h8
        omega
    rw [Int64.toInt_mul, e1]
    exact Int.bmod_eq_of_le (by omega) (by omega)
  unfold f_X8_down
  rw [gL_t _ (by rw [hb]; omega), nm_s]
  by_cases c : 0 ≤ A.tmod B
  · rw [if_pos (by rw [lg_cmp_le, Int64.le_iff_toInt_le, hmul, ha]; omega)]
    have e : A / B = A.tdiv B := hlo _ (by rw [hcm]; omega) (by rw [Int.add_mul, hcm]; omega)
    refine ⟨_, rfl, ?_⟩
    rw [Int64.toInt_toInt32, hq, e]
    rw [e] at q1 q2
    exact Int.bmod_eq_of_le (by omega) (by omega)
  · rw [if_neg (by rw [lg_cmp_le, Int64.le_iff_toInt_le, hmul, ha]; omega)]
    have e : A / B = A.tdiv B - 1 := hlo _ (by rw [Int.sub_mul, hcm]; omega) (by rw [Int.sub_add_cancel, hcm]; omega)
    have e2 : (a / b - 1).toInt = A.tdiv B - 1 := by
      rw [Int64.toInt_sub, hq, show (1 : Int64).toInt = 1 from rfl]
      exact Int.bmod_eq_of_le (by omega) (by omega)
    refine ⟨_, rfl, ?_⟩
    rw [Int64.toInt_toInt32, e2, e]
    rw [e] at q1 q2
    exact Int.bmod_eq_of_le (by omega) (by omega)
theorem t_l (x : Int32) : x.toInt64.toInt = x.toInt := t64 x
theorem t_lmul {a b : Int64} (h1 : -4611686018427387904 ≤ a.toInt * b.toInt) (h2 : a.toInt * b.toInt ≤ 4611686018427387904) : (a * b).toInt = a.toInt * b.toInt := by
  rw [Int64.toInt_mul]; exact Int.bmod_eq_of_le (by omega) (by omega)
/-- the number that the reference adds to the lower point -/
theorem e_dn {h w y : Int32} {H W Y : Int} (hh : h.toInt = H) (hw : w.toInt = W) (hy : y.toInt = Y) (h0 : 0 ≤ H) (h1 : H ≤ 40000) (w0 : 0 < W) (y0 : 0 ≤ Y) (y1 : Y ≤ W) (w1 : W ≤ 32000) :
    ∃ r : Int32, f_X8_down (h.toInt64 * y.toInt64) w.toInt64 = some r ∧ r.toInt = H * Y / W := by
  have hm := mul_bd (H := 40000) (Y := 32000) h0 h1 y0 (by omega)
  have e : (h.toInt64 * y.toInt64).toInt = H * Y := by
    rw [t_lmul (by rw [t_l, t_l, hh, hy]; omega) (by rw [t_l, t_l, hh, hy]; omega), t_l, t_l, hh, hy]
  have hq0 : 0 ≤ H * Y / W := Int.ediv_nonneg hm.1 (by omega)
  have hq1 : H * Y / W ≤ H * Y := Int.ediv_le_self _ hm.1
  exact e_down e (by rw [t_l, hw]) w0 (by omega) (by omega) (by omega) (by omega)
theorem e_curve_e {n i : Nat} {d f s : Nat → Int32} {x fac : Int32} {a b : Nat → Int} (hn : n ≤ 8)
    (df : ∀ i, i < n → d (10 + i) = f i) (ds : ∀ i, i < n → d (18 + i) = s i)
    (hA : ∀ i, i < n → (f i * fac).toInt = a i ∧ -2000 ≤ a i ∧ a i ≤ 30000) (hB : ∀ i, i < n → (s i * fac).toInt = b i ∧ 0 ≤ b i ∧ b i ≤ 40000)
    (ia : IncA n a) (ib : IncA n b) (hi : i + 1 < n) (h1 : a i ≤ x.toInt) (h2 : x.toInt ≤ a (i + 1)) :
    ∃ v : Int32, f_X8_curveAt_b38 d x fac (nI i) = some v ∧ v.toInt = lin (a i) (b i) (a (i + 1)) (b (i + 1)) x.toInt := by
  obtain ⟨a1, a2, a3⟩ := hA i (by omega)
  obtain ⟨a4, a5, a6⟩ := hA (i + 1) hi
  obtain ⟨b1, b2, b3⟩ := hB i (by omega)
  obtain ⟨b4, b5, b6⟩ := hB (i + 1) hi
  have h3 := ia i hi
  have h4 := ib i hi
  rw [Int32.mul_comm] at a1 a4 b1 b4
  have e8 : (fac * f (i + 1) - fac * f i).toInt = a (i + 1) - a i := by rw [t_sub (by omega) (by omega), a4, a1]
  have e10 : (fac * s (i + 1) - fac * s i).toInt = b (i + 1) - b i := by rw [t_sub (by omega) (by omega), b4, b1]
  have ex : (x - fac * f i).toInt = x.toInt - a i := by rw [t_sub (by omega) (by omega), a1]
  obtain ⟨r, hr, hr2⟩ := e_dn e10 e8 ex (by omega) (by omega) (by omega) (by omega) (by omega) (by omega)
  have hq := lin_q h3 (Int.le_of_lt h4) h1 h2
  have d1 := df i (by omega)
  have d2 : d (10 + i + 1) = f (i + 1) := df (i + 1) hi
  have d3 := ds i (by omega)
  have d4 : d (18 + i + 1) = s (i + 1) := ds (i + 1) hi
  refine ⟨fac * s i + r, ?_, ?_⟩
  · unfold f_X8_curveAt_b38
    rw [k_10, k_18, p_1, p_1, gA_i _ (by omega) (by omega), cl_i (by omega), nm_s, gA_i _ (by omega) (by omega), cl_i (by omega), nm_s, gA_i _ (by omega) (by omega), cl_i (by omega), nm_s, gA_i _ (by omega) (by omega), cl_i (by omega), d1, d2, d3, d4, hr, ob_s]
  · rw [t_add (by rw [hr2, b1]; omega) (by rw [hr2, b1]; omega), hr2, b1]
    rfl
theorem e_curve_b {n : Nat} {d f s : Nat → Int32} {x fac : Int32} {a b : Nat → Int} (hn : n ≤ 8) (d9 : d 9 = nI n)
    (df : ∀ i, i < n → d (10 + i) = f i) (ds : ∀ i, i < n → d (18 + i) = s i)
    (hA : ∀ i, i < n → (f i * fac).toInt = a i ∧ -2000 ≤ a i ∧ a i ≤ 30000) (hB : ∀ i, i < n → (s i * fac).toInt = b i ∧ 0 ≤ b i ∧ b i ≤ 40000)
    (ia : IncA n a) (ib : IncA n b) (hx2 : x.toInt ≤ a (n - 1)) : ∀ (j i k : Nat), i + 2 + j = n → j < k → a i ≤ x.toInt →
    ∃ v : Int32, f_X8_curveAt_b2 d x fac k (nI i) = some v ∧ IsV n a b x.toInt v.toInt := by
  intro j
  induction j with
  | zero =>
    intro i k hi hk hx
    obtain ⟨k, rfl⟩ : ∃ k', k = k' + 1 := ⟨k - 1, by omega⟩
    rw [show n - 1 = i + 1 by omega] at hx2
    obtain ⟨v, hv, hv2⟩ := e_curve_e hn df ds hA hB ia ib (i := i) (by omega) hx hx2
    refine ⟨v, ?_, i, by omega, hx, hx2, hv2⟩
    rw [f_X8_curveAt_b2, d9, p_2, if_pos (nI_le (by omega) (by omega)), hv]
  | succ j ih =>
    intro i k hi hk hx
    obtain ⟨k, rfl⟩ : ∃ k', k = k' + 1 := ⟨k - 1, by omega⟩
    obtain ⟨a1, -, -⟩ := hA (i + 1) (by omega)
    rw [Int32.mul_comm] at a1
    have d2 : d (10 + i + 1) = f (i + 1) := df (i + 1) (by omega)
    rw [f_X8_curveAt_b2, d9, p_2, if_neg (nI_ge (by omega) (by omega)), k_10, p_1, gA_i _ (by omega) (by omega), cl_i (by omega), d2]
    by_cases h : x.toInt < a (i + 1)
    · rw [if_pos (by rw [t_lt, a1]; exact h)]
      obtain ⟨v, hv, hv2⟩ := e_curve_e hn df ds hA hB ia ib (i := i) (by omega) hx (Int.le_of_lt h)
      exact ⟨v, hv, i, by omega, hx, Int.le_of_lt h, hv2⟩
    · rw [if_neg (by rw [t_lt, a1]; exact h), nm_s, p_1]
      exact ih (i + 1) k (by omega) (by omega) (by omega)
theorem e_curveAt {N n : Nat} {d f s : Nat → Int32} {x fac : Int32} {a b : Nat → Int} (hN : n < N) (h2 : 2 ≤ n) (hn : n ≤ 8) (d9 : d 9 = nI n)
    (df : ∀ i, i < n → d (10 + i) = f i) (ds : ∀ i, i < n → d (18 + i) = s i)
    (hA : ∀ i, i < n → (f i * fac).toInt = a i ∧ -2000 ≤ a i ∧ a i ≤ 30000) (hB : ∀ i, i < n → (s i * fac).toInt = b i ∧ 0 ≤ b i ∧ b i ≤ 40000)
    (ia : IncA n a) (ib : IncA n b) (hx : a 0 ≤ x.toInt) (hx2 : x.toInt ≤ a (n - 1)) :
    ∃ v : Int32, f_X8_curveAt N d x fac = some v ∧ IsV n a b x.toInt v.toInt :=
  e_curve_b hn d9 df ds hA hB ia ib hx2 (n - 2) 0 N (by omega) (by omega) hx
/-! the curve: what both sides hold -/
def RC (z : Int32) (f s d : Nat → Int32) : Prop := ∃ n : Nat, 2 ≤ n ∧ n ≤ 8 ∧ z = nI n ∧ d 9 = nI n ∧ (∀ i, i < n → d (10 + i) = f i) ∧ (∀ i, i < n → d (18 + i) = s i) ∧
  (f 0).toInt = 0 ∧ (s 0).toInt = 0 ∧ (f (n - 1)).toInt = 1000 ∧ (s (n - 1)).toInt ≤ 20000 ∧ IncA n (fun i => (f i).toInt) ∧ IncA n (fun i => (s i).toInt)
theorem RC_bd {n : Nat} {f : Nat → Int32} {top : Int} (h2 : 2 ≤ n) (h0 : (f 0).toInt = 0) (h1 : (f (n - 1)).toInt ≤ top) (hi : IncA n (fun i => (f i).toInt)) : ∀ i, i < n → 0 ≤ (f i).toInt ∧ (f i).toInt ≤ top := by
  intro i hn
  have a := inc_le hi (i := 0) (j := i) (by omega) hn
  have b := inc_le hi (i := i) (j := n - 1) (by omega) (by omega)
  have a' : (f 0).toInt ≤ (f i).toInt := a
  have b' : (f i).toInt ≤ (f (n - 1)).toInt := b
  omega
/-- both find the same value on the curve, and it is in its range -/
theorem cv {N M : Nat} {z : Int32} {f s d : Nat → Int32} {x fac : Int32} {c : Int} (hN : 8 < N) (hM : 8 ≤ M) (hb : M < 2147483648) (R : RC z f s d) (hf : fac.toInt = c) (hc : c = 1 ∨ c = 2) (x0 : 0 ≤ x.toInt) (x1 : x.toInt ≤ 1000 * c) :
    ∃ v : Int32, f_X2_valueAt N M z f s x fac = some v ∧ f_X8_curveAt N d x fac = some v ∧ 0 ≤ v.toInt ∧ v.toInt ≤ 20000 * c := by
  obtain ⟨n, h2, h8, rfl, d9, df, ds, f0, s0, f1, s1, i1, i2⟩ := R
  have bf := RC_bd h2 f0 (Int.le_of_eq f1) i1
  have bs := RC_bd h2 s0 s1 i2
  have hA : ∀ i, i < n → (f i * fac).toInt = (f i).toInt * c ∧ -2000 ≤ (f i).toInt * c ∧ (f i).toInt * c ≤ 30000 := by
    intro i hi
    have := bf i hi
    rcases hc with rfl | rfl
    · exact ⟨by rw [t_mul (by rw [hf]; omega) (by rw [hf]; omega), hf], by omega, by omega⟩
    · exact ⟨by rw [t_mul (by rw [hf]; omega) (by rw [hf]; omega), hf], by omega, by omega⟩
  have hB : ∀ i, i < n → (s i * fac).toInt = (s i).toInt * c ∧ 0 ≤ (s i).toInt * c ∧ (s i).toInt * c ≤ 40000 := by
    intro i hi
    have := bs i hi
    rcases hc with rfl | rfl
    · exact ⟨by rw [t_mul (by rw [hf]; omega) (by rw [hf]; omega), hf], by omega, by omega⟩
    · exact ⟨by rw [t_mul (by rw [hf]; omega) (by rw [hf]; omega), hf], by omega, by omega⟩
  have ia : IncA n (fun i => (f i).toInt * c) := by
    intro i hi
    have : (f i).toInt < (f (i + 1)).toInt := i1 i hi
    show (f i).toInt * c < (f (i + 1)).toInt * c
    rcases hc with rfl | rfl <;> omega
  have ib : IncA n (fun i => (s i).toInt * c) := by
    intro i hi
    have : (s i).toInt < (s (i + 1)).toInt := i2 i hi
    show (s i).toInt * c < (s (i + 1)).toInt * c
    rcases hc with rfl | rfl <;> omega
  have hx : (fun i => (f i).toInt * c) 0 ≤ x.toInt := by
    show (f 0).toInt * c ≤ x.toInt
    rw [f0]; omega
  have hx2 : x.toInt ≤ (fun i => (f i).toInt * c) (n - 1) := by
    show x.toInt ≤ (f (n - 1)).toInt * c
    rw [f1]; exact x1
  obtain ⟨v, hv, hv2⟩ := e_value (N := N) (M := M) (by omega) h2 (by omega) hb hA hB ia ib hx hx2
  obtain ⟨w, hw, hw2⟩ := e_curveAt (N := N) (by omega) h2 h8 d9 df ds hA hB ia ib hx hx2
  have e : v = w := t_eq.mpr (IsV_u ia hv2 hw2)
  have hr := IsV_in ia ib hv2
  have r1 : (s 0).toInt * c ≤ v.toInt := hr.1
  have r2 : v.toInt ≤ (s (n - 1)).toInt * c := hr.2
  rw [s0] at r1
  refine ⟨v, hv, e ▸ hw, by omega, ?_⟩
  rcases hc with rfl | rfl <;> omega
/-! the scale -/
def RK (z : Int32) (f s d : Nat → Int32) : Prop := ∃ n : Nat, 2 ≤ n ∧ n ≤ 6 ∧ z = nI n ∧ d 26 = nI n ∧ (∀ i, i < n → d (27 + i) = f i) ∧ (∀ i, i < n → d (34 + i) = s i) ∧
  -1000 ≤ (f 0).toInt ∧ (f (n - 1)).toInt ≤ 30000 ∧ 0 ≤ (s 0).toInt ∧ (s (n - 1)).toInt ≤ 1000 ∧ IncA n (fun i => (f i).toInt) ∧ IncA n (fun i => (s i).toInt)
theorem RK_bd {n : Nat} {f : Nat → Int32} {lo up : Int} (h0 : lo ≤ (f 0).toInt) (h1 : (f (n - 1)).toInt ≤ up) (hi : IncA n (fun i => (f i).toInt)) : ∀ i, i < n → lo ≤ (f i).toInt ∧ (f i).toInt ≤ up := by
  intro i hn
  have a : (f 0).toInt ≤ (f i).toInt := inc_le hi (i := 0) (j := i) (by omega) hn
  have b : (f i).toInt ≤ (f (n - 1)).toInt := inc_le hi (i := i) (j := n - 1) (by omega) (by omega)
  omega
theorem mul_one32 (x : Int32) : x * (1 : Int32) = x := Int32.mul_one x
theorem e_reading_b {n : Nat} {d f s : Nat → Int32} {x : Int32} (hn : n ≤ 6)
    (df : ∀ i, i < n → d (27 + i) = f i) (ds : ∀ i, i < n → d (34 + i) = s i)
    (hA : ∀ i, i < n → -1000 ≤ (f i).toInt ∧ (f i).toInt ≤ 30000) (hB : ∀ i, i < n → 0 ≤ (s i).toInt ∧ (s i).toInt ≤ 1000)
    (ia : IncA n (fun i => (f i).toInt)) (ib : IncA n (fun i => (s i).toInt)) (hx2 : x.toInt < (f (n - 1)).toInt) : ∀ (j i k : Nat), i + 1 + j = n → j < k → (f i).toInt ≤ x.toInt →
    ∃ v : Int32, f_X8_readingOf_b54 d x k (nI i) = some v ∧ IsV n (fun i => (f i).toInt) (fun i => (s i).toInt) x.toInt v.toInt := by
  intro j
  induction j with
  | zero =>
    intro i k hi hk hx
    rw [show n - 1 = i by omega] at hx2
    omega
  | succ j ih =>
    intro i k hi hk hx
    obtain ⟨k, rfl⟩ : ∃ k', k = k' + 1 := ⟨k - 1, by omega⟩
    have d1 := df i (by omega)
    have d2 : d (27 + i + 1) = f (i + 1) := df (i + 1) (by omega)
    have d3 := ds i (by omega)
    have d4 : d (34 + i + 1) = s (i + 1) := ds (i + 1) (by omega)
    have hA1 := hA i (by omega)
    have hA2 := hA (i + 1) (by omega)
    have hB1 := hB i (by omega)
    have hB2 := hB (i + 1) (by omega)
    have h3 : (f i).toInt < (f (i + 1)).toInt := ia i (by omega)
    have h4 : (s i).toInt < (s (i + 1)).toInt := ib i (by omega)
    rw [f_X8_readingOf_b54, k_27, p_1, gA_i _ (by omega) (by omega), cl_i (by omega), d2]
    by_cases h : x.toInt < (f (i + 1)).toInt
    · have e8 : (f (i + 1) - f i).toInt = (f (i + 1)).toInt - (f i).toInt := t_sub (by omega) (by omega)
      have e10 : (s (i + 1) - s i).toInt = (s (i + 1)).toInt - (s i).toInt := t_sub (by omega) (by omega)
      have ex : (x - f i).toInt = x.toInt - (f i).toInt := t_sub (by omega) (by omega)
      obtain ⟨r, hr, hr2⟩ := e_dn e10 e8 ex (by omega) (by omega) (by omega) (by omega) (by omega) (by omega)
      have hq := lin_q h3 (Int.le_of_lt h4) hx (Int.le_of_lt h)
      refine ⟨s i + r, ?_, i, by omega, hx, Int.le_of_lt h, ?_⟩
      · rw [if_pos (by rw [t_lt]; exact h), k_34, p_1, gA_i _ (by omega) (by omega), gA_i _ (by omega) (by omega), cl_i (by omega), cl_i (by omega), nm_s, gA_i _ (by omega) (by omega), gA_i _ (by omega) (by omega), gA_i _ (by omega) (by omega), gA_i _ (by omega) (by omega), cl_i (by omega), d1, d3, d4, hr, ob_s]
      · rw [t_add (by rw [hr2]; omega) (by rw [hr2]; omega), hr2]
        rfl
    · rw [if_neg (by rw [t_lt]; exact h), nm_s, p_1]
      exact ih (i + 1) k (by omega) (by omega) (by omega)
/-- both read the same at a place -/
theorem rd {N : Nat} {z : Int32} {f s d : Nat → Int32} {x : Int32} (hN : 8 < N) (R : RK z f s d) :
    ∃ v : Int32, f_X2_valueAt N 6 z f s x 1 = some v ∧ f_X8_readingOf N d x = some v := by
  obtain ⟨n, h2, h6, rfl, d26, df, ds, f0, f1, s0, s1, i1, i2⟩ := R
  have bf := RK_bd f0 f1 i1
  have bs := RK_bd s0 s1 i2
  have d0 : d 27 = f 0 := df 0 (by omega)
  have dl := df (n - 1) (by omega)
  have sl := ds (n - 1) (by omega)
  have e1 : nI n - 1 = nI (n - 1) := by
    obtain ⟨m, rfl⟩ : ∃ m, n = m + 1 := ⟨n - 1, by omega⟩
    exact m_1 m
  unfold f_X8_readingOf
  rw [d26, nm_s, e1, d0]
  by_cases h1 : (f 0).toInt < x.toInt
  · rw [if_pos (t_lt.mpr h1), k_27, gA_i _ (by omega) (by omega), cl_i (by omega), dl]
    by_cases h3 : x.toInt < (f (n - 1)).toInt
    · rw [if_pos (t_lt.mpr h3)]
      obtain ⟨w, hw, hw2⟩ := e_reading_b h6 df ds bf bs i1 i2 h3 (n - 1) 0 N (by omega) (by omega) (Int.le_of_lt h1)
      obtain ⟨v, hv, hv2⟩ := e_value (N := N) (M := 6) (n := n) (f := f) (s := s) (x := x) (fac := 1) (a := fun i => (f i).toInt) (b := fun i => (s i).toInt) (by omega) h2 h6 (by omega)
        (fun i hi => by have := bf i hi; exact ⟨by rw [mul_one32], by omega, by omega⟩) (fun i hi => by have := bs i hi; exact ⟨by rw [mul_one32], by omega, by omega⟩) i1 i2 (Int.le_of_lt h1) (Int.le_of_lt h3)
      have e : v = w := t_eq.mpr (IsV_u i1 hv2 hw2)
      exact ⟨v, hv, e ▸ hw⟩
    · rw [if_neg (fun e => h3 (t_lt.mp e)), k_34, gA_i _ (by omega) (by omega), cl_i (by omega), sl]
      refine ⟨_, ?_, rfl⟩
      -- beyond the last one: at it the line's value, behind it the loop runs out
      have key : ∀ (j i k : Nat), i + 1 + j = n → j < k → f_X2_valueAt_b21 6 (nI n) f s x 1 k (nI (i + 1)) = some (s (n - 1)) := by
        intro j
        induction j with
        | zero =>
          intro i k hi hk
          obtain ⟨k, rfl⟩ : ∃ k', k = k' + 1 := ⟨k - 1, by omega⟩
          rw [f_X2_valueAt_b21, if_pos (nI_le (by omega) (by omega)), e1, e_second (by omega) h6 (by omega), ob_s, mul_one32]
        | succ j ih =>
          intro i k hi hk
          obtain ⟨k, rfl⟩ : ∃ k', k = k' + 1 := ⟨k - 1, by omega⟩
          rw [f_X2_valueAt_b21, if_neg (nI_ge (by omega) (by omega)), gA_i _ (by omega) (by omega), cl_i (by omega), mul_one32]
          by_cases h : (f (i + 1)).toInt < x.toInt
          · rw [if_pos (t_lt.mpr h), nm_s, p_1]
            exact ih (i + 1) k (by omega) (by omega)
          · rw [if_neg (fun e => h (t_lt.mp e))]
            have hl : i + 1 = n - 1 := by
              by_cases e : i + 1 = n - 1
              · exact e
              · have : (f (i + 1)).toInt < (f (n - 1)).toInt := inc_lt i1 (n - 1) (i + 1) (by omega) (by omega)
                omega
            have hx : x.toInt = (f (i + 1)).toInt := by rw [hl] at h ⊢; omega
            have hi1 : (f i).toInt < (f (i + 1)).toInt := i1 i (by omega)
            obtain ⟨v, hv, hv2⟩ := e_between (M := 6) (n := n) (i := i) (f := f) (s := s) (x := x) (fac := 1) (a := fun i => (f i).toInt) (b := fun i => (s i).toInt) h6 (by omega)
              (fun i hi => by have := bf i hi; exact ⟨by rw [mul_one32], by omega, by omega⟩) (fun i hi => by have := bs i hi; exact ⟨by rw [mul_one32], by omega, by omega⟩) i1 i2 (by omega) (by show (f i).toInt ≤ x.toInt; omega) (by show x.toInt ≤ (f (i + 1)).toInt; omega)
            rw [hv, ob_s]
            rw [hx, lin_hi hi1] at hv2
            rw [← hl, t_eq.mpr hv2]
      unfold f_X2_valueAt
      rw [show (0 : Int32) = nI 0 from rfl, e_first (by omega) h6 (by omega), ob_s, mul_one32, if_pos (t_lt.mpr h1)]
      exact key (n - 1) 0 N (by omega) (by omega)
  · rw [if_neg (fun e => h1 (t_lt.mp e))]
    refine ⟨s 0, ?_, by rw [show d 34 = s 0 from ds 0 (by omega)]⟩
    unfold f_X2_valueAt
    rw [show (0 : Int32) = nI 0 from rfl, e_first (by omega) h6 (by omega), ob_s, mul_one32, if_neg (fun e => h1 (t_lt.mp e)), e_second (by omega) h6 (by omega), ob_s, mul_one32]
theorem rdg {N : Nat} {z : Int32} {f s d : Nat → Int32} {x : Int32} (hN : 8 < N) (R : RK z f s d) (h3 : d 3 = x) :
    ∃ v : Int32, f_X0_reading N 6 x z f s = some v ∧ f_X8_reads N d = some v := by
  obtain ⟨v, h1, h2⟩ := rd (x := x) hN R
  exact ⟨v, by unfold f_X0_reading; rw [h1, ob_s], by unfold f_X8_reads; rw [h3, h2, ob_s]⟩
