/-! pure part B: curves as functions -/
theorem t_l (x : Int32) : x.toInt64.toInt = x.toInt := Int32.toInt_toInt64 x
theorem mul_one32 (x : Int32) : x * (1 : Int32) = x := Int32.mul_one x
theorem RC_bd {n : Nat} {f : Nat → Int32} {top : Int} (h2 : 2 ≤ n) (h0 : (f 0).toInt = 0) (h1 : (f (n - 1)).toInt ≤ top) (hi : IncA n (fun i => (f i).toInt)) : ∀ i, i < n → 0 ≤ (f i).toInt ∧ (f i).toInt ≤ top := by
  intro i hn
  have a' : (f 0).toInt ≤ (f i).toInt := inc_le hi (i := 0) (j := i) (by omega) hn
  have b' : (f i).toInt ≤ (f (n - 1)).toInt := inc_le hi (i := i) (j := n - 1) (by omega) (by omega)
  omega
theorem IsV_ex {n : Nat} {a s : Nat → Int} {x : Int} : ∀ (j i : Nat), i + 1 + j = n → 1 ≤ j → a i ≤ x → x ≤ a (n - 1) → ∃ v, IsV n a s x v := by
  intro j
  induction j with
  | zero => intro i h1 h2; omega
  | succ j ih =>
    intro i h1 h2 h3 h4
    by_cases h : x ≤ a (i + 1)
    · exact ⟨_, i, by omega, h3, h, rfl⟩
    · by_cases hj : j = 0
      · subst hj
        rw [show n - 1 = i + 1 by omega] at h4
        exact absurd h4 h
      · exact ih (i + 1) (by omega) (by omega) (by omega) h4
theorem lin_mono {a0 s0 a1 s1 x y : Int} (h : a0 < a1) (hs : s0 ≤ s1) (hxy : x ≤ y) : lin a0 s0 a1 s1 x ≤ lin a0 s0 a1 s1 y := by
  unfold lin
  have h3 : (s1 - s0) * (x - a0) ≤ (s1 - s0) * (y - a0) := Int.mul_le_mul_of_nonneg_left (by omega) (by omega)
  have h4 := Int.ediv_le_ediv (show 0 < a1 - a0 by omega) h3
  omega
theorem IsV_mono {n : Nat} {a s : Nat → Int} {x y v w : Int} (ha : IncA n a) (hs : IncA n s) (h1 : IsV n a s x v) (h2 : IsV n a s y w) (hxy : x ≤ y) : v ≤ w := by
  obtain ⟨i, hi, ha1, ha2, hv⟩ := id h1
  obtain ⟨j, hj, hb1, hb2, hw⟩ := id h2
  rcases Nat.lt_trichotomy i j with h | h | h
  · have l1 := lin_in (ha i hi) (Int.le_of_lt (hs i hi)) ha1 ha2
    have l2 := lin_in (ha j hj) (Int.le_of_lt (hs j hj)) hb1 hb2
    have l3 := inc_le hs (i := i + 1) (j := j) (by omega) (by omega)
    omega
  · subst h
    rw [hv, hw]
    exact lin_mono (ha i hi) (Int.le_of_lt (hs i hi)) hxy
  · have l3 := inc_le ha (i := j + 1) (j := i) (by omega) (by omega)
    have e : x = y := by omega
    subst e
    exact Int.le_of_eq (IsV_u ha h1 h2)
/-- a curve, and the two functions that it is -/
def CU (V F : Int → Int) (z : Int32) (f s : Nat → Int32) : Prop := ∃ n : Nat, 2 ≤ n ∧ n ≤ 8 ∧ z = nI n ∧ (f 0).toInt = 0 ∧ (s 0).toInt = 0 ∧ (f (n - 1)).toInt = 1000 ∧ (s (n - 1)).toInt ≤ 20000 ∧ IncA n (fun i => (f i).toInt) ∧ IncA n (fun i => (s i).toInt) ∧
  (∀ x v, IsV n (fun i => (f i).toInt * 1) (fun i => (s i).toInt * 1) x v → v = V x) ∧ (∀ x v, IsV n (fun i => (f i).toInt * 2) (fun i => (s i).toInt * 2) x v → v = F x)
/-- what the two functions keep -/
def VF (V F : Int → Int) : Prop := V 0 = 0 ∧ F 0 = 0 ∧ (∀ a b : Int, 0 ≤ a → a ≤ b → b ≤ 1000 → V a ≤ V b) ∧ (∀ a b : Int, 0 ≤ a → a ≤ b → b ≤ 1000 → F a ≤ F b) ∧ V 1000 ≤ 20000 ∧ F 1000 ≤ 40000
theorem VF_V {V F : Int → Int} (h : VF V F) {a : Int} (h0 : 0 ≤ a) (h1 : a ≤ 1000) : 0 ≤ V a ∧ V a ≤ 20000 := by
  obtain ⟨v0, -, vm, -, vt, -⟩ := h
  have a1 := vm 0 a (by omega) h0 h1
  have a2 := vm a 1000 h0 h1 (by omega)
  omega
theorem VF_F {V F : Int → Int} (h : VF V F) {a : Int} (h0 : 0 ≤ a) (h1 : a ≤ 1000) : 0 ≤ F a ∧ F a ≤ 40000 := by
  obtain ⟨-, f0, -, fm, -, ft⟩ := h
  have a1 := fm 0 a (by omega) h0 h1
  have a2 := fm a 1000 h0 h1 (by omega)
  omega
theorem cu_sc {n : Nat} {f : Nat → Int32} {c : Int} (hc : c = 1 ∨ c = 2) (h : IncA n (fun i => (f i).toInt)) : IncA n (fun i => (f i).toInt * c) := by
  intro i hi
  have : (f i).toInt < (f (i + 1)).toInt := h i hi
  show (f i).toInt * c < (f (i + 1)).toInt * c
  rcases hc with rfl | rfl <;> omega
/-- the value on a curve, for both factors -/
theorem cu_val {N n : Nat} {f s : Nat → Int32} {x fac : Int32} {c : Int} (hN : 8 < N) (h2 : 2 ≤ n) (h8 : n ≤ 8) (f0 : (f 0).toInt = 0) (s0 : (s 0).toInt = 0) (f1 : (f (n - 1)).toInt = 1000) (s1 : (s (n - 1)).toInt ≤ 20000)
    (i1 : IncA n (fun i => (f i).toInt)) (i2 : IncA n (fun i => (s i).toInt)) (hf : fac.toInt = c) (hc : c = 1 ∨ c = 2) (x0 : 0 ≤ x.toInt) (x1 : x.toInt ≤ 1000) :
    ∃ v : Int32, f_X2_valueAt N 8 (nI n) f s x fac = some v ∧ IsV n (fun i => (f i).toInt * c) (fun i => (s i).toInt * c) x.toInt v.toInt := by
  have bf := RC_bd h2 f0 (Int.le_of_eq f1) i1
  have bs := RC_bd h2 s0 s1 i2
  have hA : ∀ i, i < n → (f i * fac).toInt = (f i).toInt * c ∧ -2000 ≤ (f i).toInt * c ∧ (f i).toInt * c ≤ 30000 := by
    intro i hi
    have := bf i hi
    rcases hc with rfl | rfl
    · exact ⟨by rw [t_mul (by rw [hf]; omega) (by rw [hf]; omega), hf], by omega, by omega⟩
    · exact ⟨by rw [t_mul (by rw [hf]; omega) (by rw [hf]; omega), hf], by omega, by omega⟩
  have hB : ∀ i, i < n → (s i * fac).toInt = (s i).toInt * c ∧ 0 ≤ (s i).toInt * c ∧ (s i).toInt * c ≤ 40000 := by
    intro i hi
    have := bs i hi
    rcases hc with rfl | rfl
    · exact ⟨by rw [t_mul (by rw [hf]; omega) (by rw [hf]; omega), hf], by omega, by omega⟩
    · exact ⟨by rw [t_mul (by rw [hf]; omega) (by rw [hf]; omega), hf], by omega, by omega⟩
  have hx : (fun i => (f i).toInt * c) 0 ≤ x.toInt := by
    show (f 0).toInt * c ≤ x.toInt
    rw [f0]; omega
  have hx2 : x.toInt ≤ (fun i => (f i).toInt * c) (n - 1) := by
    show x.toInt ≤ (f (n - 1)).toInt * c
    rw [f1]; rcases hc with rfl | rfl <;> omega
  exact e_value (N := N) (M := 8) (by omega) h2 h8 (by omega) hA hB (cu_sc hc i1) (cu_sc hc i2) hx hx2
theorem cuV {V F : Int → Int} {N : Nat} {z : Int32} {f s : Nat → Int32} {x : Int32} (hN : 8 < N) (R : CU V F z f s) (x0 : 0 ≤ x.toInt) (x1 : x.toInt ≤ 1000) : ∃ v : Int32, f_X2_valueAt N 8 z f s x 1 = some v ∧ v.toInt = V x.toInt := by
  obtain ⟨n, h2, h8, rfl, f0, s0, f1, s1, i1, i2, e1, e2⟩ := R
  obtain ⟨v, hv, hv2⟩ := cu_val (fac := 1) (c := 1) hN h2 h8 f0 s0 f1 s1 i1 i2 t_1 (Or.inl rfl) x0 x1
  exact ⟨v, hv, e1 _ _ hv2⟩
theorem cuF {V F : Int → Int} {N : Nat} {z : Int32} {f s : Nat → Int32} {x : Int32} (hN : 8 < N) (R : CU V F z f s) (x0 : 0 ≤ x.toInt) (x1 : x.toInt ≤ 1000) : ∃ v : Int32, f_X2_valueAt N 8 z f s x 2 = some v ∧ v.toInt = F x.toInt := by
  obtain ⟨n, h2, h8, rfl, f0, s0, f1, s1, i1, i2, e1, e2⟩ := R
  obtain ⟨v, hv, hv2⟩ := cu_val (fac := 2) (c := 2) hN h2 h8 f0 s0 f1 s1 i1 i2 t_2 (Or.inr rfl) x0 x1
  exact ⟨v, hv, e2 _ _ hv2⟩
theorem cu_fn {n : Nat} {f s : Nat → Int32} {c : Int} {G : Int → Int} (h2 : 2 ≤ n) (f0 : (f 0).toInt = 0) (s0 : (s 0).toInt = 0) (f1 : (f (n - 1)).toInt = 1000) (s1 : (s (n - 1)).toInt ≤ 20000)
    (i1 : IncA n (fun i => (f i).toInt)) (i2 : IncA n (fun i => (s i).toInt)) (hc : c = 1 ∨ c = 2) (hG : ∀ x v, IsV n (fun i => (f i).toInt * c) (fun i => (s i).toInt * c) x v → v = G x) :
    G 0 = 0 ∧ (∀ a b : Int, 0 ≤ a → a ≤ b → b ≤ 1000 → G a ≤ G b) ∧ G 1000 ≤ 20000 * c := by
  have ja := cu_sc hc i1
  have jb := cu_sc hc i2
  have ex : ∀ x : Int, 0 ≤ x → x ≤ 1000 → ∃ v, IsV n (fun i => (f i).toInt * c) (fun i => (s i).toInt * c) x v := by
    intro x h0 h1
    refine IsV_ex (n - 1) 0 (by omega) (by omega) ?_ ?_
    · show (f 0).toInt * c ≤ x
      rw [f0]; omega
    · show x ≤ (f (n - 1)).toInt * c
      rw [f1]; rcases hc with rfl | rfl <;> omega
  refine ⟨?_, ?_, ?_⟩
  · have h01 : (f 0).toInt < (f 1).toInt := i1 0 (by omega)
    have h : IsV n (fun i => (f i).toInt * c) (fun i => (s i).toInt * c) 0 0 := by
      refine ⟨0, by omega, ?_, ?_, ?_⟩
      · show (f 0).toInt * c ≤ 0
        rw [f0]; omega
      · show 0 ≤ (f 1).toInt * c
        rcases hc with rfl | rfl <;> omega
      · show 0 = lin ((f 0).toInt * c) ((s 0).toInt * c) ((f 1).toInt * c) ((s 1).toInt * c) 0
        rw [f0, s0, Int.zero_mul, lin_lo]
    exact (hG _ _ h).symm
  · intro a b h0 hab h1
    obtain ⟨v, hv⟩ := ex a h0 (by omega)
    obtain ⟨w, hw⟩ := ex b (by omega) h1
    rw [← hG _ _ hv, ← hG _ _ hw]
    exact IsV_mono ja jb hv hw hab
  · obtain ⟨v, hv⟩ := ex 1000 (by omega) (by omega)
    have h := (IsV_in ja jb hv).2
    have h : v ≤ (s (n - 1)).toInt * c := h
    rw [← hG _ _ hv]
    rcases hc with rfl | rfl <;> omega
theorem CU_VF {V F : Int → Int} {z : Int32} {f s : Nat → Int32} (R : CU V F z f s) : VF V F := by
  obtain ⟨n, h2, h8, -, f0, s0, f1, s1, i1, i2, e1, e2⟩ := R
  obtain ⟨a1, a2, a3⟩ := cu_fn (c := 1) h2 f0 s0 f1 s1 i1 i2 (Or.inl rfl) e1
  obtain ⟨b1, b2, b3⟩ := cu_fn (c := 2) h2 f0 s0 f1 s1 i1 i2 (Or.inr rfl) e2
  exact ⟨a1, b1, a2, b2, by omega, by omega⟩
theorem CU_ex {n : Nat} {f s : Nat → Int32} (h2 : 2 ≤ n) (h8 : n ≤ 8) (f0 : (f 0).toInt = 0) (s0 : (s 0).toInt = 0) (f1 : (f (n - 1)).toInt = 1000) (s1 : (s (n - 1)).toInt ≤ 20000)
    (i1 : IncA n (fun i => (f i).toInt)) (i2 : IncA n (fun i => (s i).toInt)) : ∃ V F : Int → Int, CU V F (nI n) f s := by
  refine ⟨fun x => Classical.epsilon (fun v => IsV n (fun i => (f i).toInt * 1) (fun i => (s i).toInt * 1) x v), fun x => Classical.epsilon (fun v => IsV n (fun i => (f i).toInt * 2) (fun i => (s i).toInt * 2) x v), n, h2, h8, rfl, f0, s0, f1, s1, i1, i2, fun x v h => ?_, fun x v h => ?_⟩
  · exact IsV_u (cu_sc (Or.inl rfl) i1) h (Classical.epsilon_spec (p := fun v => IsV n (fun i => (f i).toInt * 1) (fun i => (s i).toInt * 1) x v) ⟨v, h⟩)
  · exact IsV_u (cu_sc (Or.inr rfl) i1) h (Classical.epsilon_spec (p := fun v => IsV n (fun i => (f i).toInt * 2) (fun i => (s i).toInt * 2) x v) ⟨v, h⟩)
theorem inc_cg {n : Nat} {f f' : Nat → Int32} (h : ∀ i, i < n → f' i = f i) (hi : IncA n (fun i => (f i).toInt)) : IncA n (fun i => (f' i).toInt) := by
  intro i h1
  have := hi i h1
  show (f' i).toInt < (f' (i + 1)).toInt
  rw [h i (by omega), h (i + 1) h1]
  exact this
theorem IsV_cg {n : Nat} {a s a' s' : Nat → Int} {x v : Int} (h : ∀ i, i < n → a' i = a i ∧ s' i = s i) (hv : IsV n a' s' x v) : IsV n a s x v := by
  obtain ⟨i, hi, h1, h2, h3⟩ := hv
  obtain ⟨p1, q1⟩ := h i (by omega)
  obtain ⟨p2, q2⟩ := h (i + 1) hi
  rw [p1] at h1
  rw [p2] at h2
  rw [p1, p2, q1, q2] at h3
  exact ⟨i, hi, h1, h2, h3⟩
theorem CU_arr {V F : Int → Int} {z : Int32} {f s f' s' : Nat → Int32} (R : CU V F z f s) (h : ∀ n, z = nI n → n ≤ 8 → ∀ i, i < n → f' i = f i ∧ s' i = s i) : CU V F z f' s' := by
  obtain ⟨n, h2, h8, e, f0, s0, f1, s1, i1, i2, e1, e2⟩ := R
  have g := h n e h8
  refine ⟨n, h2, h8, e, by rw [(g 0 (by omega)).1]; exact f0, by rw [(g 0 (by omega)).2]; exact s0, by rw [(g (n - 1) (by omega)).1]; exact f1, by rw [(g (n - 1) (by omega)).2]; exact s1, inc_cg (fun i hi => (g i hi).1) i1, inc_cg (fun i hi => (g i hi).2) i2, fun x v hv => e1 x v (IsV_cg (fun i hi => ?_) hv), fun x v hv => e2 x v (IsV_cg (fun i hi => ?_) hv)⟩
  · exact ⟨by show (f' i).toInt * 1 = (f i).toInt * 1; rw [(g i hi).1], by show (s' i).toInt * 1 = (s i).toInt * 1; rw [(g i hi).2]⟩
  · exact ⟨by show (f' i).toInt * 2 = (f i).toInt * 2; rw [(g i hi).1], by show (s' i).toInt * 2 = (s i).toInt * 2; rw [(g i hi).2]⟩
