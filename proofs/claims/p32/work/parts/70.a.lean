/-! pure part A: numbers, guards, bench facts of pairs -/
theorem t_add {a b : Int32} (h1 : -2147483648 ≤ a.toInt + b.toInt) (h2 : a.toInt + b.toInt < 2147483648) : (a + b).toInt = a.toInt + b.toInt := by
  rw [Int32.toInt_add]; exact Int.bmod_eq_of_le (by omega) (by omega)
theorem t_sub {a b : Int32} (h1 : -2147483648 ≤ a.toInt - b.toInt) (h2 : a.toInt - b.toInt < 2147483648) : (a - b).toInt = a.toInt - b.toInt := by
  rw [Int32.toInt_sub]; exact Int.bmod_eq_of_le (by omega) (by omega)
theorem t_mul {a b : Int32} (h1 : -2147483648 ≤ a.toInt * b.toInt) (h2 : a.toInt * b.toInt < 2147483648) : (a * b).toInt = a.toInt * b.toInt := by
  rw [Int32.toInt_mul]; exact Int.bmod_eq_of_le (by omega) (by omega)
theorem t_neg {a : Int32} (h1 : -2147483648 < a.toInt) : (-a).toInt = -a.toInt := by
  have := a.toInt_lt
  rw [Int32.toInt_neg]; exact Int.bmod_eq_of_le (by omega) (by omega)
theorem t_lt {a b : Int32} : a < b ↔ a.toInt < b.toInt := Int32.lt_iff_toInt_lt
theorem t_le {a b : Int32} : a ≤ b ↔ a.toInt ≤ b.toInt := Int32.le_iff_toInt_le
theorem t_eq {a b : Int32} : a = b ↔ a.toInt = b.toInt := Int32.toInt_inj.symm
theorem t_nI {n : Nat} (h : n < 2147483648) : (nI n).toInt = (n : Int) := nI_toInt (by omega)
theorem t_0 : (0 : Int32).toInt = 0 := by decide
theorem t_1 : (1 : Int32).toInt = 1 := by decide
theorem t_2 : (2 : Int32).toInt = 2 := by decide
theorem t_m1 : (-1 : Int32).toInt = -1 := by decide
theorem t_5 : (5 : Int32).toInt = 5 := by decide
theorem t_9 : (9 : Int32).toInt = 9 := by decide
theorem t_1000 : (1000 : Int32).toInt = 1000 := by decide
theorem t_m1000 : (-1000 : Int32).toInt = -1000 := by decide
theorem t_999 : (999 : Int32).toInt = 999 := by decide
theorem t_200 : (200 : Int32).toInt = 200 := by decide
theorem t_30000 : (30000 : Int32).toInt = 30000 := by decide
theorem t_20000 : (20000 : Int32).toInt = 20000 := by decide
theorem cl_t {x : Int32} {n : Nat} (h : x.toInt = (n : Int)) : x.toNatClampNeg = n := by
  show x.toInt.toNat = n
  rw [h]; rfl
theorem nI_of_t {x : Int32} {n : Nat} (h : x.toInt = (n : Int)) : x = nI n := by
  have := x.toInt_lt
  exact t_eq.mpr (by rw [t_nI (by omega)]; exact h)
theorem ob_s {α β : Type} (a : α) (f : α → Option β) : Option.bind (some a) f = f a := rfl
theorem nm_s {α β : Type} (e : α) (k : α → β) : nm e k = k e := rfl
theorem gA_i {β : Type} {i n : Nat} (k : Option β) (h : i < n) (hn : n < 2147483648) : gA (nI i) n k = k := if_neg (nI_in h (by omega))
theorem gA_t {β : Type} {x : Int32} {n : Nat} (k : Option β) (h0 : 0 ≤ x.toInt) (h1 : x.toInt < (n : Int)) : gA x n k = k := by
  refine if_neg (fun h => ?_)
  rcases h with h | h
  · rw [t_lt, t_0] at h; omega
  · have : x.toNatClampNeg = x.toInt.toNat := rfl
    omega
theorem gZ_t {β : Type} {y : Int32} (k : Option β) (h : y.toInt ≠ 0) : gZ y k = k := if_neg (fun e => h (by rw [e]; exact t_0))
theorem gT_t {β : Type} {c : Prop} [Decidable c] (k : Option β) (h : c) : gT c k = k := if_pos h
theorem gL_t {β : Type} {y : Int64} (k : Option β) (h : y.toInt ≠ 0) : gL y k = k := if_neg (fun e => h (by rw [e]; rfl))
theorem cl_i {n : Nat} (h : n < 2147483648) : (nI n).toNatClampNeg = n := nI_clamp (by omega)
theorem clO : Int32.toNatClampNeg (Int32.ofNat 0) = 0 := rfl
theorem oN (n : Nat) : Int32.ofNat n = nI n := rfl
theorem k_1 (i : Nat) : (1 : Int32) + nI i = nI (1 + i) := nI_add 1 i
theorem k_6 (i : Nat) : (6 : Int32) + nI i = nI (6 + i) := nI_add 6 i
theorem k_10 (i : Nat) : (10 : Int32) + nI i = nI (10 + i) := nI_add 10 i
theorem k_18 (i : Nat) : (18 : Int32) + nI i = nI (18 + i) := nI_add 18 i
theorem k_27 (i : Nat) : (27 : Int32) + nI i = nI (27 + i) := nI_add 27 i
theorem k_34 (i : Nat) : (34 : Int32) + nI i = nI (34 + i) := nI_add 34 i
theorem k_42 (i : Nat) : (42 : Int32) + nI i = nI (42 + i) := nI_add 42 i
theorem k_50 (i : Nat) : (50 : Int32) + nI i = nI (50 + i) := nI_add 50 i
theorem k_58 (i : Nat) : (58 : Int32) + nI i = nI (58 + i) := nI_add 58 i
theorem k_66 (i : Nat) : (66 : Int32) + nI i = nI (66 + i) := nI_add 66 i
theorem k_74 (i : Nat) : (74 : Int32) + nI i = nI (74 + i) := nI_add 74 i
theorem k_82 (i : Nat) : (82 : Int32) + nI i = nI (82 + i) := nI_add 82 i
theorem k_1084 (i : Nat) : (1084 : Int32) + nI i = nI (1084 + i) := nI_add 1084 i
theorem p_1 (i : Nat) : nI i + (1 : Int32) = nI (i + 1) := nI_1 i
theorem p_2 (i : Nat) : nI i + (2 : Int32) = nI (i + 2) := nI_add i 2
theorem p_2086 (i : Nat) : nI i + (2086 : Int32) = nI (i + 2086) := nI_add i 2086
theorem m_1 (i : Nat) : nI (i + 1) - (1 : Int32) = nI i := nI_pred i
theorem m_2 (i : Nat) : nI (i + 2) - (2 : Int32) = nI i := by rw [show (2 : Int32) = nI 2 from rfl, pk_sub (by omega)]; rfl
theorem z_0 : (0 : Int32) = nI 0 := rfl
theorem z_1 : (1 : Int32) = nI 1 := rfl
theorem z_2 : (2 : Int32) = nI 2 := rfl
theorem z_4 : (4 : Int32) = nI 4 := rfl
theorem z_5 : (5 : Int32) = nI 5 := rfl
theorem z_6 : (6 : Int32) = nI 6 := rfl
theorem z_8 : (8 : Int32) = nI 8 := rfl
theorem z_2086 : (2086 : Int32) = nI 2086 := rfl
theorem z_8344 : (8344 : Int32) = nI 8344 := rfl
theorem us {f : Nat → Int32} {k : Nat} {x : Int32} : upd f k x k = x := pk_us
theorem un {f : Nat → Int32} {k j : Nat} {x : Int32} (h : j ≠ k) : upd f k x j = f j := pk_un h
/-- x lies outside or not -/
theorem e_out {x a b : Int32} : f_X7_isOutside x a b = some (if x < a ∨ b < x then 1 else 0) := by
  unfold f_X7_isOutside
  by_cases h : x < a
  · rw [if_pos h, if_pos (Or.inl h)]
  · rw [if_neg h]
    by_cases h2 : x ≤ b
    · rw [if_pos h2, if_neg]
      intro h3
      rcases h3 with h3 | h3
      · exact h h3
      · rw [t_le] at h2; rw [t_lt] at h3; omega
    · rw [if_neg h2, if_pos]
      right
      rw [t_le] at h2; rw [t_lt]; omega
/-! pairs: reading -/
theorem e_has {n i : Nat} (hn : n < 2147483648) (hi : i < 2147483648) : f_X2_has (nI n) (nI i) = some (if i < n then 1 else 0) := by
  unfold f_X2_has
  rw [if_neg (nI_pos (by omega))]
  by_cases h : i < n
  · rw [if_neg (nI_ge h (by omega)), if_pos h]
  · rw [if_pos (nI_le (by omega) (by omega)), if_neg h]
theorem e_hasm {n : Nat} : f_X2_has (nI n) (nI 0 - 1) = some 0 := by
  unfold f_X2_has
  rw [if_pos (show nI 0 - 1 < 0 from by decide)]
theorem e_first {M n i : Nat} {f : Nat → Int32} (h : i < n) (hM : n ≤ M) (hb : M < 2147483648) : f_X2_first M (nI n) f (nI i) = some (f i) := by
  unfold f_X2_first
  rw [if_neg (nI_pos (by omega)), if_neg (nI_ge h (by omega)), gA_i _ (by omega) hb, cl_i (by omega)]
theorem e_second {M n i : Nat} {f : Nat → Int32} (h : i < n) (hM : n ≤ M) (hb : M < 2147483648) : f_X2_second M (nI n) f (nI i) = some (f i) := by
  unfold f_X2_second
  rw [if_neg (nI_pos (by omega)), if_neg (nI_ge h (by omega)), gA_i _ (by omega) hb, cl_i (by omega)]
theorem e_found {M n : Nat} {f s : Nat → Int32} {x w : Int32} (hM : n ≤ M) (hb : M < 2147483648) (h0 : ¬ x < 0) :
    f_X2_found M (nI n) f s x w = some (if x < nI n then (if ¬ w = 0 then s x.toNatClampNeg else f x.toNatClampNeg) else -2000000004) := by
  obtain ⟨i, hi, rfl⟩ := nI_of h0
  unfold f_X2_found
  rw [e_has (by omega) (by omega), ob_s]
  by_cases h : i < n
  · rw [if_pos h, if_pos (show ¬ (1 : Int32) = 0 from by decide), if_pos (nI_lt h (by omega)), cl_i (by omega)]
    by_cases hw : w = 0
    · rw [if_neg (fun e => e hw), if_neg (fun e => e hw), gA_i _ (by omega) hb]
    · rw [if_pos hw, if_pos hw, gA_i _ (by omega) hb]
  · rw [if_neg h, if_neg (show ¬ ¬ (0 : Int32) = 0 from by decide), if_neg (nI_nlt (by omega) (by omega))]
/-- where a pair with this first number is, or would come in: from i on, j places -/
def slot (f : Nat → Int32) (p : Int32) : Nat → Nat → Nat
  | 0, i => i
  | j + 1, i => if f i < p then slot f p j (i + 1) else i
theorem slot_le {f : Nat → Int32} {p : Int32} : ∀ (j i : Nat), i ≤ slot f p j i ∧ slot f p j i ≤ i + j ∧ (∀ x, i ≤ x → x < slot f p j i → f x < p) ∧ (slot f p j i < i + j → ¬ f (slot f p j i) < p) := by
  intro j
  induction j with
  | zero => intro i; exact ⟨Nat.le_refl _, Nat.le_refl _, fun x h1 h2 => absurd h2 (by show ¬ x < i; omega), fun h => absurd h (Nat.lt_irrefl _)⟩
  | succ j ih =>
    intro i
    by_cases h : f i < p
    · have e : slot f p (j + 1) i = slot f p j (i + 1) := if_pos h
      rw [e]
      obtain ⟨h1, h2, h3, h4⟩ := ih (i + 1)
      refine ⟨by omega, by omega, fun x hx hx2 => ?_, fun hx => h4 (by omega)⟩
      by_cases hxi : x = i
      · rw [hxi]; exact h
      · exact h3 x (by omega) hx2
    · have e : slot f p (j + 1) i = i := if_neg h
      rw [e]
      exact ⟨Nat.le_refl _, by omega, fun x h1 h2 => absurd h2 (by omega), fun _ => h⟩
theorem e_slot_b {M n : Nat} {f : Nat → Int32} {p : Int32} (hM : n ≤ M) (hb : M < 2147483648) : ∀ (j i k : Nat), i + j = n → j < k → f_X2_slotOf_b2 M (nI n) f p k (nI i) = some (nI (slot f p j i)) := by
  intro j
  induction j with
  | zero =>
    intro i k hi hk
    obtain ⟨k, rfl⟩ : ∃ k', k = k' + 1 := ⟨k - 1, by omega⟩
    have : i = n := by omega
    subst this
    rw [f_X2_slotOf_b2, if_pos (nI_le (Nat.le_refl _) (by omega))]
    rfl
  | succ j ih =>
    intro i k hi hk
    obtain ⟨k, rfl⟩ : ∃ k', k = k' + 1 := ⟨k - 1, by omega⟩
    rw [f_X2_slotOf_b2, if_neg (nI_ge (by omega) (by omega)), gA_i _ (by omega) hb, cl_i (by omega)]
    by_cases h : f i < p
    · rw [if_pos h, nm_s, p_1, ih (i + 1) k (by omega) (by omega), show slot f p (j + 1) i = slot f p j (i + 1) from if_pos h]
    · rw [if_neg h, show slot f p (j + 1) i = i from if_neg h]
theorem e_slot {N M n : Nat} {f : Nat → Int32} {p : Int32} (hN : n < N) (hM : n ≤ M) (hb : M < 2147483648) : f_X2_slotOf N M (nI n) f p = some (nI (slot f p n 0)) :=
  e_slot_b hM hb n 0 N (by omega) hN
theorem e_holds {N M n : Nat} {f : Nat → Int32} {p : Int32} (hN : n < N) (hM : n ≤ M) (hb : M < 2147483648) : f_X2_holds N M (nI n) f p = some (if slot f p n 0 < n ∧ f (slot f p n 0) = p then 1 else 0) := by
  unfold f_X2_holds
  have hs := (slot_le (f := f) (p := p) n 0).2.1
  rw [e_slot hN hM hb, ob_s, e_has (by omega) (by omega), ob_s]
  by_cases h : slot f p n 0 < n
  · rw [if_pos h, if_neg (show ¬ (1 : Int32) = 0 from by decide), gA_i _ (by omega) hb, cl_i (by omega)]
    by_cases h2 : f (slot f p n 0) = p
    · rw [if_neg (fun e => e h2), if_pos ⟨h, h2⟩]
    · rw [if_pos h2, if_neg (fun e => h2 e.2)]
  · rw [if_neg h, if_pos rfl, if_neg (fun e => h e.1)]
/-! the value of a line through pairs -/
def IncA (n : Nat) (a : Nat → Int) : Prop := ∀ i, i + 1 < n → a i < a (i + 1)
theorem inc_lt {n : Nat} {a : Nat → Int} (h : IncA n a) : ∀ (j i : Nat), i < j → j < n → a i < a j := by
  intro j
  induction j with
  | zero => intro i hi; omega
  | succ j ih =>
    intro i hi hj
    have h1 := h j (by omega)
    by_cases e : i = j
    · rw [e]; exact h1
    · have := ih i (by omega) (by omega); omega
theorem inc_le {n : Nat} {a : Nat → Int} (h : IncA n a) {i j : Nat} (hi : i ≤ j) (hj : j < n) : a i ≤ a j := by
  by_cases e : i = j
  · rw [e]; exact Int.le_refl _
  · exact Int.le_of_lt (inc_lt h j i (by omega) hj)
def lin (a0 s0 a1 s1 x : Int) : Int := s0 + (s1 - s0) * (x - a0) / (a1 - a0)
def IsV (n : Nat) (a s : Nat → Int) (x v : Int) : Prop := ∃ i, i + 1 < n ∧ a i ≤ x ∧ x ≤ a (i + 1) ∧ v = lin (a i) (s i) (a (i + 1)) (s (i + 1)) x
theorem lin_hi {a0 s0 a1 s1 : Int} (h : a0 < a1) : lin a0 s0 a1 s1 a1 = s1 := by
  unfold lin
  rw [Int.mul_ediv_cancel _ (by omega)]; omega
theorem lin_lo {a0 s0 a1 s1 : Int} : lin a0 s0 a1 s1 a0 = s0 := by
  unfold lin
  rw [Int.sub_self, Int.mul_zero, Int.zero_ediv, Int.add_zero]
theorem lin_q {a0 s0 a1 s1 x : Int} (h : a0 < a1) (hs : s0 ≤ s1) (h1 : a0 ≤ x) (h2 : x ≤ a1) : 0 ≤ (s1 - s0) * (x - a0) / (a1 - a0) ∧ (s1 - s0) * (x - a0) / (a1 - a0) ≤ s1 - s0 := by
  constructor
  · exact Int.ediv_nonneg (Int.mul_nonneg (by omega) (by omega)) (by omega)
  · have h3 : (s1 - s0) * (x - a0) ≤ (s1 - s0) * (a1 - a0) := Int.mul_le_mul_of_nonneg_left (by omega) (by omega)
    have h4 := Int.ediv_le_ediv (show 0 < a1 - a0 by omega) h3
    rw [Int.mul_ediv_cancel _ (by omega)] at h4
    exact h4
theorem lin_in {a0 s0 a1 s1 x : Int} (h : a0 < a1) (hs : s0 ≤ s1) (h1 : a0 ≤ x) (h2 : x ≤ a1) : s0 ≤ lin a0 s0 a1 s1 x ∧ lin a0 s0 a1 s1 x ≤ s1 := by
  have := lin_q h hs h1 h2
  unfold lin
  omega
theorem IsV_u {n : Nat} {a s : Nat → Int} {x v w : Int} (ha : IncA n a) (h1 : IsV n a s x v) (h2 : IsV n a s x w) : v = w := by
  obtain ⟨i, hi, ha1, ha2, rfl⟩ := h1
  obtain ⟨j, hj, hb1, hb2, rfl⟩ := h2
  have key : ∀ p q : Nat, p < q → q + 1 < n → a p ≤ x → x ≤ a (p + 1) → a q ≤ x → x ≤ a (q + 1) → lin (a p) (s p) (a (p + 1)) (s (p + 1)) x = lin (a q) (s q) (a (q + 1)) (s (q + 1)) x := by
    intro p q hpq hq h1 h2 h3 h4
    by_cases e : q = p + 1
    · subst e
      have ex : x = a (p + 1) := by omega
      rw [ex, lin_hi (ha p (by omega)), lin_lo]
    · have := inc_lt ha q (p + 1) (by omega) (by omega)
      omega
  rcases Nat.lt_trichotomy i j with h | h | h
  · exact key i j h hj ha1 ha2 hb1 hb2
  · subst h; rfl
  · exact (key j i h hi hb1 hb2 ha1 ha2).symm
theorem IsV_in {n : Nat} {a s : Nat → Int} {x v : Int} (ha : IncA n a) (hs : IncA n s) (h : IsV n a s x v) : s 0 ≤ v ∧ v ≤ s (n - 1) := by
  obtain ⟨i, hi, ha1, ha2, rfl⟩ := h
  have h1 := lin_in (ha i hi) (Int.le_of_lt (hs i hi)) ha1 ha2
  have h2 := inc_le hs (i := 0) (j := i) (by omega) (by omega)
  have h3 := inc_le hs (i := i + 1) (j := n - 1) (by omega) (by omega)
  omega
theorem mul_bd {h y H Y : Int} (h0 : 0 ≤ h) (h1 : h ≤ H) (y0 : 0 ≤ y) (y1 : y ≤ Y) : 0 ≤ h * y ∧ h * y ≤ H * Y :=
  ⟨Int.mul_nonneg h0 y0, Int.mul_le_mul h1 y1 y0 (by omega)⟩
theorem e_between {M n i : Nat} {f s : Nat → Int32} {x fac : Int32} {a b : Nat → Int} (hM : n ≤ M) (hb : M < 2147483648)
    (hA : ∀ i, i < n → (f i * fac).toInt = a i ∧ -2000 ≤ a i ∧ a i ≤ 30000) (hB : ∀ i, i < n → (s i * fac).toInt = b i ∧ 0 ≤ b i ∧ b i ≤ 40000)
    (ia : IncA n a) (ib : IncA n b) (hi : i + 1 < n) (h1 : a i ≤ x.toInt) (h2 : x.toInt ≤ a (i + 1)) :
    ∃ v : Int32, f_X2_between M (nI n) f s (nI (i + 1)) x fac = some v ∧ v.toInt = lin (a i) (b i) (a (i + 1)) (b (i + 1)) x.toInt := by
  obtain ⟨a1, a2, a3⟩ := hA i (by omega)
  obtain ⟨a4, a5, a6⟩ := hA (i + 1) hi
  obtain ⟨b1, b2, b3⟩ := hB i (by omega)
  obtain ⟨b4, b5, b6⟩ := hB (i + 1) hi
  have h3 := ia i hi
  have h4 := ib i hi
  have e8 : (f (i + 1) * fac - f i * fac).toInt = a (i + 1) - a i := by rw [t_sub (by omega) (by omega), a4, a1]
  have e10 : (s (i + 1) * fac - s i * fac).toInt = b (i + 1) - b i := by rw [t_sub (by omega) (by omega), b4, b1]
  have ex : (x - f i * fac).toInt = x.toInt - a i := by rw [t_sub (by omega) (by omega), a1]
  have hm := mul_bd (h := b (i + 1) - b i) (y := x.toInt - a i) (H := 40000) (Y := 32000) (by omega) (by omega) (by omega) (by omega)
  have em : ((s (i + 1) * fac - s i * fac) * (x - f i * fac)).toInt = (b (i + 1) - b i) * (x.toInt - a i) := by
    rw [t_mul (by rw [e10, ex]; omega) (by rw [e10, ex]; omega), e10, ex]
  have ed : (((s (i + 1) * fac - s i * fac) * (x - f i * fac)) / (f (i + 1) * fac - f i * fac)).toInt = (b (i + 1) - b i) * (x.toInt - a i) / (a (i + 1) - a i) := by
    rw [lg_idiv_nonneg (by rw [em]; omega) (by rw [e8]; omega), em, e8]
  have hq := lin_q h3 (Int.le_of_lt h4) h1 h2
  refine ⟨s i * fac + ((s (i + 1) * fac - s i * fac) * (x - f i * fac)) / (f (i + 1) * fac - f i * fac), ?_, ?_⟩
  · unfold f_X2_between
    rw [if_neg (show ¬ nI (i + 1) < 1 from nI_nlt (a := i + 1) (b := 1) (by omega) (by omega)), if_pos (nI_lt hi (by omega)), m_1, gA_i _ (by omega) hb, cl_i (by omega), nm_s, gA_i _ (by omega) hb, nm_s, gA_i _ (by omega) hb, cl_i (by omega), nm_s, gA_i _ (by omega) hb, nm_s,
      if_neg (by rw [t_le, e8, t_0]; omega), gZ_t _ (by rw [e8]; omega)]
  · rw [t_add (by rw [ed, b1]; omega) (by rw [ed, b1]; omega), ed, b1]
    rfl
theorem e_value_b {M n : Nat} {f s : Nat → Int32} {x fac : Int32} {a b : Nat → Int} (hM : n ≤ M) (hb : M < 2147483648)
    (hA : ∀ i, i < n → (f i * fac).toInt = a i ∧ -2000 ≤ a i ∧ a i ≤ 30000) (hB : ∀ i, i < n → (s i * fac).toInt = b i ∧ 0 ≤ b i ∧ b i ≤ 40000)
    (ia : IncA n a) (ib : IncA n b) (hx2 : x.toInt ≤ a (n - 1)) : ∀ (j i k : Nat), i + 1 + j = n → j < k → a i < x.toInt →
    ∃ v : Int32, f_X2_valueAt_b21 M (nI n) f s x fac k (nI (i + 1)) = some v ∧ IsV n a b x.toInt v.toInt := by
  intro j
  induction j with
  | zero =>
    intro i k hi hk hx
    rw [show n - 1 = i by omega] at hx2
    omega
  | succ j ih =>
    intro i k hi hk hx
    obtain ⟨k, rfl⟩ : ∃ k', k = k' + 1 := ⟨k - 1, by omega⟩
    obtain ⟨a1, -, -⟩ := hA (i + 1) (by omega)
    rw [f_X2_valueAt_b21, if_neg (nI_ge (by omega) (by omega)), gA_i _ (by omega) hb, cl_i (by omega)]
    by_cases h : a (i + 1) < x.toInt
    · rw [if_pos (by rw [t_lt, a1]; exact h), nm_s, p_1]
      exact ih (i + 1) k (by omega) (by omega) h
    · rw [if_neg (by rw [t_lt, a1]; exact h)]
      obtain ⟨v, hv, hv2⟩ := e_between hM hb hA hB ia ib (i := i) (by omega) (Int.le_of_lt hx) (by omega)
      exact ⟨v, by rw [hv, ob_s], i, by omega, Int.le_of_lt hx, by omega, hv2⟩
theorem e_value {N M n : Nat} {f s : Nat → Int32} {x fac : Int32} {a b : Nat → Int} (hN : n < N) (hn : 2 ≤ n) (hM : n ≤ M) (hb : M < 2147483648)
    (hA : ∀ i, i < n → (f i * fac).toInt = a i ∧ -2000 ≤ a i ∧ a i ≤ 30000) (hB : ∀ i, i < n → (s i * fac).toInt = b i ∧ 0 ≤ b i ∧ b i ≤ 40000)
    (ia : IncA n a) (ib : IncA n b) (hx : a 0 ≤ x.toInt) (hx2 : x.toInt ≤ a (n - 1)) :
    ∃ v : Int32, f_X2_valueAt N M (nI n) f s x fac = some v ∧ IsV n a b x.toInt v.toInt := by
  obtain ⟨a1, -, -⟩ := hA 0 (by omega)
  unfold f_X2_valueAt
  rw [show (0 : Int32) = nI 0 from rfl, e_first (by omega) hM hb, ob_s]
  by_cases h : a 0 < x.toInt
  · rw [if_pos (by rw [t_lt, a1]; exact h)]
    exact e_value_b hM hb hA hB ia ib hx2 (n - 1) 0 N (by omega) (by omega) h
  · rw [if_neg (by rw [t_lt, a1]; exact h), e_second (by omega) hM hb, ob_s]
    refine ⟨_, rfl, 0, by omega, hx, ?_, ?_⟩
    · have := ia 0 (by omega); omega
    · rw [(hB 0 (by omega)).1, show x.toInt = a 0 by omega, lin_lo]
