/-! pure part M: sets of weights -/
def bt (s i : Nat) : Nat := s / 2 ^ i % 2
/-- how many of the first i are in the set -/
def pcb (s : Nat) : Nat → Nat
  | 0 => 0
  | i + 1 => pcb s i + bt s i
/-- their masses -/
def ssm (s : Nat) (m : Nat → Int32) : Nat → Int
  | 0 => 0
  | i + 1 => ssm s m i + (if bt s i = 1 then (m i).toInt else 0)
theorem bt_01 (s i : Nat) : bt s i = 0 ∨ bt s i = 1 := by unfold bt; omega
theorem bits_t : ∀ s < 256, ∀ i < 8, ((nI s >>> (nI i &&& 31)) &&& (1 : Int32)) = nI (bt s i) := by decide +kernel
theorem cnt_t : ∀ s < 256, f_J6_bitCount_0f7a4 (nI s) = some (nI (pcb s 8)) := by decide +kernel
theorem ones_t : ∀ s < 256, f_X8_ones_b4 9 0 (nI s) = some (nI (pcb s 8)) := by decide +kernel
theorem pcb_t : ∀ s < 256, ∀ n ≤ 8, s < 2 ^ n → pcb s n = pcb s 8 := by decide +kernel
theorem pcb_p : ∀ s < 256, ∀ n ≤ 8, s < 2 ^ n → 0 < s → 1 ≤ pcb s n := by decide +kernel
theorem pcb_8 : ∀ s < 256, pcb s 8 ≤ 8 := by decide +kernel
theorem shl_t : ∀ n ≤ 8, (1 : Int32) <<< (nI n &&& 31) = nI (2 ^ n) := by decide +kernel
theorem and_t : ∀ n ≤ 8, (((nI n &&& 31) : Int32).toBitVec.smod 32).toNat = n := by decide +kernel
theorem ones_up {k : Nat} : ∀ {x y r : Int32}, f_X8_ones_b4 k x y = some r → f_X8_ones_b4 (k + 1) x y = some r := by
  induction k with
  | zero => intro x y r h; rw [f_X8_ones_b4] at h; cases h
  | succ k ih =>
    intro x y r h
    rw [f_X8_ones_b4] at h ⊢
    by_cases c : y = 0
    · rw [if_pos c] at h ⊢; exact h
    · rw [if_neg c, nm_s, nm_s] at h ⊢
      exact ih h
theorem ones_N {x y r : Int32} (h : f_X8_ones_b4 9 x y = some r) : ∀ j : Nat, f_X8_ones_b4 (9 + j) x y = some r := by
  intro j
  induction j with
  | zero => exact h
  | succ j ih => exact ones_up ih
theorem e_ones {N s : Nat} (hN : 9 ≤ N) (hs : s < 256) : f_X8_ones N (nI s) = some (nI (pcb s 8)) := by
  obtain ⟨j, rfl⟩ : ∃ j, N = 9 + j := ⟨N - 9, by omega⟩
  exact ones_N (ones_t s hs) j
theorem e_bit {s i : Nat} (hs : s < 256) (hi : i < 8) : f_X6_isInSet (nI s) (nI i) = some (nI (bt s i)) := by
  unfold f_X6_isInSet
  rw [bits_t s hs i hi]
  rcases bt_01 s i with h | h <;> rw [h] <;> rfl
theorem pcb_mono {s : Nat} : ∀ (j i : Nat), pcb s i ≤ pcb s (i + j) := by
  intro j
  induction j with
  | zero => intro i; exact Nat.le_refl _
  | succ j ih => intro i; have := ih i; have e : pcb s (i + (j + 1)) = pcb s (i + j) + bt s (i + j) := rfl; omega
theorem pcb_le {s i n : Nat} (h : i ≤ n) : pcb s i ≤ pcb s n := by
  have := pcb_mono (s := s) (n - i) i
  rw [show i + (n - i) = n by omega] at this; exact this
theorem ssm_b {s n : Nat} {m : Nat → Int32} (hm : ∀ i, i < n → 1 ≤ (m i).toInt ∧ (m i).toInt ≤ 500) : ∀ i, i ≤ n → 0 ≤ ssm s m i ∧ ssm s m i ≤ 500 * i := by
  intro i
  induction i with
  | zero => intro _; exact ⟨Int.le_refl _, by show (0 : Int) ≤ _; omega⟩
  | succ i ih =>
    intro hi
    have h1 := ih (by omega)
    have h2 := hm i (by omega)
    show 0 ≤ ssm s m i + _ ∧ ssm s m i + _ ≤ _
    by_cases c : bt s i = 1
    · rw [if_pos c]; omega
    · rw [if_neg c]; omega
theorem ssm_mono {s n : Nat} {m : Nat → Int32} (hm : ∀ i, i < n → 1 ≤ (m i).toInt ∧ (m i).toInt ≤ 500) : ∀ (j i : Nat), i + j ≤ n → ssm s m i ≤ ssm s m (i + j) := by
  intro j
  induction j with
  | zero => intro i _; exact Int.le_refl _
  | succ j ih =>
    intro i hi
    have h1 := ih i (by omega)
    have h2 := hm (i + j) (by omega)
    have e : ssm s m (i + (j + 1)) = ssm s m (i + j) + (if bt s (i + j) = 1 then (m (i + j)).toInt else 0) := rfl
    by_cases c : bt s (i + j) = 1
    · rw [if_pos c] at e; omega
    · rw [if_neg c] at e; omega
theorem ssm_le {s n i : Nat} {m : Nat → Int32} (hm : ∀ i, i < n → 1 ≤ (m i).toInt ∧ (m i).toInt ≤ 500) (h : i ≤ n) : ssm s m i ≤ ssm s m n := by
  have := ssm_mono (s := s) hm (n - i) i (by omega)
  rw [show i + (n - i) = n by omega] at this; exact this
theorem cal0 {n s : Nat} {d m p : Nat → Int32} (hn : n ≤ 8) (hs : s < 256) (d41 : d 41 = nI n) (dm : ∀ i, i < 8 → d (42 + i) = m i) : ∀ (j i k : Nat) (x : Int32), i + j = n → j < k → f_X8_isCalibrating_b7 d (nI s) k x 0 (nI i) = some 0 := by
  intro j
  induction j with
  | zero =>
    intro i k x hi hk
    obtain ⟨k, rfl⟩ : ∃ k', k = k' + 1 := ⟨k - 1, by omega⟩
    rw [f_X8_isCalibrating_b7, d41, if_pos (nI_le (by omega) (by omega)), if_pos o3]
  | succ j ih =>
    intro i k x hi hk
    obtain ⟨k, rfl⟩ : ∃ k', k = k' + 1 := ⟨k - 1, by omega⟩
    rw [f_X8_isCalibrating_b7, d41, if_neg (nI_ge (by omega) (by omega)), bits_t s hs i (by omega)]
    rcases bt_01 s i with h | h
    · rw [h, if_pos (by decide), p_1, nm_s]
      exact ih (i + 1) k x (by omega) (by omega)
    · rw [h, if_neg (show ¬ ¬ nI 1 = 1 from fun e => e rfl), k_42, gA_i _ (by omega) (by omega), cl_i (by omega), nm_s, if_pos o3, p_1, nm_s]
      exact ih (i + 1) k _ (by omega) (by omega)
theorem e_cal {n s : Nat} {d m p : Nat → Int32} (hn : n ≤ 8) (hs : s < 256) (d41 : d 41 = nI n) (dm : ∀ i, i < 8 → d (42 + i) = m i) (dp : ∀ i, i < 8 → d (74 + i) = p i) (hm : ∀ i, i < n → 1 ≤ (m i).toInt ∧ (m i).toInt ≤ 500) : ∀ (j i k1 k2 : Nat) (x : Int32), i + j = n → j < k1 → j < k2 → x.toInt = ssm s m i →
    (f_X6_errorOfSet_b29 (nI n) m p (nI s) k1 x (nI i) = some 0 ∧ f_X8_isCalibrating_b7 d (nI s) k2 x 1 (nI i) = some 1 ∧ ssm s m n ≤ 1000) ∨ (f_X6_errorOfSet_b29 (nI n) m p (nI s) k1 x (nI i) = some (-2000000002) ∧ f_X8_isCalibrating_b7 d (nI s) k2 x 1 (nI i) = some 0) := by
  intro j
  induction j with
  | zero =>
    intro i k1 k2 x hi h1 h2 hx
    obtain ⟨k1, rfl⟩ : ∃ k', k1 = k' + 1 := ⟨k1 - 1, by omega⟩
    obtain ⟨k2, rfl⟩ : ∃ k', k2 = k' + 1 := ⟨k2 - 1, by omega⟩
    have e : i = n := by omega
    subst e
    rw [f_X6_errorOfSet_b29, f_X8_isCalibrating_b7, d41, if_pos (nI_le (by omega) (by omega)), if_pos (nI_le (by omega) (by omega)), if_neg o1]
    by_cases c : x ≤ 1000
    · have c2 : ¬ (1000 : Int32) < x := by rw [t_le, t_1000] at c; rw [t_lt, t_1000]; omega
      rw [if_pos c, if_neg c2]
      rw [t_le, t_1000] at c
      exact Or.inl ⟨rfl, rfl, by omega⟩
    · have c2 : (1000 : Int32) < x := by rw [t_le, t_1000] at c; rw [t_lt, t_1000]; omega
      rw [if_neg c, if_pos c2]
      exact Or.inr ⟨rfl, rfl⟩
  | succ j ih =>
    intro i k1 k2 x hi h1 h2 hx
    obtain ⟨k1, rfl⟩ : ∃ k', k1 = k' + 1 := ⟨k1 - 1, by omega⟩
    obtain ⟨k2, rfl⟩ : ∃ k', k2 = k' + 1 := ⟨k2 - 1, by omega⟩
    have bs := ssm_b (s := s) hm i (by omega)
    have bm := hm i (by omega)
    have e1 : ssm s m (i + 1) = ssm s m i + (if bt s i = 1 then (m i).toInt else 0) := rfl
    rw [f_X6_errorOfSet_b29, f_X8_isCalibrating_b7, d41, if_neg (nI_ge (by omega) (by omega)), if_neg (nI_ge (by omega) (by omega)), e_bit hs (by omega), ob_s, bits_t s hs i (by omega)]
    rcases bt_01 s i with h | h
    · rw [h] at e1 ⊢
      rw [if_neg (by decide)] at e1
      rw [if_pos (by decide), if_pos (by decide), p_1, nm_s, nm_s]
      exact ih (i + 1) k1 k2 x (by omega) (by omega) (by omega) (by rw [e1, hx]; omega)
    · rw [h] at e1 ⊢
      rw [if_pos rfl] at e1
      have ea : (x + m i).toInt = ssm s m (i + 1) := by rw [t_add (by omega) (by omega), e1, hx]
      rw [if_neg (show ¬ nI 1 = 0 by decide), if_neg (show ¬ ¬ nI 1 = 1 from fun e => e rfl), gA_i (i := i) (n := 8) _ (by omega) (by omega), gA_i (i := i) (n := 8) _ (by omega) (by omega), cl_i (n := i) (by omega), k_42, gA_i (i := 42 + i) _ (by omega) (by omega), cl_i (n := 42 + i) (by omega), dm i (by omega)]
      simp only [nm_s]
      rw [if_neg o1, k_74, gA_i (i := 74 + i) _ (by omega) (by omega), cl_i (n := 74 + i) (by omega), dp i (by omega)]
      by_cases c : p i = 0
      · rw [if_pos c, p_1, if_neg (fun e => e c)]
        exact ih (i + 1) k1 k2 _ (by omega) (by omega) (by omega) ea
      · rw [if_neg c, if_pos c, p_1]
        exact Or.inr ⟨rfl, cal0 (p := p) hn hs d41 dm j (i + 1) k2 _ (by omega) (by omega)⟩
/-- the set, checked by both -/
theorem e_set {N : Nat} {L z x : Int32} {ms es vs ps pn d : Nat → Int32} (hN : 3000 ≤ N) (R : RW L z ms es vs ps pn d) :
    (f_X6_errorOfSet N z ms pn x = some (-2000000001) ∧ f_X8_isSet N d x = some 0) ∨ (f_X6_errorOfSet N z ms pn x = some (-2000000002) ∧ f_X8_isSet N d x = some 1 ∧ f_X8_isCalibrating N d x = some 0) ∨
    (f_X6_errorOfSet N z ms pn x = some 0 ∧ f_X8_isSet N d x = some 1 ∧ f_X8_isCalibrating N d x = some 1 ∧ ∃ n s : Nat, n ≤ 8 ∧ z = nI n ∧ s < 256 ∧ x = nI s ∧ 1 ≤ pcb s n ∧ pcb s n ≤ 5 ∧ f_X8_ones N x = some (nI (pcb s n)) ∧ ssm s ms n ≤ 1000) := by
  obtain ⟨n, h1, rfl, d41, a, b, c, f, g, r1, r2, r3, r4⟩ := R
  unfold f_X6_errorOfSet f_X8_isSet
  rw [d41]
  by_cases c0 : x ≤ 0
  · left; rw [if_pos c0, if_pos c0]; exact ⟨rfl, rfl⟩
  · rw [if_neg c0, if_neg c0]
    rw [t_le, t_0] at c0
    obtain ⟨s, hs, rfl⟩ : ∃ s : Nat, s < 2147483648 ∧ x = nI s := ⟨x.toInt.toNat, by have := Int32.toInt_lt x; omega, nI_of_t (by have := Int32.toInt_lt x; omega)⟩
    rw [t_nI hs] at c0
    have hp : 1 ≤ 2 ^ n := Nat.pow_pos (by omega)
    have hp2 : 2 ^ n ≤ 256 := Nat.pow_le_pow_right (n := 2) (by omega) h1
    rw [shl_t n h1, pk_shrN (by omega) _ n (and_t n h1)]
    by_cases c1 : 2 ^ n ≤ s
    · left
      have hq : ¬ nI (s / 2 ^ n) = 0 := by
        have : 1 ≤ s / 2 ^ n := (Nat.le_div_iff_mul_le (by omega)).mpr (by omega)
        have h3 : s / 2 ^ n ≤ s := Nat.div_le_self _ _
        exact (show ¬ nI (s / 2 ^ n) = nI 0 from nI_ne (by omega) (by omega) (by omega))
      rw [if_pos (nI_le c1 (by omega)), if_pos hq]
      exact ⟨rfl, rfl⟩
    · have hs2 : s < 256 := by omega
      rw [if_neg (nI_ge (by omega) (by omega)), if_neg (show ¬ ¬ nI (s / 2 ^ n) = 0 by rw [Nat.div_eq_of_lt (by omega)]; exact fun e => e rfl), cnt_t s hs2, ob_s, e_ones (by omega) hs2, ob_s]
      have e8 := pcb_t s hs2 n h1 (by omega)
      have p1 := pcb_p s hs2 n h1 (by omega) (by omega)
      have p8 := pcb_8 s hs2
      by_cases c5 : pcb s 8 ≤ 5
      · rw [if_pos (show nI (pcb s 8) ≤ 5 from (show nI (pcb s 8) ≤ nI 5 from nI_le c5 (by omega))), if_neg (show ¬ (5 : Int32) < nI (pcb s 8) from (show ¬ nI 5 < nI (pcb s 8) from nI_nlt c5 (by omega)))]
        right
        rcases e_cal (p := pn) h1 hs2 d41 a g r1 n 0 N N 0 (by omega) (by omega) (by omega) rfl with ⟨q1, q2, q3⟩ | ⟨q1, q2⟩
        · exact Or.inr ⟨q1, rfl, q2, n, s, h1, rfl, hs2, rfl, p1, by omega, by rw [e8], q3⟩
        · exact Or.inl ⟨q1, rfl, q2⟩
      · rw [if_neg (show ¬ nI (pcb s 8) ≤ 5 from (show ¬ nI (pcb s 8) ≤ nI 5 from nI_ge (by omega) (by omega))), if_pos (show (5 : Int32) < nI (pcb s 8) from (show nI 5 < nI (pcb s 8) from nI_lt (by omega) (by omega)))]
        left
        exact ⟨rfl, rfl⟩
