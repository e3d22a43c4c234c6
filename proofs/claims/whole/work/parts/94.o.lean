/-! pure part O: down again, the middles -/
theorem t_add1 (x : Int32) : x + (-1) = x - 1 := (Int32.sub_eq_add_neg x 1).symm
theorem e_dwn {N n s : Nat} {zc dz : Int32} {x2 : Int64} {fc sc b ms aside tl pl0 : Nat → Int32} (hN : 3000 ≤ N) (hn : n ≤ 8) (hs : s < 256) (bm : ∀ i, i < 8 → b (42 + i) = ms i) (hm : ∀ i, i < n → 1 ≤ (ms i).toInt ∧ (ms i).toInt ≤ 500)
    (hc : pcb s n ≤ 5) (hsum : ssm s ms n ≤ 1000) : ∀ (i kk kk2 nz : Nat) (L E P W : Int32) (A ac : Int64) (T X dn d pl : Nat → Int32), i ≤ n → i < kk → i < kk2 → L.toInt = ssm s ms i →
    US zc fc sc b dz nz L E P W A ac T X d → DN nz L E W T X → -40000 ≤ E.toInt → E.toInt ≤ 20000 → (∀ y, pcb s i ≤ y → y ≤ pcb s n → dn y = pl (6 + y) ∧ -40200 ≤ (dn y).toInt ∧ (dn y).toInt ≤ 20200) → (∀ y, y < 6 → pl y = pl0 y) →
    ∃ (L' E' P' W' z' : Int32) (A' : Int64) (T' X' dn' d' pl' : Nat → Int32), f_X5_takeAllOff_b26 N 1 8 0 dz zc fc sc (nI n) ms (nI s) kk (nI (pcb s i)) (nI i - 1) L E P W A (nI nz) T X dn = some (L', E', P', W', A', z', T', X', dn') ∧
      f_X8_calibrates_b194 N (nI s) x2 aside tl kk2 (nI (pcb s i)) (nI i - 1) ac d pl = f_X8_calibrates_b258 x2 aside pl' tl N 0 d' ∧ (∀ y, y ≤ pcb s n → dn' y = pl' (6 + y) ∧ -40200 ≤ (dn' y).toInt ∧ (dn' y).toInt ≤ 20200) ∧ ∀ y, y < 6 → pl' y = pl0 y := by
  intro i
  induction i with
  | zero =>
    intro kk kk2 nz L E P W A ac T X dn d pl hi h1 h2 hL S hD e0 e1 hdn hpl
    obtain ⟨kk, rfl⟩ : ∃ k', kk = k' + 1 := ⟨kk - 1, by omega⟩
    obtain ⟨kk2, rfl⟩ : ∃ k', kk2 = k' + 1 := ⟨kk2 - 1, by omega⟩
    refine ⟨L, E, P, W, nI nz, A, T, X, dn, d, pl, ?_, ?_, fun y hy => hdn y (Nat.zero_le _) hy, hpl⟩
    · rw [f_X5_takeAllOff_b26, if_pos (by decide)]
    · rw [f_X8_calibrates_b194, if_pos (by decide)]
  | succ i ih =>
    intro kk kk2 nz L E P W A ac T X dn d pl hi h1 h2 hL S hD e0 e1 hdn hpl
    obtain ⟨kk, rfl⟩ : ∃ k', kk = k' + 1 := ⟨kk - 1, by omega⟩
    obtain ⟨kk2, rfl⟩ : ∃ k', kk2 = k' + 1 := ⟨kk2 - 1, by omega⟩
    have hb := S.2.2.2.2.2.2.2.2.2.2.2.1
    rw [f_X5_takeAllOff_b26, f_X8_calibrates_b194, m_1, if_neg (nI_pos (by omega)), if_neg (nI_pos (by omega)), e_bit hs (by omega), ob_s, bits_t s hs i (by omega)]
    have es1 : ssm s ms (i + 1) = ssm s ms i + (if bt s i = 1 then (ms i).toInt else 0) := rfl
    have ep1 : pcb s (i + 1) = pcb s i + bt s i := rfl
    rcases bt_01 s i with h | h
    · rw [h] at es1 ep1 ⊢
      rw [if_neg (by decide)] at es1
      rw [if_pos (by decide), if_pos (by decide), t_add1, nm_s, nm_s, ep1]
      exact ih kk kk2 nz L E P W A ac T X dn d pl (by omega) (by omega) (by omega) (by rw [hL, es1]; omega) S hD e0 e1 (fun y h1 h2 => hdn y (by omega) h2) hpl
    · rw [h] at es1 ep1 ⊢
      rw [if_pos rfl] at es1
      have hmi := hm i (by omega)
      have hsb := ssm_b (s := s) hm i (by omega)
      have hsl := ssm_le (s := s) (i := i + 1) hm (by omega)
      have hplc := pcb_le (s := s) (i := i + 1) (n := n) (by omega)
      have eL : (L - ms i).toInt = L.toInt - (ms i).toInt := t_sub (by omega) (by omega)
      obtain ⟨E', P', A', T', X', d', r1, r2, r3, r4, r5, r6⟩ := r_dn (x := L - ms i) hN S hD e0 e1 (by omega) (by omega) (by rw [eL]; omega)
      have d3' : d' 3 = P' := r3.2.2.2.1
      have hpp := r3.2.2.2.2.2.2.2.2.2.2.2.2.2.2
      have d0 : d 0 = L := S.1
      rw [ep1, if_neg (show ¬ nI 1 = 0 by decide), if_neg (show ¬ ¬ nI 1 = 1 from fun e => e rfl), if_neg (show ¬ nI (pcb s i + 1) ≤ 0 from (show ¬ nI (pcb s i + 1) ≤ nI 0 from nI_ge (by omega) (by omega))), e6_mass hn (by omega), ob_s, r1, ob_s, k_42, gA_i (i := 42 + i) _ (by omega) (by omega), cl_i (n := 42 + i) (by omega), hb (42 + i) (by omega) (by omega), bm i (by omega), d0, r2, ob_s]
      rw [nm_s, nm_s, nm_s, nm_s, nm_s, nm_s, nm_s]
      rw [t_add1, m_1, t_add1, gA_i (i := pcb s i) (n := 6) _ (by omega) (by omega), cl_i (n := pcb s i) (by omega), k_6, gA_i (i := 6 + pcb s i) _ (by omega) (by omega), cl_i (n := 6 + pcb s i) (by omega), show (A', d').snd 3 = P' from d3']
      exact ih kk kk2 1 (L - ms i) E' P' (-1) A' A' T' X' (upd dn (pcb s i) P') d' (upd pl (6 + pcb s i) P') (by omega) (by omega) (by omega) (by rw [eL, hL, es1]; omega) r3 r4 r5 r6 (fun y h1 h2 => by
        by_cases c : y = pcb s i
        · subst c
          rw [us, us]
          exact ⟨rfl, by omega, by omega⟩
        · rw [un c, un (show 6 + y ≠ 6 + pcb s i by omega)]
          exact hdn y (by omega) h2) (fun y hy => by rw [un (by omega)]; exact hpl y hy)
theorem e_back {x2 : Int64} {aside pl tl : Nat → Int32} : ∀ (j i k : Nat) (d : Nat → Int32), i + j = 2086 → j < k → (∀ x, x < i → d x = aside x) → ∃ d' : Nat → Int32, f_X8_calibrates_b258 x2 aside pl tl k (nI i) d = some (x2, d', aside, pl, tl) ∧ ∀ x, x < 2086 → d' x = aside x := by
  intro j
  induction j with
  | zero =>
    intro i k d hi hk h
    obtain ⟨k, rfl⟩ : ∃ k', k = k' + 1 := ⟨k - 1, by omega⟩
    have : i = 2086 := by omega
    subst this
    refine ⟨d, ?_, h⟩
    rw [f_X8_calibrates_b258, if_pos (by decide)]
  | succ j ih =>
    intro i k d hi hk h
    obtain ⟨k, rfl⟩ : ∃ k', k = k' + 1 := ⟨k - 1, by omega⟩
    rw [f_X8_calibrates_b258, if_neg (show ¬ (2086 : Int32) ≤ nI i from (show ¬ nI 2086 ≤ nI i from nI_ge (by omega) (by omega))), gA_i _ (by omega) (by omega), nm_s, gA_i _ (by omega) (by omega), nm_s, cl_i (by omega), p_1, nm_s]
    exact ih (i + 1) k _ (by omega) (by omega) (fun x hx => by
      by_cases c : x = i
      · rw [c, us]
      · rw [un c]; exact h x (by omega))
theorem e_aside {N : Nat} {x : Int32} {ac : Int64} {d pl tl : Nat → Int32} : ∀ (j i k : Nat) (a : Nat → Int32), i + j = 2086 → j < k → (∀ x, x < i → a x = d x) → ∃ (a' : Nat → Int32) (k' : Nat), f_X8_calibrates_b2 N x ac d pl tl k (nI i) a = f_X8_calibrates_b2 N x ac d pl tl (k' + 1) (nI 2086) a' ∧ ∀ x, x < 2086 → a' x = d x := by
  intro j
  induction j with
  | zero =>
    intro i k a hi hk h
    obtain ⟨k, rfl⟩ : ∃ k', k = k' + 1 := ⟨k - 1, by omega⟩
    have : i = 2086 := by omega
    subst this
    exact ⟨a, k, rfl, h⟩
  | succ j ih =>
    intro i k a hi hk h
    obtain ⟨k, rfl⟩ : ∃ k', k = k' + 1 := ⟨k - 1, by omega⟩
    rw [f_X8_calibrates_b2, if_neg (show ¬ (2086 : Int32) ≤ nI i from (show ¬ nI 2086 ≤ nI i from nI_ge (by omega) (by omega))), gA_i _ (by omega) (by omega), nm_s, gA_i _ (by omega) (by omega), nm_s, cl_i (by omega), p_1, nm_s]
    exact ih (i + 1) k _ (by omega) (by omega) (fun x hx => by
      by_cases c : x = i
      · rw [c, us]
      · rw [un c]; exact h x (by omega))
theorem xor_2 (x : Int32) : (0 ≤ (x ^^^ (2 : Int32))) ↔ 0 ≤ x := by
  have h : ∀ y : Int32, (0 ≤ y) ↔ y.toBitVec.msb = false := by
    intro y
    rw [t_le, t_0, BitVec.msb_eq_toInt]
    show 0 ≤ y.toBitVec.toInt ↔ _
    simp
  rw [h, h]
  show (x.toBitVec ^^^ (2 : Int32).toBitVec).msb = false ↔ _
  rw [BitVec.msb_xor, show (2 : Int32).toBitVec.msb = false by decide, Bool.xor_false]
theorem fd2 {p : Int32} (h0 : -100000 ≤ p.toInt) (h1 : p.toInt ≤ 100000) : ∃ m : Int32, f_J9_floorDiv_7cf53 p 2 = some m ∧ m.toInt = p.toInt / 2 := by
  have ed : (p / 2).toInt = p.toInt.tdiv 2 := by rw [Int32.toInt_div_of_ne_right _ _ (by decide), t_2]
  unfold f_J9_floorDiv_7cf53 gZ
  rw [if_neg (by decide), nm_s]
  have hx := xor_2 p
  rw [t_le, t_0] at hx
  by_cases c : 0 ≤ p.toInt
  · rw [if_pos ((xor_2 p).mpr (by rw [t_le, t_0]; exact c))]
    exact ⟨_, rfl, by rw [ed, Int.tdiv_eq_ediv_of_nonneg c]⟩
  · rw [if_neg (fun e => c (by have := (xor_2 p).mp e; rw [t_le, t_0] at this; exact this))]
    have hid := Int.mul_tdiv_add_tmod p.toInt 2
    have hl := Int.lt_tmod_of_pos p.toInt (show (0 : Int) < 2 by omega)
    have hu : p.toInt.tmod 2 ≤ 0 := by rw [Int.tmod_eq_emod]; split <;> omega
    have em : (p / 2 * 2).toInt = p.toInt.tdiv 2 * 2 := by rw [t_mul (by rw [ed, t_2]; omega) (by rw [ed, t_2]; omega), ed, t_2]
    by_cases c2 : p / 2 * 2 = p
    · rw [if_pos c2]
      rw [t_eq, em] at c2
      exact ⟨_, rfl, by rw [ed]; omega⟩
    · rw [if_neg c2]
      rw [t_eq, em] at c2
      exact ⟨_, rfl, by rw [t_sub (by rw [ed, t_1]; omega) (by rw [ed, t_1]; omega), ed, t_1]; omega⟩
theorem e_mid {y : Nat} {a b : Int32} {pl : Nat → Int32} (hy : y ≤ 5) (ea : pl y = a) (eb : pl (6 + y) = b) (a0 : -40200 ≤ a.toInt) (a1 : a.toInt ≤ 20200) (b0 : -40200 ≤ b.toInt) (b1 : b.toInt ≤ 20200) :
    ∃ m : Int32, f_J9_floorDiv_7cf53 (a + b) 2 = some m ∧ f_X8_middle pl (nI y) = some m ∧ -50000 ≤ m.toInt ∧ m.toInt ≤ 50000 := by
  have e : (a + b).toInt = a.toInt + b.toInt := t_add (by omega) (by omega)
  obtain ⟨m, h1, h2⟩ := fd2 (p := a + b) (by omega) (by omega)
  have e64 : (a.toInt64 + b.toInt64).toInt = a.toInt + b.toInt := by
    rw [Int64.toInt_add, t64, t64]
    exact Int.bmod_eq_of_le (by omega) (by omega)
  obtain ⟨r, q1, q2⟩ := e_down (a := a.toInt64 + b.toInt64) (b := 2) (A := a.toInt + b.toInt) (B := 2) e64 (by decide) (by omega) (by omega) (by omega) (by omega) (by omega)
  have er : r = m := t_eq.mpr (by rw [q2, h2, e])
  refine ⟨m, h1, ?_, by omega, by omega⟩
  unfold f_X8_middle
  rw [gA_i _ (by omega) (by omega), k_6, gA_i _ (by omega) (by omega), cl_i (by omega), cl_i (by omega), ea, eb, q1, ob_s, er]
