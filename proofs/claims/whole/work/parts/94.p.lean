/-! pure part P: the whole run, scales -/
theorem shr_0 {z : Int32} : f_X2_shrinkTo z 0 = some 0 := by
  unfold f_X2_shrinkTo
  rw [nm_s]
  by_cases h : (0 : Int32) < z
  · rw [if_pos h, if_neg (by decide)]
  · rw [if_neg h, if_neg h]
theorem rest_0 {z : Int32} : f_X3_rest z = some (0, 0, 0, 0, 0, 0) := by
  unfold f_X3_rest f_X3_reach
  rw [shr_0, ob_s, ob_s]
  rfl
theorem RC_congr {z : Int32} {f s f' s' d : Nat → Int32} {n : Nat} (hn : n ≤ 8) (ez : z = nI n) (R : RC z f s d) (h : ∀ i, i < n → f' i = f i ∧ s' i = s i) : RC z f' s' d := by
  obtain ⟨m, h2, h8, e, d9, df, ds, f0, s0, f1, s1, i1, i2⟩ := R
  have hm : m = n := (nI_eq (by omega) (by omega)).mp (e.symm.trans ez)
  subst hm
  refine ⟨m, h2, h8, e, d9, fun i hi => by rw [df i hi, (h i hi).1], fun i hi => by rw [ds i hi, (h i hi).2], by rw [(h 0 (by omega)).1, f0], by rw [(h 0 (by omega)).2, s0], by rw [(h (m - 1) (by omega)).1, f1], by rw [(h (m - 1) (by omega)).2]; exact s1, fun i hi => ?_, fun i hi => ?_⟩
  · show (f' i).toInt < (f' (i + 1)).toInt
    rw [(h i (by omega)).1, (h (i + 1) hi).1]; exact i1 i hi
  · show (s' i).toInt < (s' (i + 1)).toInt
    rw [(h i (by omega)).2, (h (i + 1) hi).2]; exact i2 i hi
theorem e_lay2 {c : Nat} {up dn td md : Nat → Int32} (hc : c ≤ 5) (hm : ∀ y, y ≤ c → f_J9_floorDiv_7cf53 (up y + dn y) 2 = some (md y)) : ∀ (j y k : Nat) (fb sb : Nat → Int32), y + j = c + 1 → j < k → (∀ x, x < y → fb x = md x ∧ sb x = td x) →
    ∃ fb' sb' : Nat → Int32, f_X5_layBreaks_b10 6 (nI c) up dn td k (nI y) (nI y) fb sb = some (nI (c + 1), fb', sb') ∧ ∀ x, x < c + 1 → fb' x = md x ∧ sb' x = td x := by
  intro j
  induction j with
  | zero =>
    intro y k fb sb hy hk h
    obtain ⟨k, rfl⟩ : ∃ k', k = k' + 1 := ⟨k - 1, by omega⟩
    have : y = c + 1 := by omega
    subst this
    refine ⟨fb, sb, ?_, h⟩
    rw [f_X5_layBreaks_b10, if_pos (nI_lt (by omega) (by omega))]
  | succ j ih =>
    intro y k fb sb hy hk h
    obtain ⟨k, rfl⟩ : ∃ k', k = k' + 1 := ⟨k - 1, by omega⟩
    rw [f_X5_layBreaks_b10, if_neg (nI_nlt (by omega) (by omega)), if_neg (show ¬ (5 : Int32) < nI y from (show ¬ nI 5 < nI y from nI_nlt (by omega) (by omega))), gA_i _ (by omega) (by omega), gA_i _ (by omega) (by omega), cl_i (by omega), hm y (by omega), ob_s, gA_i _ (by omega) (by omega)]
    unfold f_X2_append
    rw [if_neg (show ¬ Int32.ofNat 6 ≤ nI y from (show ¬ nI 6 ≤ nI y from nI_ge (by omega) (by omega))), gA_i _ (by omega) (by omega), nm_s, gA_i _ (by omega) (by omega), nm_s, nm_s, ob_s, cl_i (by omega), p_1, nm_s]
    exact ih (y + 1) k _ _ (by omega) (by omega) (fun x hx => by
      show upd fb y (md y) x = md x ∧ upd sb y (td y) x = td x
      by_cases c : x = y
      · rw [c, us, us]; exact ⟨rfl, rfl⟩
      · rw [un c, un c]; exact h x (by omega))
theorem e_wid {N c : Nat} {p0 p1 : Int32} {ac : Int64} {d a pl tl up dn : Nat → Int32} (hc : c ≤ 5) (h : ∀ y, y ≤ c → up y = pl y ∧ dn y = pl (6 + y)) : ∀ (j y k k2 : Nat) (x : Int32), y + j = c + 1 → j < k → j < k2 →
    ∃ r : Int32, f_X5_width_b16 (nI c) up dn k x (nI y) = some r ∧ f_X8_calibration_b91 N p0 p1 (nI c) ac d a pl tl k2 x (nI y) = f_X8_calibration_b157 N p0 p1 (nI c) r ac d a pl tl N 0 0 := by
  intro j
  induction j with
  | zero =>
    intro y k k2 x hy hk hk2
    obtain ⟨k, rfl⟩ : ∃ k', k = k' + 1 := ⟨k - 1, by omega⟩
    obtain ⟨k2, rfl⟩ : ∃ k', k2 = k' + 1 := ⟨k2 - 1, by omega⟩
    have : y = c + 1 := by omega
    subst this
    refine ⟨x, ?_, ?_⟩
    · rw [f_X5_width_b16, if_pos (nI_lt (by omega) (by omega))]
    · rw [f_X8_calibration_b91, if_pos (nI_lt (by omega) (by omega))]
  | succ j ih =>
    intro y k k2 x hy hk hk2
    obtain ⟨k, rfl⟩ : ∃ k', k = k' + 1 := ⟨k - 1, by omega⟩
    obtain ⟨k2, rfl⟩ : ∃ k', k2 = k' + 1 := ⟨k2 - 1, by omega⟩
    obtain ⟨h1, h2⟩ := h y (by omega)
    rw [f_X5_width_b16, f_X8_calibration_b91, if_neg (nI_nlt (by omega) (by omega)), if_neg (nI_nlt (by omega) (by omega)), if_neg (show ¬ (5 : Int32) < nI y from (show ¬ nI 5 < nI y from nI_nlt (by omega) (by omega))), gA_i (i := y) (n := 6) _ (by omega) (by omega), gA_i (i := y) (n := 6) _ (by omega) (by omega), nm_s, nm_s, p_1, k_6, cl_i (n := y) (by omega), cl_i (n := 6 + y) (by omega), gA_i (i := 6 + y) (n := 12) _ (by omega) (by omega), gA_i (i := y) (n := 12) _ (by omega) (by omega), h1, h2]
    by_cases c1 : pl (6 + y) - pl y ≤ x
    · have c2 : ¬ x < pl (6 + y) - pl y := by rw [t_le] at c1; rw [t_lt]; omega
      rw [if_pos c1, if_neg c2, nm_s]
      exact ih (y + 1) k k2 x (by omega) (by omega) (by omega)
    · have c2 : x < pl (6 + y) - pl y := by rw [t_le] at c1; rw [t_lt]; omega
      rw [if_neg c1, if_pos c2, gA_i (i := 6 + y) (n := 12) _ (by omega) (by omega), gA_i (i := y) (n := 12) _ (by omega) (by omega), nm_s, nm_s]
      exact ih (y + 1) k k2 _ (by omega) (by omega) (by omega)
theorem e_vs {N n s c : Nat} {p1 x4 : Int32} {ac : Int64} {d a pl tl g : Nat → Int32} (hn : n ≤ 8) (hs : s < 256) (d41 : d 41 = nI n) (hg : ∀ i, i < n → f_X8_chained N d (nI i) 58 = some (g i)) : ∀ (j i k : Nat), i + j = n → j < k →
    ∃ k' : Nat, f_X8_calibration_b157 N (nI s) p1 (nI c) x4 ac d a pl tl k (vsm s g i) (nI i) = f_X8_calibration_b157 N (nI s) p1 (nI c) x4 ac d a pl tl (k' + 1) (vsm s g n) (nI n) := by
  intro j
  induction j with
  | zero =>
    intro i k hi hk
    obtain ⟨k, rfl⟩ : ∃ k', k = k' + 1 := ⟨k - 1, by omega⟩
    have : i = n := by omega
    subst this
    exact ⟨k, rfl⟩
  | succ j ih =>
    intro i k hi hk
    obtain ⟨k, rfl⟩ : ∃ k', k = k' + 1 := ⟨k - 1, by omega⟩
    have ev1 : vsm s g (i + 1) = (if bt s i = 1 then vsm s g i + g i else vsm s g i) := rfl
    obtain ⟨k', hk'⟩ := ih (i + 1) k (by omega) (by omega)
    refine ⟨k', ?_⟩
    rw [← hk', f_X8_calibration_b157, d41, if_neg (nI_ge (by omega) (by omega)), bits_t s hs i (by omega)]
    rcases bt_01 s i with h | h
    · rw [h] at ev1 ⊢
      rw [if_neg (by decide)] at ev1
      rw [if_pos (by decide), nm_s, p_1, nm_s, Int32.add_zero, ev1]
    · rw [h] at ev1 ⊢
      rw [if_pos rfl] at ev1
      rw [if_neg (show ¬ ¬ nI 1 = 1 from fun e => e rfl), hg i (by omega), ob_s, nm_s, p_1, nm_s, ev1]
/-- points that make a scale -/
def OKs (md td : Nat → Int32) (m : Nat) : Prop := ∀ y, y < m → -1000 ≤ (md y).toInt ∧ (md y).toInt ≤ 30000 ∧ 0 ≤ (td y).toInt ∧ (td y).toInt ≤ 1000 ∧ ∀ x, y = x + 1 → (md x).toInt < (md y).toInt ∧ (td x).toInt < (td y).toInt
theorem sc0 {c : Nat} {pl tl : Nat → Int32} : ∀ (j y k : Nat), c < 100 → y + j = c + 1 → j < k → f_X8_isScale_b4 pl tl (nI c) k 0 (nI y) = some 0 := by
  intro j
  induction j with
  | zero =>
    intro y k hc hy hk
    obtain ⟨k, rfl⟩ : ∃ k', k = k' + 1 := ⟨k - 1, by omega⟩
    rw [f_X8_isScale_b4, if_pos (nI_lt (by omega) (by omega)), gT_t _ (Or.inl rfl)]
  | succ j ih =>
    intro y k hc hy hk
    obtain ⟨k, rfl⟩ : ∃ k', k = k' + 1 := ⟨k - 1, by omega⟩
    rw [f_X8_isScale_b4, if_neg (nI_nlt (by omega) (by omega)), if_pos o3, p_1, nm_s]
    exact ih (y + 1) k hc (by omega) (by omega)
theorem c_first {m y : Nat} {f : Nat → Int32} (hm : m ≤ 6) (hy : y < m) : f_X2_first 6 (nI m) f (nI y) = some (f y) := by
  unfold f_X2_first
  rw [if_neg (nI_pos (by omega)), if_neg (nI_ge hy (by omega)), gA_i _ (by omega) (by omega), cl_i (by omega)]
theorem c_second {m y : Nat} {f : Nat → Int32} (hm : m ≤ 6) (hy : y < m) : f_X2_second 6 (nI m) f (nI y) = some (f y) := by
  unfold f_X2_second
  rw [if_neg (nI_pos (by omega)), if_neg (nI_ge hy (by omega)), gA_i _ (by omega) (by omega), cl_i (by omega)]
theorem e_sc {c : Nat} {fb sb pl tl : Nat → Int32} (hc : c ≤ 5) (h : ∀ y, y ≤ c → f_X8_middle pl (nI y) = some (fb y) ∧ sb y = tl y) : ∀ (j y k k2 : Nat), y + j = c + 1 → j < k → j < k2 → OKs fb sb y →
    (f_X5_isScale_b2 6 (nI (c + 1)) fb sb k (nI y) = some 1 ∧ f_X8_isScale_b4 pl tl (nI c) k2 1 (nI y) = some 1 ∧ OKs fb sb (c + 1)) ∨ (f_X5_isScale_b2 6 (nI (c + 1)) fb sb k (nI y) = some 0 ∧ f_X8_isScale_b4 pl tl (nI c) k2 1 (nI y) = some 0) := by
  intro j
  induction j with
  | zero =>
    intro y k k2 hy hk hk2 ho
    obtain ⟨k, rfl⟩ : ∃ k', k = k' + 1 := ⟨k - 1, by omega⟩
    obtain ⟨k2, rfl⟩ : ∃ k', k2 = k' + 1 := ⟨k2 - 1, by omega⟩
    have : y = c + 1 := by omega
    subst this
    left
    refine ⟨?_, ?_, ho⟩
    · rw [f_X5_isScale_b2, if_pos (nI_le (by omega) (by omega))]
    · rw [f_X8_isScale_b4, if_pos (nI_lt (by omega) (by omega)), gT_t _ (Or.inr rfl)]
  | succ j ih =>
    intro y k k2 hy hk hk2 ho
    obtain ⟨k, rfl⟩ : ∃ k', k = k' + 1 := ⟨k - 1, by omega⟩
    obtain ⟨k2, rfl⟩ : ∃ k', k2 = k' + 1 := ⟨k2 - 1, by omega⟩
    obtain ⟨h1, h2⟩ := h y (by omega)
    have z0 : f_X8_isScale_b4 pl tl (nI c) k2 0 (nI (y + 1)) = some 0 := sc0 j (y + 1) k2 (by omega) (by omega) (by omega)
    rw [f_X5_isScale_b2, f_X8_isScale_b4, if_neg (nI_ge (by omega) (by omega)), if_neg (nI_nlt (by omega) (by omega)), if_neg o1, c_first (by omega) (by omega), ob_s, e_out (x := fb y), ob_s, h1, ob_s, ob_s, e_in (x := fb y), ob_s, p_1]
    by_cases c1 : fb y < -1000 ∨ 30000 < fb y
    · right
      rw [if_pos c1, if_pos c1, if_pos o1, if_pos o3, nm_s]
      exact ⟨rfl, z0⟩
    · have b1 := out_n c1
      rw [show (-1000 : Int32).toInt = -1000 by decide, show (30000 : Int32).toInt = 30000 by decide] at b1
      rw [if_neg c1, if_neg c1, if_neg o2, if_neg o1, gA_i _ (by omega) (by omega), cl_i (by omega), c_second (by omega) (by omega), ob_s, e_out (x := sb y), ob_s, e_in (x := tl y), ob_s, ob_s, h2]
      by_cases c2 : tl y < 0 ∨ 1000 < tl y
      · right
        rw [if_pos c2, if_pos c2, if_neg o1, if_pos o3, nm_s]
        exact ⟨rfl, z0⟩
      · have b2 := out_n c2
        rw [t_0, t_1000] at b2
        rw [if_neg c2, if_neg c2, if_pos o3, if_neg o1]
        cases y with
        | zero =>
          rw [if_pos (show nI 0 ≤ 0 by decide), if_pos (show nI 0 = 0 from rfl), nm_s, nm_s]
          exact ih 1 k k2 (by omega) (by omega) (by omega) (fun y hy => by
            have : y = 0 := by omega
            subst this
            exact ⟨b1.1, b1.2, by rw [h2]; exact b2.1, by rw [h2]; exact b2.2, fun x hx => by omega⟩)
        | succ y =>
          obtain ⟨g1, g2⟩ := h y (by omega)
          rw [if_neg (show ¬ nI (y + 1) ≤ 0 from (show ¬ nI (y + 1) ≤ nI 0 from nI_ge (by omega) (by omega))), if_neg (show ¬ nI (y + 1) = 0 from (show ¬ nI (y + 1) = nI 0 from nI_ne (by omega) (by omega) (by omega))), ob_s, m_1, c_first (by omega) (by omega), ob_s, g1, ob_s]
          by_cases c3 : fb (y + 1) ≤ fb y
          · right
            rw [if_pos c3, if_pos c3, nm_s]
            exact ⟨rfl, z0⟩
          · rw [if_neg c3, if_neg c3, c_second (by omega) (by omega), ob_s, gA_i (i := y + 1) _ (by omega) (by omega), gA_i (i := y) _ (by omega) (by omega), cl_i (n := y) (by omega), g2]
            rw [t_le] at c3
            by_cases c4 : tl (y + 1) ≤ tl y
            · right
              have c5 : ¬ tl y < tl (y + 1) := by rw [t_le] at c4; rw [t_lt]; omega
              rw [if_pos c4, if_neg c5, nm_s]
              exact ⟨rfl, z0⟩
            · have c5 : tl y < tl (y + 1) := by rw [t_le] at c4; rw [t_lt]; omega
              rw [if_neg c4, if_pos c5, nm_s, nm_s]
              exact ih (y + 1 + 1) k k2 (by omega) (by omega) (by omega) (fun x hx => by
                by_cases cx : x = y + 1
                · subst cx
                  rw [t_lt] at c5
                  exact ⟨b1.1, b1.2, by rw [h2]; exact b2.1, by rw [h2]; exact b2.2, fun x hx => by
                    have : x = y := by omega
                    subst this
                    rw [h2, g2]
                    exact ⟨by omega, c5⟩⟩
                · exact ho x (by omega))
