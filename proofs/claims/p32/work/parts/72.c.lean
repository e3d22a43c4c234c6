/-! pure part C: turning points, branches -/
def CH (T : Nat → Int) : Nat → Int → Int → Prop
  | 0, _, _ => True
  | n + 1, L, w => 0 < w * (L - T n) ∧ (∀ m, n = m + 1 → 0 < w * (T m - L)) ∧ CH T n (T n) (-w)
theorem CH_congr {T U : Nat → Int} : ∀ (n : Nat) (L w : Int), (∀ i, i < n → T i = U i) → CH T n L w → CH U n L w := by
  intro n
  induction n with
  | zero => intro L w _ _; trivial
  | succ n ih =>
    intro L w h hc
    obtain ⟨h1, h2, h3⟩ := hc
    have e := h n (Nat.lt_succ_self n)
    refine ⟨by rw [← e]; exact h1, fun m hm => ?_, ?_⟩
    · have := h2 m hm
      rw [← h m (by omega)]; exact this
    · rw [← e]
      exact ih _ _ (fun i hi => h i (by omega)) h3
/-- as many turning points as there are loads, at most -/
theorem CH_room {T : Nat → Int} : ∀ (n : Nat) (L w : Int), (w = 1 ∨ w = -1) → (∀ i, i < n → 0 ≤ T i ∧ T i ≤ 1000) → 0 ≤ L → L ≤ 1000 → CH T (n + 1) L w → 0 ≤ T n → T n ≤ 1000 → w * (L - T n) + (n : Int) ≤ 1000 := by
  intro n
  induction n with
  | zero =>
    intro L w hw hb h0 h1 hc t0 t1
    rcases hw with rfl | rfl <;> omega
  | succ n ih =>
    intro L w hw hb h0 h1 hc t0 t1
    obtain ⟨a1, a2, a3⟩ := hc
    have b := hb n (by omega)
    have c := ih (T (n + 1)) (-w) (by rcases hw with rfl | rfl <;> omega) (fun i hi => hb i (by omega)) t0 t1 a3 b.1 b.2
    have a2 := a2 n rfl
    rcases hw with rfl | rfl <;> omega
theorem CH_le {T : Nat → Int} {n : Nat} {L w : Int} (hw : w = 1 ∨ w = -1) (hb : ∀ i, i < n → 0 ≤ T i ∧ T i ≤ 1000) (h0 : 0 ≤ L) (h1 : L ≤ 1000) (hc : CH T n L w) : n ≤ 1000 := by
  cases n with
  | zero => omega
  | succ n =>
    have b := hb n (by omega)
    have := CH_room n L w hw (fun i hi => hb i (by omega)) h0 h1 hc b.1 b.2
    have h2 := hc.1
    omega
/-- what holds while turning points are forgotten -/
def CG (T : Nat → Int) (n : Nat) (x w : Int) : Prop := ∀ m, n = m + 1 → 0 < w * (x - T m) ∧ CH T m (T m) (-w)
theorem CG_pop {T : Nat → Int} {n : Nat} {x w : Int} (hw : w = 1 ∨ w = -1) (h : CG T (n + 2) x w) (hx : 0 ≤ w * (x - T n)) : CG T n x w := by
  intro m hm
  subst hm
  obtain ⟨h1, h2⟩ := h (m + 2) rfl
  obtain ⟨-, -, h5⟩ := h2
  obtain ⟨h6, -, h8⟩ := h5
  have e : - -w = w := by omega
  rw [e] at h6 h8
  refine ⟨?_, h8⟩
  rcases hw with rfl | rfl <;> omega
theorem CG_end {T : Nat → Int} {n : Nat} {x w : Int} (h : CG T n x w) (hx : ∀ m, n = m + 2 → w * (x - T m) < 0) (hw : w = 1 ∨ w = -1) : CH T n x w := by
  cases n with
  | zero => trivial
  | succ n =>
    obtain ⟨h1, h2⟩ := h n rfl
    refine ⟨h1, fun m hm => ?_, h2⟩
    have := hx m (by omega)
    rcases hw with rfl | rfl <;> omega
theorem t_dir {w y : Int32} {D : Int} (hD : w.toInt = D) (h : D = 1 ∨ D = -1) (y0 : -2147483648 < y.toInt) : (w * y).toInt = D * y.toInt := by
  have := y.toInt_lt
  rw [t_mul (by rw [hD]; rcases h with rfl | rfl <;> omega) (by rw [hD]; rcases h with rfl | rfl <;> omega), hD]
theorem e_reached {w t x : Int32} {D : Int} (hD : w.toInt = D) (h : D = 1 ∨ D = -1) : f_X3_isReached w t x = some (if 0 ≤ D * (x.toInt - t.toInt) then 1 else 0) := by
  unfold f_X3_isReached
  rcases h with rfl | rfl
  · rw [if_neg (by rw [t_le, hD, t_0]; omega)]
    by_cases c : x < t
    · rw [if_pos c, if_neg (by rw [t_lt] at c; omega)]
    · rw [if_neg c, if_pos (by rw [t_lt] at c; omega)]
  · rw [if_pos (by rw [t_le, hD, t_0]; omega)]
    by_cases c : t < x
    · rw [if_pos c, if_neg (by rw [t_lt] at c; omega)]
    · rw [if_neg c, if_pos (by rw [t_lt] at c; omega)]
theorem e_shrink {n m : Nat} (h : m ≤ n) (hn : n < 2147483648) : f_X2_shrinkTo (nI n) (nI m) = some (nI m) := by
  unfold f_X2_shrinkTo
  rw [nm_s]
  have e : (if nI m < nI n then nI m else nI n) = nI m := by
    by_cases c : m < n
    · rw [if_pos (nI_lt c (by omega))]
    · have : m = n := by omega
      subst this
      rw [if_neg (nI_nlt (Nat.le_refl _) (by omega))]
  rw [e]
  by_cases c : 0 < m
  · rw [if_pos (show (0 : Int32) < nI m from nI_lt (a := 0) c (by omega))]
  · have : m = 0 := by omega
    subst this
    rw [if_neg (show ¬ (0 : Int32) < nI 0 from by decide)]
    rfl
theorem p_m2 {n : Nat} (h : n + 2 < 2147483648) : nI (n + 2) + (-2 : Int32) = nI n := by
  apply nI_of_t
  rw [t_add (by rw [t_nI h, show (-2 : Int32).toInt = -2 from by decide]; omega) (by rw [t_nI h, show (-2 : Int32).toInt = -2 from by decide]; omega), t_nI h, show (-2 : Int32).toInt = -2 from by decide]
  omega
/-- the pointer is dragged -/
def drag (r P dz : Int32) : Int32 := if r ≤ P + dz then (if P - dz ≤ r then P else r + dz) else r - dz
theorem e_drag {E C P dz r : Int32} : f_X3_dragPointer E C P dz r = some (if E + C = r then P else drag (E + C) P dz) := by
  unfold f_X3_dragPointer f_X3_reach drag
  rw [ob_s]
  by_cases h : E + C = r
  · rw [if_neg (fun e => e h), if_pos h]
  · rw [if_pos h, if_neg h]
    by_cases h1 : E + C ≤ P + dz
    · rw [if_pos h1, if_pos h1]
      by_cases h2 : P - dz ≤ E + C
      · rw [if_pos h2, if_pos h2]
      · rw [if_neg h2, if_neg h2, nm_s]
    · rw [if_neg h1, if_neg h1, nm_s]
theorem add_can {a b c : Int32} : a + c = b + c ↔ a = b := Int32.add_left_inj c
/-- the way behind n turning points -/
def sgn (n : Nat) : Int := if n % 2 = 0 then 1 else -1
theorem sgn_0 {n : Nat} (h : n % 2 = 0) : sgn n = 1 := if_pos h
theorem sgn_1 {n : Nat} (h : n % 2 = 1) : sgn n = -1 := if_neg (by omega)
/-! hours -/
theorem clamp_eq {t st : Int32} (s0 : 0 ≤ st.toInt) : (if (-st) < (if t < st then t else st) then (if t < st then t else st) else (-st)) = (if t ≤ st then (if (-st) ≤ t then t else -st) else st) := by
  have hn : (-st).toInt = -st.toInt := t_neg (by omega)
  by_cases h1 : t < st
  · have h2 : t ≤ st := by rw [t_lt] at h1; rw [t_le]; omega
    rw [if_pos h1, if_pos h2]
    by_cases h3 : -st < t
    · have h4 : -st ≤ t := by rw [t_lt] at h3; rw [t_le]; omega
      rw [if_pos h3, if_pos h4]
    · rw [if_neg h3]
      by_cases h4 : -st ≤ t
      · rw [if_pos h4]; rw [t_lt] at h3; rw [t_le] at h4; exact t_eq.mpr (by omega)
      · rw [if_neg h4]
  · rw [if_neg h1]
    rw [t_lt] at h1
    by_cases h2 : t ≤ st
    · have e : t = st := by rw [t_le] at h2; exact t_eq.mpr (by omega)
      rw [if_pos h2, e, if_pos (show -st ≤ st by rw [t_le]; omega)]
      by_cases h3 : -st < st
      · rw [if_pos h3]
      · rw [if_neg h3]; rw [t_lt] at h3; exact t_eq.mpr (by omega)
    · rw [if_neg h2]
      by_cases h3 : -st < st
      · rw [if_pos h3]
      · rw [if_neg h3]; rw [t_lt] at h3; exact t_eq.mpr (by omega)
theorem add_eq_left {a b : Int32} : a + b = a ↔ b = 0 := by
  constructor
  · intro h
    have : a + b = a + 0 := by rw [h, Int32.add_zero]
    exact (Int32.add_right_inj a).mp this
  · intro h; rw [h, Int32.add_zero]
