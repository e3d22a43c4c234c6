/-! pure part C: a load goes to another one -/
def CH (T : Nat → Int) : Nat → Int → Int → Prop
  | 0, _, _ => True
  | n + 1, L, w => 0 < w * (L - T n) ∧ (∀ m, n = m + 1 → 0 < w * (T m - L)) ∧ CH T n (T n) (-w)
theorem CH_congr {T U : Nat → Int} : ∀ (n : Nat) (L w : Int), (∀ i, i < n → T i = U i) → CH T n L w → CH U n L w := by
  intro n
  induction n with
  | zero => intro L w _ _; trivial
  | succ n ih =>
    intro L w h hc
    obtain ⟨h1, h2, h3⟩ := hc
    have e := h n (Nat.lt_succ_self n)
    refine ⟨by rw [← e]; exact h1, fun m hm => ?_, ?_⟩
    · have := h2 m hm
      rw [← h m (by omega)]; exact this
    · rw [← e]
      exact ih _ _ (fun i hi => h i (by omega)) h3
/-- as many turning points as there are loads, at most -/
theorem CH_room {T : Nat → Int} : ∀ (n : Nat) (L w : Int), (w = 1 ∨ w = -1) → (∀ i, i < n → 0 ≤ T i ∧ T i ≤ 1000) → 0 ≤ L → L ≤ 1000 → CH T (n + 1) L w → 0 ≤ T n → T n ≤ 1000 → w * (L - T n) + (n : Int) ≤ 1000 := by
  intro n
  induction n with
  | zero =>
    intro L w hw hb h0 h1 hc t0 t1
    rcases hw with rfl | rfl <;> omega
  | succ n ih =>
    intro L w hw hb h0 h1 hc t0 t1
    obtain ⟨a1, a2, a3⟩ := hc
    have b := hb n (by omega)
    have c := ih (T (n + 1)) (-w) (by rcases hw with rfl | rfl <;> omega) (fun i hi => hb i (by omega)) t0 t1 a3 b.1 b.2
    have a2 := a2 n rfl
    rcases hw with rfl | rfl <;> omega
theorem CH_le {T : Nat → Int} {n : Nat} {L w : Int} (hw : w = 1 ∨ w = -1) (hb : ∀ i, i < n → 0 ≤ T i ∧ T i ≤ 1000) (h0 : 0 ≤ L) (h1 : L ≤ 1000) (hc : CH T n L w) : n ≤ 1000 := by
  cases n with
  | zero => omega
  | succ n =>
    have b := hb n (by omega)
    have := CH_room n L w hw (fun i hi => hb i (by omega)) h0 h1 hc b.1 b.2
    have h2 := hc.1
    omega
/-- what holds while turning points are forgotten -/
def CG (T : Nat → Int) (n : Nat) (x w : Int) : Prop := ∀ m, n = m + 1 → 0 < w * (x - T m) ∧ CH T m (T m) (-w)
theorem CG_pop {T : Nat → Int} {n : Nat} {x w : Int} (hw : w = 1 ∨ w = -1) (h : CG T (n + 2) x w) (hx : 0 ≤ w * (x - T n)) : CG T n x w := by
  intro m hm
  subst hm
  obtain ⟨h1, h2⟩ := h (m + 2) rfl
  obtain ⟨-, -, h5⟩ := h2
  obtain ⟨h6, -, h8⟩ := h5
  have e : - -w = w := by omega
  rw [e] at h6 h8
  refine ⟨?_, h8⟩
  rcases hw with rfl | rfl <;> omega
theorem CG_end {T : Nat → Int} {n : Nat} {x w : Int} (h : CG T n x w) (hx : ∀ m, n = m + 2 → w * (x - T m) < 0) (hw : w = 1 ∨ w = -1) : CH T n x w := by
  cases n with
  | zero => trivial
  | succ n =>
    obtain ⟨h1, h2⟩ := h n rfl
    refine ⟨h1, fun m hm => ?_, h2⟩
    have := hx m (by omega)
    rcases hw with rfl | rfl <;> omega
theorem t_dir {w y : Int32} {D : Int} (hD : w.toInt = D) (h : D = 1 ∨ D = -1) (y0 : -2147483648 < y.toInt) : (w * y).toInt = D * y.toInt := by
  have := y.toInt_lt
  rw [t_mul (by rw [hD]; rcases h with rfl | rfl <;> omega) (by rw [hD]; rcases h with rfl | rfl <;> omega), hD]
theorem e_reached {w t x : Int32} {D : Int} (hD : w.toInt = D) (h : D = 1 ∨ D = -1) : f_X3_isReached w t x = some (if 0 ≤ D * (x.toInt - t.toInt) then 1 else 0) := by
  unfold f_X3_isReached
  rcases h with rfl | rfl
  · rw [if_neg (by rw [t_le, hD, t_0]; omega)]
    by_cases c : x < t
    · rw [if_pos c, if_neg (by rw [t_lt] at c; omega)]
    · rw [if_neg c, if_pos (by rw [t_lt] at c; omega)]
  · rw [if_pos (by rw [t_le, hD, t_0]; omega)]
    by_cases c : t < x
    · rw [if_pos c, if_neg (by rw [t_lt] at c; omega)]
    · rw [if_neg c, if_pos (by rw [t_lt] at c; omega)]
theorem e_shrink {n m : Nat} (h : m ≤ n) (hn : n < 2147483648) : f_X2_shrinkTo (nI n) (nI m) = some (nI m) := by
  unfold f_X2_shrinkTo
  rw [nm_s]
  have e : (if nI m < nI n then nI m else nI n) = nI m := by
    by_cases c : m < n
    · rw [if_pos (nI_lt c (by omega))]
    · have : m = n := by omega
      subst this
      rw [if_neg (nI_nlt (Nat.le_refl _) (by omega))]
  rw [e]
  by_cases c : 0 < m
  · rw [if_pos (show (0 : Int32) < nI m from nI_lt (a := 0) c (by omega))]
  · have : m = 0 := by omega
    subst this
    rw [if_neg (show ¬ (0 : Int32) < nI 0 from by decide)]
    rfl
theorem p_m2 {n : Nat} (h : n + 2 < 2147483648) : nI (n + 2) + (-2 : Int32) = nI n := by
  apply nI_of_t
  rw [t_add (by rw [t_nI h, show (-2 : Int32).toInt = -2 from by decide]; omega) (by rw [t_nI h, show (-2 : Int32).toInt = -2 from by decide]; omega), t_nI h, show (-2 : Int32).toInt = -2 from by decide]
  omega
theorem e_forget {N M : Nat} {x w : Int32} {D : Int} {A : Int64} {T : Nat → Int32} (hM : M < 2147483648) (hD : w.toInt = D) (hw : D = 1 ∨ D = -1)
    (x0 : 0 ≤ x.toInt) (x1 : x.toInt ≤ 1000) : ∀ (n : Nat), n ≤ M → n ≤ 1001 → ∀ (k1 k2 : Nat) (d : Nat → Int32), n < k1 → n < k2 → d 5 = nI n → (∀ i, i < n → d (82 + i) = T i) → (∀ i, i < n → 0 ≤ (T i).toInt ∧ (T i).toInt ≤ 1000) → CG (fun i => (T i).toInt) n x.toInt D →
    ∃ (n' : Nat) (d' : Nat → Int32), n' ≤ n ∧ (n < 2 → n' = n) ∧ n' % 2 = n % 2 ∧ f_X3_forgetPassedTurns_b8 M w T x k1 (nI n) (nI n) = some (nI n') ∧ f_X8_goes_b96 N x w A k2 d = f_X8_goes_b142 N x w A d' ∧ d' 5 = nI n' ∧ (∀ k, k ≠ 5 → d' k = d k) ∧
      CG (fun i => (T i).toInt) n' x.toInt D ∧ CH (fun i => (T i).toInt) n' x.toInt D := by
  intro n
  induction n using Nat.strongRecOn with
  | ind n ih =>
    intro hnM hn k1 k2 d h1 h2 d5 dT bT cg
    obtain ⟨k1, rfl⟩ : ∃ k', k1 = k' + 1 := ⟨k1 - 1, by omega⟩
    obtain ⟨k2, rfl⟩ : ∃ k', k2 = k' + 1 := ⟨k2 - 1, by omega⟩
    by_cases c : n < 2
    · refine ⟨n, d, Nat.le_refl _, fun _ => rfl, rfl, ?_, ?_, d5, fun _ _ => rfl, cg, CG_end cg (fun m hm => by omega) hw⟩
      · rw [f_X3_forgetPassedTurns_b8, if_pos (show nI n < 2 from nI_lt (b := 2) c (by omega))]
      · rw [f_X8_goes_b96, if_pos (by rw [d5]; exact nI_le (b := 1) (by omega) (by omega))]
    · obtain ⟨m, rfl⟩ : ∃ m, n = m + 2 := ⟨n - 2, by omega⟩
      have bm := bT m (by omega)
      have dm := dT m (by omega)
      have e82 : (82 : Int32) + nI (m + 2) - 2 = nI (82 + m) := by rw [k_82, show 82 + (m + 2) = 82 + m + 2 from rfl, m_2]
      have ex : (x - T m).toInt = x.toInt - (T m).toInt := t_sub (by omega) (by omega)
      have ew : (w * (x - T m)).toInt = D * (x.toInt - (T m).toInt) := by rw [t_dir hD hw (by rw [ex]; omega), ex]
      by_cases r : 0 ≤ D * (x.toInt - (T m).toInt)
      · obtain ⟨n', d', g1, g2, gp, g3, g4, g5, g6, g7, g8⟩ := ih m (by omega) (by omega) (by omega) k1 k2 (upd d 5 (nI m)) (by omega) (by omega) us (fun i hi => by rw [un (by omega)]; exact dT i (by omega)) (fun i hi => bT i (by omega)) (CG_pop hw cg r)
        refine ⟨n', d', by omega, fun h => absurd h c, by omega, ?_, ?_, g5, fun k hk => by rw [g6 k hk, un hk], g7, g8⟩
        · rw [f_X3_forgetPassedTurns_b8, if_neg (show ¬ nI (m + 2) < 2 from nI_nlt (a := m + 2) (b := 2) (by omega) (by omega)), m_2, e_first (by omega) hnM hM, ob_s, e_reached hD hw, ob_s, if_pos r, if_neg (show ¬ (1 : Int32) = 0 from by decide), e_shrink (by omega) (by omega), ob_s, nm_s, p_m2 (by omega), g3]
        · rw [f_X8_goes_b96, if_neg (by rw [d5]; exact nI_ge (a := 1) (by omega) (by omega)), d5, e82, gA_i _ (by omega) (by omega), cl_i (by omega), dm, if_neg (by rw [t_lt, ew, t_0]; omega), m_2, nm_s, nm_s, g4]
      · refine ⟨m + 2, d, Nat.le_refl _, fun _ => rfl, rfl, ?_, ?_, d5, fun _ _ => rfl, cg, CG_end cg (fun q hq => ?_) hw⟩
        · rw [f_X3_forgetPassedTurns_b8, if_neg (show ¬ nI (m + 2) < 2 from nI_nlt (a := m + 2) (b := 2) (by omega) (by omega)), m_2, e_first (by omega) hnM hM, ob_s, e_reached hD hw, ob_s, if_neg r, if_pos rfl]
        · rw [f_X8_goes_b96, if_neg (by rw [d5]; exact nI_ge (a := 1) (by omega) (by omega)), d5, e82, gA_i _ (by omega) (by omega), cl_i (by omega), dm, if_pos (by rw [t_lt, ew, t_0]; omega)]
        · have : q = m := by omega
          subst this
          show D * (x.toInt - (T q).toInt) < 0
          omega
/-- the last turning point is met: the extension -/
theorem e_ext {N M n : Nat} {x w zc : Int32} {D : Int} {A : Int64} {T X fc sc d : Nat → Int32} (hN : 3000 ≤ N) (hM : M < 2147483648) (hnM : n ≤ M) (hn : n ≤ 1001) (hD : w.toInt = D) (hw : D = 1 ∨ D = -1)
    (x0 : 0 ≤ x.toInt) (x1 : x.toInt ≤ 1000) (d5 : d 5 = nI n) (dT : ∀ i, i < n → d (82 + i) = T i) (dX : ∀ i, i < n → d (1084 + i) = X i) (bT : ∀ i, i < n → 0 ≤ (T i).toInt ∧ (T i).toInt ≤ 1000) (cg : CG (fun i => (T i).toInt) n x.toInt D) (R : RC zc fc sc d) :
    ∃ E' : Int32, f_X3_extensionBehindTurns N M 8 w (nI n) T X zc fc sc x = some E' ∧ f_X8_goes_b142 N x w A d = f_X8_goes_b211 x E' A d ∧ (n = 0 → 0 ≤ E'.toInt ∧ E'.toInt ≤ 20000) ∧ (∀ m, n = m + 1 → ∃ F : Int32, 0 ≤ F.toInt ∧ F.toInt ≤ 40000 ∧ E' = X m + w * F) := by
  unfold f_X3_extensionBehindTurns f_X8_goes_b142
  rw [nm_s, d5]
  cases n with
  | zero =>
    obtain ⟨v, v1, v2, v3, v4⟩ := cv (N := N) (M := 8) (x := x) (fac := 1) (c := 1) (by omega) (Nat.le_refl _) (by omega) R t_1 (Or.inl rfl) x0 (by omega)
    refine ⟨v, ?_, ?_, fun _ => by omega, fun m hm => by omega⟩
    · rw [if_neg (show ¬ 0 ≤ nI 0 - 1 from by decide), v1, ob_s]
    · rw [if_neg (show ¬ ¬ nI 0 = 0 from fun h => h rfl), v2, ob_s]
  | succ m =>
    have bm := bT m (by omega)
    have c1 : 0 < D * (x.toInt - (T m).toInt) := (cg m rfl).1
    have ex : (x - T m).toInt = x.toInt - (T m).toInt := t_sub (by omega) (by omega)
    have ew : (w * (x - T m)).toInt = D * (x.toInt - (T m).toInt) := by rw [t_dir hD hw (by rw [ex]; omega), ex]
    have eabs : (if 0 ≤ (x - T m) then (x - T m) else 0 - (x - T m)) = w * (x - T m) := by
      rw [t_eq, ew]
      rcases hw with rfl | rfl
      · rw [if_pos (by rw [t_le, ex, t_0]; omega), ex]; omega
      · rw [if_neg (by rw [t_le, ex, t_0]; omega), t_sub (by rw [ex, t_0]; omega) (by rw [ex, t_0]; omega), ex, t_0]; omega
    obtain ⟨v, v1, v2, v3, v4⟩ := cv (N := N) (M := 8) (x := w * (x - T m)) (fac := 2) (c := 2) (by omega) (Nat.le_refl _) (by omega) R t_2 (Or.inr rfl) (by rw [ew]; omega) (by rw [ew]; rcases hw with rfl | rfl <;> omega)
    refine ⟨X m + w * v, ?_, ?_, fun h => by omega, fun q hq => ⟨v, v3, by omega, ?_⟩⟩
    · rw [m_1, if_pos (nI_pos' (by omega)), e_first (by omega) hnM hM, ob_s, e_second (by omega) hnM hM, ob_s, eabs, v1, ob_s]
    · rw [if_pos (nI_ne0 (by omega) (by omega)), k_82, k_1084, show 82 + (m + 1) = 82 + m + 1 from rfl, show 1084 + (m + 1) = 1084 + m + 1 from rfl, m_1, m_1, gA_i _ (by omega) (by omega), cl_i (by omega), nm_s, gA_i _ (by omega) (by omega), cl_i (by omega), dT m (by omega), dX m (by omega), v2, ob_s, nm_s]
    · have : q = m := by omega
      rw [this]
/-- the pointer is dragged -/
def drag (r P dz : Int32) : Int32 := if r ≤ P + dz then (if P - dz ≤ r then P else r + dz) else r - dz
theorem e_drag {E C P dz r : Int32} : f_X3_dragPointer E C P dz r = some (if E + C = r then P else drag (E + C) P dz) := by
  unfold f_X3_dragPointer f_X3_reach drag
  rw [ob_s]
  by_cases h : E + C = r
  · rw [if_neg (fun e => e h), if_pos h]
  · rw [if_pos h, if_neg h]
    by_cases h1 : E + C ≤ P + dz
    · rw [if_pos h1, if_pos h1]
      by_cases h2 : P - dz ≤ E + C
      · rw [if_pos h2, if_pos h2]
      · rw [if_neg h2, if_neg h2, nm_s]
    · rw [if_neg h1, if_neg h1, nm_s]
theorem e_follows {d : Nat → Int32} : ∃ d' : Nat → Int32, f_X8_follows d = some d' ∧ d' 3 = drag (d 1 + d 2) (d 3) (d 6) ∧ ∀ k, k ≠ 3 → d' k = d k := by
  unfold f_X8_follows drag
  rw [nm_s]
  by_cases h1 : d 1 + d 2 ≤ d 3 + d 6
  · rw [if_pos h1, if_pos h1]
    by_cases h2 : d 3 - d 6 ≤ d 1 + d 2
    · rw [if_pos h2, if_pos h2]
      exact ⟨d, rfl, rfl, fun _ _ => rfl⟩
    · rw [if_neg h2, if_neg h2, nm_s, nm_s]
      exact ⟨_, rfl, us, fun k hk => un hk⟩
  · rw [if_neg h1, if_neg h1, nm_s, nm_s]
    exact ⟨_, rfl, us, fun k hk => un hk⟩
theorem add_can {a b c : Int32} : a + c = b + c ↔ a = b := Int32.add_left_inj c
theorem e_211 {x E' L E C P dz : Int32} {A : Int64} {d : Nat → Int32} (d0 : d 0 = L) (d1 : d 1 = E) (d2 : d 2 = C) (d3 : d 3 = P) (d6 : d 6 = dz) :
    ∃ d' : Nat → Int32, f_X8_goes_b211 x E' A d = some (A + (L + x).toInt64 * (E' - E).toInt64, d') ∧ d' 0 = x ∧ d' 1 = E' ∧ d' 3 = (if E' + C = E + C then P else drag (E' + C) P dz) ∧ ∀ k, k ≠ 0 → k ≠ 1 → k ≠ 3 → d' k = d k := by
  unfold f_X8_goes_b211
  rw [d0, d1, nm_s]
  by_cases h : E' = E
  · rw [if_pos h, nm_s, nm_s, if_pos rfl]
    refine ⟨_, rfl, by rw [un (by decide), us], us, ?_, fun k h0 h1 h3 => by rw [un h1, un h0]⟩
    rw [if_pos (by rw [h]), un (by decide), un (by decide), d3]
  · rw [if_neg h, nm_s, nm_s, if_neg (show ¬ (1 : Int32) = 0 from by decide)]
    obtain ⟨d', h1, h2, h3⟩ := e_follows (d := upd (upd d 0 x) 1 E')
    rw [h1, ob_s]
    refine ⟨d', rfl, by rw [h3 _ (by decide), un (by decide), us], by rw [h3 _ (by decide), us], ?_, fun k h0 h1 h4 => by rw [h3 k h4, un h1, un h0]⟩
    rw [h2, if_neg (fun e => h (add_can.mp e)), us, un (show 2 ≠ 1 by decide), un (show 2 ≠ 0 by decide), un (show 3 ≠ 1 by decide), un (show 3 ≠ 0 by decide), un (show 6 ≠ 1 by decide), un (show 6 ≠ 0 by decide), d2, d3, d6]
theorem RC_keep {z : Int32} {f s d d' : Nat → Int32} (R : RC z f s d) (h : ∀ k, 9 ≤ k → k < 26 → d' k = d k) : RC z f s d' := by
  obtain ⟨n, h2, h8, e, d9, df, ds, r⟩ := R
  exact ⟨n, h2, h8, e, by rw [h 9 (by omega) (by omega), d9], fun i hi => by rw [h _ (by omega) (by omega), df i hi], fun i hi => by rw [h _ (by omega) (by omega), ds i hi], r⟩
theorem RK_keep {z : Int32} {f s d d' : Nat → Int32} (R : RK z f s d) (h : ∀ k, 26 ≤ k → k < 41 → d' k = d k) : RK z f s d' := by
  obtain ⟨n, h2, h8, e, d9, df, ds, r⟩ := R
  exact ⟨n, h2, h8, e, by rw [h 26 (by omega) (by omega), d9], fun i hi => by rw [h _ (by omega) (by omega), df i hi], fun i hi => by rw [h _ (by omega) (by omega), ds i hi], r⟩
theorem chg_core {N M n : Nat} {L E C P W dz x dir zc : Int32} {D : Int} {A : Int64} {T X fc sc d : Nat → Int32}
    (hN : 3000 ≤ N) (hM : M ≤ 1001) (hn : n ≤ 1000) (hnM : n ≤ M) (room : W = -dir → n < M) (hD : dir.toInt = D) (hw : D = 1 ∨ D = -1)
    (d0 : d 0 = L) (d1 : d 1 = E) (d2 : d 2 = C) (d3 : d 3 = P) (d4 : d 4 = W) (d6 : d 6 = dz) (d5 : d 5 = nI n)
    (dT : ∀ i, i < n → d (82 + i) = T i) (dX : ∀ i, i < n → d (1084 + i) = X i) (bT : ∀ i, i < n → 0 ≤ (T i).toInt ∧ (T i).toInt ≤ 1000)
    (L0 : 0 ≤ L.toInt) (L1 : L.toInt ≤ 1000) (x0 : 0 ≤ x.toInt) (x1 : x.toInt ≤ 1000) (hx : 0 < D * (x.toInt - L.toInt))
    (ch : CH (fun i => (T i).toInt) n L.toInt W.toInt) (hW : W = 0 ∧ n = 0 ∨ W = 1 ∨ W = -1) (R : RC zc fc sc d) :
    ∃ (E' P' : Int32) (n' n1 : Nat) (T1 X1 d' : Nat → Int32),
      f_X3_changeLoad_b28 N M 8 C dz zc fc sc x (E + C) dir L E P W A (nI n) T X = some (x, E', P', dir, A + (L + x).toInt64 * (E' - E).toInt64, nI n', T1, X1) ∧
      f_X8_goes_b26 N x dir A d = some (A + (L + x).toInt64 * (E' - E).toInt64, d') ∧
      d' 0 = x ∧ d' 1 = E' ∧ d' 2 = C ∧ d' 3 = P' ∧ d' 4 = dir ∧ d' 5 = nI n' ∧ (∀ i, i < n' → d' (82 + i) = T1 i) ∧ (∀ i, i < n' → d' (1084 + i) = X1 i) ∧
      (∀ i, i < n' → 0 ≤ (T1 i).toInt ∧ (T1 i).toInt ≤ 1000) ∧ CH (fun i => (T1 i).toInt) n' x.toInt D ∧ n' ≤ 1000 ∧ n' ≤ M ∧
      (∀ k, 6 ≤ k → k < 82 → d' k = d k) ∧ n' ≤ n1 ∧ (n1 < 2 → n' = n1) ∧ n' % 2 = n1 % 2 ∧
      ((W = -dir ∧ n1 = n + 1 ∧ T1 = upd T n L ∧ X1 = upd X n E) ∨ (¬ W = -dir ∧ n1 = n ∧ T1 = T ∧ X1 = X)) ∧
      (n' = 0 → 0 ≤ E'.toInt ∧ E'.toInt ≤ 20000) ∧ (∀ m, n' = m + 1 → ∃ F : Int32, 0 ≤ F.toInt ∧ F.toInt ≤ 40000 ∧ E' = X1 m + dir * F) ∧ P' = (if E' + C = E + C then P else drag (E' + C) P dz) := by
  -- the turn
  have tn : ∃ (n1 : Nat) (T1 X1 g : Nat → Int32), n1 ≤ M ∧ n1 ≤ 1001 ∧ f_X3_turnTo M L E W (nI n) T X dir = some (dir, nI n1, T1, X1) ∧ f_X8_goes_b26 N x dir A d = f_X8_goes_b96 N x dir A N g ∧
      ((W = -dir ∧ n1 = n + 1 ∧ T1 = upd T n L ∧ X1 = upd X n E) ∨ (¬ W = -dir ∧ n1 = n ∧ T1 = T ∧ X1 = X)) ∧
      g 0 = L ∧ g 1 = E ∧ g 2 = C ∧ g 3 = P ∧ g 4 = dir ∧ g 5 = nI n1 ∧ (∀ i, i < n1 → g (82 + i) = T1 i) ∧ (∀ i, i < n1 → g (1084 + i) = X1 i) ∧ (∀ k, 6 ≤ k → k < 82 → g k = d k) ∧
      (∀ i, i < n1 → 0 ≤ (T1 i).toInt ∧ (T1 i).toInt ≤ 1000) ∧ CG (fun i => (T1 i).toInt) n1 x.toInt D := by
    by_cases h : W = -dir
    · refine ⟨n + 1, upd T n L, upd X n E, upd (upd (upd (upd d (82 + n) L) (1084 + n) E) 5 (nI (n + 1))) 4 dir, room h, by omega, ?_, ?_, Or.inl ⟨h, rfl, rfl, rfl⟩, ?_, ?_, ?_, ?_, us, ?_, ?_, ?_, ?_, ?_, ?_⟩
      · unfold f_X3_turnTo f_X2_append
        rw [if_neg (fun e => e h), oN, if_neg (nI_ge (room h) (by omega)), gA_i _ (room h) (by omega), nm_s, gA_i _ (room h) (by omega), nm_s, nm_s, cl_i (by omega), p_1, ob_s]
      · unfold f_X8_goes_b26
        rw [d4, if_neg (fun e => e h), nm_s, d0, d5, k_82, gA_i _ (by omega) (by omega), cl_i (by omega), nm_s, nm_s, un (show 5 ≠ 82 + n by omega), un (show 1 ≠ 82 + n by omega), d5, d1, k_1084, gA_i _ (by omega) (by omega), cl_i (by omega), nm_s, un (show 5 ≠ 1084 + n by omega), un (show 5 ≠ 82 + n by omega), d5, p_1, nm_s, nm_s, nm_s]
      · rw [un (by omega), un (by omega), un (by omega), un (by omega), d0]
      · rw [un (by omega), un (by omega), un (by omega), un (by omega), d1]
      · rw [un (by omega), un (by omega), un (by omega), un (by omega), d2]
      · rw [un (by omega), un (by omega), un (by omega), un (by omega), d3]
      · rw [un (by omega), us]
      · intro i hi
        rw [un (by omega), un (by omega), un (by omega)]
        by_cases e : i = n
        · rw [e, us, us]
        · rw [un (by omega), un e, dT i (by omega)]
      · intro i hi
        rw [un (by omega), un (by omega)]
        by_cases e : i = n
        · rw [e, us, us]
        · rw [un (by omega), un (by omega), un e, dX i (by omega)]
      · intro k h1 h2
        rw [un (by omega), un (by omega), un (by omega), un (by omega)]
      · intro i hi
        by_cases e : i = n
        · rw [e, us]; exact ⟨L0, L1⟩
        · rw [un e]; exact bT i (by omega)
      · intro m hm
        have : m = n := by omega
        subst this
        show 0 < D * (x.toInt - (upd T m L m).toInt) ∧ CH (fun i => (upd T m L i).toInt) m (upd T m L m).toInt (-D)
        rw [us]
        refine ⟨hx, ?_⟩
        have eW : W.toInt = -D := by rw [h, t_neg (by rw [hD]; rcases hw with rfl | rfl <;> omega), hD]
        rw [eW] at ch
        exact CH_congr m _ _ (fun i hi => by show (T i).toInt = (upd T m L i).toInt; rw [un (by omega)]) ch
    · refine ⟨n, T, X, upd d 4 dir, hnM, by omega, ?_, ?_, Or.inr ⟨h, rfl, rfl, rfl⟩, ?_, ?_, ?_, ?_, us, ?_, ?_, ?_, ?_, bT, ?_⟩
      · unfold f_X3_turnTo
        rw [if_pos h]
      · unfold f_X8_goes_b26
        rw [d4, if_pos h, nm_s]
      · rw [un (by omega), d0]
      · rw [un (by omega), d1]
      · rw [un (by omega), d2]
      · rw [un (by omega), d3]
      · rw [un (by omega), d5]
      · intro i hi; rw [un (by omega), dT i hi]
      · intro i hi; rw [un (by omega), dX i hi]
      · intro k h1 h2; rw [un (by omega)]
      · intro m hm
        subst hm
        have eW : W.toInt = D := by
          rcases hW with hW | hW | hW
          · exact absurd hW.2 (by omega)
          · rcases hw with rfl | rfl
            · rw [hW]; exact t_1
            · exact absurd (by rw [hW, show dir = -1 from t_eq.mpr (by rw [hD, t_m1])]; rfl) h
          · rcases hw with rfl | rfl
            · exact absurd (by rw [hW, show dir = 1 from t_eq.mpr (by rw [hD, t_1])]) h
            · rw [hW]; exact t_m1
        rw [eW] at ch
        obtain ⟨c1, -, c3⟩ := ch
        refine ⟨?_, c3⟩
        show 0 < D * (x.toInt - (T m).toInt)
        have c1 : 0 < D * (L.toInt - (T m).toInt) := c1
        rcases hw with rfl | rfl <;> omega
  obtain ⟨n1, T1, X1, g, k1, k2, t1, t2, tc, g0, g1, g2, g3, g4, g5, gT, gX, gk, gb, cg⟩ := tn
  obtain ⟨n', q, r1, r2, rp, r3, r4, r5, r6, r7, r8⟩ := e_forget (N := N) (M := M) (A := A) (by omega) hD hw x0 x1 n1 k1 k2 N N g (by omega) (by omega) g5 gT gb cg
  have Rq : RC zc fc sc q := RC_keep R (fun k h1 h2 => by rw [r6 k (by omega), gk k (by omega) (by omega)])
  obtain ⟨E', e1, e2, e3, e4⟩ := e_ext (N := N) (M := M) (n := n') (A := A) (T := T1) (X := X1) hN (by omega) (by omega) (by omega) hD hw x0 x1 r5 (fun i hi => by rw [r6 _ (by omega), gT i (by omega)]) (fun i hi => by rw [r6 _ (by omega), gX i (by omega)]) (fun i hi => gb i (by omega)) r7 Rq
  obtain ⟨d', f1, f2, f3, f4, f5⟩ := e_211 (x := x) (E' := E') (A := A) (d := q) (by rw [r6 _ (by omega), g0]) (by rw [r6 _ (by omega), g1]) (by rw [r6 _ (by omega), g2]) (by rw [r6 _ (by omega), g3]) (by rw [r6 6 (by omega), gk 6 (by omega) (by omega), d6])
  have hle := CH_le hw (fun i hi => gb i (by omega)) x0 x1 r8
  refine ⟨E', _, n', n1, T1, X1, d', ?_, ?_, f2, f3, ?_, f4, ?_, ?_, ?_, ?_, fun i hi => gb i (by omega), r8, hle, by omega, ?_, r1, r2, rp, tc, e3, e4, rfl⟩
  · unfold f_X3_changeLoad_b28
    rw [t1, ob_s]
    unfold f_X3_forgetPassedTurns
    rw [r3, ob_s, e1, ob_s, nm_s, e_drag, ob_s]
  · rw [t2, r4, e2, f1]
  · rw [f5 _ (by omega) (by omega) (by omega), r6 _ (by omega), g2]
  · rw [f5 _ (by omega) (by omega) (by omega), r6 _ (by omega), g4]
  · rw [f5 _ (by omega) (by omega) (by omega), r5]
  · intro i hi; rw [f5 _ (by omega) (by omega) (by omega), r6 _ (by omega), gT i (by omega)]
  · intro i hi; rw [f5 _ (by omega) (by omega) (by omega), r6 _ (by omega), gX i (by omega)]
  · intro k h1 h2; rw [f5 _ (by omega) (by omega) (by omega), r6 _ (by omega), gk k h1 h2]
