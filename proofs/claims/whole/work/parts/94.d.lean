/-! pure part D: springs, hours, weights on the pan -/
def RLo (L E C P W dz rt st : Int32) (A : Int64) (d : Nat → Int32) (ac : Int64) : Prop :=
  d 0 = L ∧ d 1 = E ∧ d 2 = C ∧ d 3 = P ∧ d 4 = W ∧ d 6 = dz ∧ d 7 = rt ∧ d 8 = st ∧ ac = A ∧ 0 ≤ st.toInt ∧ st.toInt ≤ 50 ∧ 0 ≤ dz.toInt ∧ dz.toInt ≤ 200
/-- the way behind n turning points -/
def sgn (n : Nat) : Int := if n % 2 = 0 then 1 else -1
theorem sgn_0 {n : Nat} (h : n % 2 = 0) : sgn n = 1 := if_pos h
theorem sgn_1 {n : Nat} (h : n % 2 = 1) : sgn n = -1 := if_neg (by omega)
def RT (L W z : Int32) (T X d : Nat → Int32) : Prop := ∃ n : Nat, n ≤ 1000 ∧ z = nI n ∧ d 5 = nI n ∧ (∀ i, i < n → d (82 + i) = T i) ∧ (∀ i, i < n → d (1084 + i) = X i) ∧
  (∀ i, i < n → 0 ≤ (T i).toInt ∧ (T i).toInt ≤ 1000) ∧ 0 ≤ L.toInt ∧ L.toInt ≤ 1000 ∧ CH (fun i => (T i).toInt) n L.toInt W.toInt ∧ (W = 0 ∧ n = 0 ∧ L.toInt = 0 ∨ W.toInt = sgn n)
theorem RT_keep {L W z : Int32} {T X d d' : Nat → Int32} (R : RT L W z T X d) (h5 : d' 5 = d 5) (h : ∀ k, 82 ≤ k → d' k = d k) : RT L W z T X d' := by
  obtain ⟨n, h1, e, d5, dT, dX, r⟩ := R
  exact ⟨n, h1, e, by rw [h5, d5], fun i hi => by rw [h _ (by omega), dT i hi], fun i hi => by rw [h _ (by omega), dX i hi], r⟩
theorem chg {N : Nat} {L E C P W dz rt st z zc x : Int32} {A ac : Int64} {T X fc sc d : Nat → Int32} (hN : 3000 ≤ N) (hL : RLo L E C P W dz rt st A d ac) (hT : RT L W z T X d) (R : RC zc fc sc d) (x0 : 0 ≤ x.toInt) (x1 : x.toInt ≤ 1000) :
    ∃ (E' P' W' z' : Int32) (A' : Int64) (T' X' d' : Nat → Int32), f_X3_changeLoad N 1001 8 L E C P W A dz z T X zc fc sc x = some (x, E', P', W', A', z', T', X') ∧ f_X8_goes N ac d x = some (A', d') ∧
      RLo x E' C P' W' dz rt st A' d' A' ∧ RT x W' z' T' X' d' ∧ ∀ k, 9 ≤ k → k < 82 → d' k = d k := by
  obtain ⟨d0, d1, d2, d3, d4, d6, d7, d8, rfl, s0, s1, z0, z1⟩ := hL
  obtain ⟨n, hn, rfl, d5, dT, dX, bT, L0, L1, ch, hW⟩ := hT
  have hW' : W = 0 ∧ n = 0 ∨ W = 1 ∨ W = -1 := by
    rcases hW with h | h
    · exact Or.inl ⟨h.1, h.2.1⟩
    · rcases Nat.mod_two_eq_zero_or_one n with e | e
      · rw [sgn_0 e] at h; exact Or.inr (Or.inl (t_eq.mpr (by rw [h, t_1])))
      · rw [sgn_1 e] at h; exact Or.inr (Or.inr (t_eq.mpr (by rw [h, t_m1])))
  unfold f_X3_changeLoad f_X8_goes f_X3_reach
  by_cases h : x = L
  · subst h
    rw [if_neg (fun e => e rfl), d0, if_neg (fun e => e rfl)]
    exact ⟨E, P, W, nI n, ac, T, X, d, rfl, rfl, ⟨d0, d1, d2, d3, d4, d6, d7, d8, rfl, s0, s1, z0, z1⟩, ⟨n, hn, rfl, d5, dT, dX, bT, L0, L1, ch, hW⟩, fun _ _ _ => rfl⟩
  · have hne : x.toInt ≠ L.toInt := fun e => h (t_eq.mpr e)
    rw [if_pos h, ob_s, d0, if_pos h]
    by_cases c : x ≤ L
    · rw [if_pos c, if_pos c]
      rw [t_le] at c
      obtain ⟨E', P', n', n1, T1, X1, d', g1, g2, g3, g4, g5, g6, g7, g8, g9, g10, g11, g12, g13, g14, g15, -, -, gp, gc, -⟩ := chg_core (N := N) (M := 1001) (n := n) (A := ac) (dir := -1) (D := -1) (x := x) hN (by omega) hn (by omega) (fun _ => by omega) t_m1 (Or.inr rfl) d0 d1 d2 d3 d4 d6 d5 dT dX bT L0 L1 x0 x1 (by omega) ch hW' R
      exact ⟨E', P', -1, nI n', _, T1, X1, d', g1, g2, ⟨g3, g4, g5, g6, g7, by rw [g15 6 (by omega) (by omega), d6], by rw [g15 7 (by omega) (by omega), d7], by rw [g15 8 (by omega) (by omega), d8], rfl, s0, s1, z0, z1⟩,
        ⟨n', g13, rfl, g8, g9, g10, g11, x0, x1, g12, Or.inr (by
          rw [t_m1]
          refine (sgn_1 ?_).symm
          rcases gc with ⟨ga, gb, -⟩ | ⟨ga, gb, -⟩
          · rcases hW with h1 | h1
            · rw [h1.1] at ga; exact absurd ga (by decide)
            · rw [ga, show (- (-1 : Int32)).toInt = 1 from by decide] at h1
              rcases Nat.mod_two_eq_zero_or_one n with e | e
              · omega
              · rw [sgn_1 e] at h1; omega
          · rcases hW with h1 | h1
            · omega
            · rcases Nat.mod_two_eq_zero_or_one n with e | e
              · rw [sgn_0 e] at h1; exact absurd (t_eq.mpr (by rw [h1]; decide)) ga
              · omega)⟩, fun k h1 h2 => g15 k (by omega) h2⟩
    · rw [if_neg c, if_neg c]
      rw [t_le] at c
      obtain ⟨E', P', n', n1, T1, X1, d', g1, g2, g3, g4, g5, g6, g7, g8, g9, g10, g11, g12, g13, g14, g15, -, -, gp, gc, -⟩ := chg_core (N := N) (M := 1001) (n := n) (A := ac) (dir := 1) (D := 1) (x := x) hN (by omega) hn (by omega) (fun _ => by omega) t_1 (Or.inl rfl) d0 d1 d2 d3 d4 d6 d5 dT dX bT L0 L1 x0 x1 (by omega) ch hW' R
      exact ⟨E', P', 1, nI n', _, T1, X1, d', g1, g2, ⟨g3, g4, g5, g6, g7, by rw [g15 6 (by omega) (by omega), d6], by rw [g15 7 (by omega) (by omega), d7], by rw [g15 8 (by omega) (by omega), d8], rfl, s0, s1, z0, z1⟩,
        ⟨n', g13, rfl, g8, g9, g10, g11, x0, x1, g12, Or.inr (by
          rw [t_1]
          refine (sgn_0 ?_).symm
          rcases gc with ⟨ga, gb, -⟩ | ⟨ga, gb, -⟩
          · rcases hW with h1 | h1
            · rw [h1.1] at ga; exact absurd ga (by decide)
            · rw [ga, show (-1 : Int32).toInt = -1 from by decide] at h1
              rcases Nat.mod_two_eq_zero_or_one n with e | e
              · rw [sgn_0 e] at h1; omega
              · omega
          · rcases hW with h1 | h1
            · omega
            · rcases Nat.mod_two_eq_zero_or_one n with e | e
              · omega
              · rw [sgn_1 e] at h1; exact absurd (t_eq.mpr (by rw [h1]; decide)) ga)⟩, fun k h1 h2 => g15 k (by omega) h2⟩
/-! hours -/
theorem clamp_eq {t st : Int32} (s0 : 0 ≤ st.toInt) : (if (-st) < (if t < st then t else st) then (if t < st then t else st) else (-st)) = (if t ≤ st then (if (-st) ≤ t then t else -st) else st) := by
  have hn : (-st).toInt = -st.toInt := t_neg (by omega)
  by_cases h1 : t < st
  · have h2 : t ≤ st := by rw [t_lt] at h1; rw [t_le]; omega
    rw [if_pos h1, if_pos h2]
    by_cases h3 : -st < t
    · have h4 : -st ≤ t := by rw [t_lt] at h3; rw [t_le]; omega
      rw [if_pos h3, if_pos h4]
    · rw [if_neg h3]
      by_cases h4 : -st ≤ t
      · rw [if_pos h4]; rw [t_lt] at h3; rw [t_le] at h4; exact t_eq.mpr (by omega)
      · rw [if_neg h4]
  · rw [if_neg h1]
    rw [t_lt] at h1
    by_cases h2 : t ≤ st
    · have e : t = st := by rw [t_le] at h2; exact t_eq.mpr (by omega)
      rw [if_pos h2, e, if_pos (show -st ≤ st by rw [t_le]; omega)]
      by_cases h3 : -st < st
      · rw [if_pos h3]
      · rw [if_neg h3]; rw [t_lt] at h3; exact t_eq.mpr (by omega)
    · rw [if_neg h2]
      by_cases h3 : -st < st
      · rw [if_pos h3]
      · rw [if_neg h3]; rw [t_lt] at h3; exact t_eq.mpr (by omega)
theorem add_eq_left {a b : Int32} : a + b = a ↔ b = 0 := by
  constructor
  · intro h
    have : a + b = a + 0 := by rw [h, Int32.add_zero]
    exact (Int32.add_right_inj a).mp this
  · intro h; rw [h, Int32.add_zero]
theorem e_hour {d : Nat → Int32} {by_ : Int32} {k : Nat} {x2 : Int32} : ∃ d' : Nat → Int32, (∀ F : Nat → Int32 → (Nat → Int32) → Option (Nat → Int32),
      nm (d 2 + by_) (fun t5 => nm (upd d 2 t5) (fun g6 => (if by_ = 0 then nm (x2 + (1 : Int32)) (fun t8 => F k t8 g6) else Option.bind (f_X8_follows g6) (fun u9 => nm (x2 + (1 : Int32)) (fun t10 => F k t10 u9))))) = F k (x2 + 1) d') ∧
    d' 2 = d 2 + by_ ∧ d' 3 = (if by_ = 0 then d 3 else drag (d 1 + (d 2 + by_)) (d 3) (d 6)) ∧ ∀ j, j ≠ 2 → j ≠ 3 → d' j = d j := by
  by_cases h : by_ = 0
  · refine ⟨upd d 2 (d 2 + by_), fun F => ?_, us, ?_, fun j h1 h2 => un h1⟩
    · rw [nm_s, nm_s, if_pos h, nm_s]
    · rw [if_pos h, un (by decide)]
  · obtain ⟨d', g1, g2, g3⟩ := e_follows (d := upd d 2 (d 2 + by_))
    refine ⟨d', fun F => ?_, by rw [g3 _ (by decide), us], ?_, fun j h1 h2 => by rw [g3 j h2, un h1]⟩
    · rw [nm_s, nm_s, if_neg h, g1, ob_s, nm_s]
    · rw [g2, if_neg h, us, un (show 1 ≠ 2 by decide), un (show 3 ≠ 2 by decide), un (show 6 ≠ 2 by decide)]
theorem e_hours {L E W dz rt st p0 : Int32} {A ac : Int64} {h : Nat} (hp : p0 = nI h) (hh : h < 2147483648) : ∀ (j i k1 k2 : Nat) (C P : Int32) (d : Nat → Int32), i + j = h → j < k1 → j < k2 → RLo L E C P W dz rt st A d ac →
    ∃ (C' P' : Int32) (d' : Nat → Int32), f_X3_passHours_b2 L E dz rt st p0 k1 (nI i) C P = some (C', P') ∧ f_X8_creeps_b2 p0 k2 (nI i) d = some d' ∧ RLo L E C' P' W dz rt st A d' ac ∧ ∀ k, k ≠ 2 → k ≠ 3 → d' k = d k := by
  intro j
  induction j with
  | zero =>
    intro i k1 k2 C P d hi h1 h2 R
    obtain ⟨k1, rfl⟩ : ∃ k', k1 = k' + 1 := ⟨k1 - 1, by omega⟩
    obtain ⟨k2, rfl⟩ : ∃ k', k2 = k' + 1 := ⟨k2 - 1, by omega⟩
    have : i = h := by omega
    subst this
    refine ⟨C, P, d, ?_, ?_, R, fun _ _ _ => rfl⟩
    · rw [f_X3_passHours_b2, if_pos (by rw [hp]; exact nI_le (Nat.le_refl _) (by omega))]
    · rw [f_X8_creeps_b2, if_pos (by rw [hp]; exact nI_le (Nat.le_refl _) (by omega))]
  | succ j ih =>
    intro i k1 k2 C P d hi h1 h2 R
    obtain ⟨k1, rfl⟩ : ∃ k', k1 = k' + 1 := ⟨k1 - 1, by omega⟩
    obtain ⟨k2, rfl⟩ : ∃ k', k2 = k' + 1 := ⟨k2 - 1, by omega⟩
    obtain ⟨d0, d1, d2, d3, d4, d6, d7, d8, hA, s0, s1, z0, z1⟩ := R
    have hlt : ¬ p0 ≤ nI i := by rw [hp]; exact nI_ge (by omega) (by omega)
    obtain ⟨d', q1, q2, q3, q4⟩ := e_hour (d := d) (by_ := (if d 0 * d 7 / 100 - d 2 ≤ d 8 then (if (-(d 8)) ≤ d 0 * d 7 / 100 - d 2 then d 0 * d 7 / 100 - d 2 else -(d 8)) else d 8)) (k := k2) (x2 := nI i)
    have hm : f_X8_creeps_b2 p0 (k2 + 1) (nI i) d = f_X8_creeps_b2 p0 k2 (nI i + 1) d' := by
      have q := q1 (f_X8_creeps_b2 p0)
      rw [f_X8_creeps_b2, if_neg hlt, nm_s]
      by_cases c1 : d 0 * d 7 / 100 - d 2 ≤ d 8
      · rw [if_pos c1] at q ⊢
        by_cases c2 : -(d 8) ≤ d 0 * d 7 / 100 - d 2
        · rw [if_pos c2] at q ⊢
          exact q
        · rw [if_neg c2] at q ⊢
          rw [nm_s]
          exact q
      · rw [if_neg c1] at q ⊢
        rw [nm_s]
        exact q
    rw [d0, d7, d2, d8] at q2 q3
    obtain ⟨by_, hby⟩ : ∃ y : Int32, y = (if L * rt / 100 - C ≤ st then (if (-st) ≤ L * rt / 100 - C then L * rt / 100 - C else -st) else st) := ⟨_, rfl⟩
    rw [← hby] at q2 q3
    have R' : RLo L E (C + by_) (if E + (C + by_) = E + C then P else drag (E + (C + by_)) P dz) W dz rt st A d' ac := by
      refine ⟨by rw [q4 _ (by decide) (by decide), d0], by rw [q4 _ (by decide) (by decide), d1], q2, ?_, by rw [q4 _ (by decide) (by decide), d4], by rw [q4 _ (by decide) (by decide), d6], by rw [q4 _ (by decide) (by decide), d7], by rw [q4 _ (by decide) (by decide), d8], hA, s0, s1, z0, z1⟩
      rw [q3, d1, d3, d6]
      by_cases e : by_ = 0
      · rw [if_pos e, if_pos (by rw [e, Int32.add_zero])]
      · rw [if_neg e, if_neg (fun e2 => e (add_eq_left.mp ((Int32.add_right_inj E).mp e2)))]
    obtain ⟨C', P', d'', g1, g2, g3, g4⟩ := ih (i + 1) k1 k2 _ _ d' (by omega) (by omega) (by omega) R'
    refine ⟨C', P', d'', ?_, by rw [hm, p_1, g2], g3, fun k h1 h2 => by rw [g4 k h1 h2, q4 k h1 h2]⟩
    rw [f_X3_passHours_b2, if_neg hlt]
    unfold f_X3_reach
    rw [ob_s, nm_s, clamp_eq s0, ← hby, nm_s, e_drag, ob_s, nm_s, p_1]
    exact g1
theorem hrs {N : Nat} {L E C P W dz rt st p0 : Int32} {A ac : Int64} {d : Nat → Int32} (hN : 3000 ≤ N) (hL : RLo L E C P W dz rt st A d ac) (h0 : 0 ≤ p0.toInt) (h1 : p0.toInt ≤ 200) :
    ∃ (C' P' : Int32) (d' : Nat → Int32), f_X3_passHours N L E C P dz rt st p0 = some (C', P') ∧ f_X8_creeps N d p0 = some d' ∧ RLo L E C' P' W dz rt st A d' ac ∧ ∀ k, k ≠ 2 → k ≠ 3 → d' k = d k := by
  obtain ⟨h, hh, e⟩ : ∃ h : Nat, h ≤ 200 ∧ p0 = nI h := ⟨p0.toInt.toNat, by omega, nI_of_t (by omega)⟩
  subst e
  exact e_hours rfl (by omega) h 0 N N C P d (by omega) (by omega) (by omega) hL
/-! zero -/
theorem zer {L E C P W dz rt st z : Int32} {A ac : Int64} {T X d : Nat → Int32} (hz : L = 0) (hL : RLo L E C P W dz rt st A d ac) (hT : RT L W z T X d) :
    ∃ d' : Nat → Int32, f_X3_rest z = some (0, 0, 0, 0, 0, 0) ∧ f_X8_zeroes d = some (0, d') ∧ RLo L 0 0 0 0 dz rt st 0 d' 0 ∧ RT L 0 0 T X d' ∧ ∀ k, 6 ≤ k → d' k = d k := by
  obtain ⟨d0, d1, d2, d3, d4, d6, d7, d8, -, s0, s1, z0, z1⟩ := hL
  obtain ⟨n, hn, rfl, d5, dT, dX, bT, L0, L1, ch, hW⟩ := hT
  refine ⟨upd (upd (upd (upd (upd d 5 0) 4 0) 2 0) 1 0) 3 0, ?_, ?_, ⟨?_, ?_, ?_, us, ?_, ?_, ?_, ?_, rfl, s0, s1, z0, z1⟩, ⟨0, by omega, rfl, ?_, fun i hi => by omega, fun i hi => by omega, fun i hi => by omega, L0, L1, trivial, Or.inl ⟨rfl, rfl, by rw [hz]; exact t_0⟩⟩, ?_⟩
  · unfold f_X3_rest f_X3_reach
    rw [show (0 : Int32) = nI 0 from rfl, e_shrink (by omega) (by omega), ob_s, ob_s]
    rfl
  · unfold f_X8_zeroes
    rw [nm_s, nm_s, nm_s, nm_s, nm_s]
  · rw [un (by decide), un (by decide), un (by decide), un (by decide), un (by decide), d0]
  · rw [un (by decide), us]
  · rw [un (by decide), un (by decide), us]
  · rw [un (by decide), un (by decide), un (by decide), us]
  · rw [un (by decide), un (by decide), un (by decide), un (by decide), un (by decide), d6]
  · rw [un (by decide), un (by decide), un (by decide), un (by decide), un (by decide), d7]
  · rw [un (by decide), un (by decide), un (by decide), un (by decide), un (by decide), d8]
  · rw [un (by decide), un (by decide), un (by decide), un (by decide), us]; rfl
  · intro k hk
    rw [un (by omega), un (by omega), un (by omega), un (by omega), un (by omega)]
/-! the weights on the pan -/
def smZ (m p : Nat → Int32) : Nat → Int
  | 0 => 0
  | i + 1 => smZ m p i + (if p i = 0 then 0 else (m i).toInt)
def RW (L z : Int32) (ms es vs ps pn d : Nat → Int32) : Prop := ∃ n : Nat, n ≤ 8 ∧ z = nI n ∧ d 41 = nI n ∧ (∀ i, i < 8 → d (42 + i) = ms i) ∧ (∀ i, i < 8 → d (50 + i) = es i) ∧ (∀ i, i < 8 → d (58 + i) = vs i) ∧ (∀ i, i < 8 → d (66 + i) = ps i) ∧ (∀ i, i < 8 → d (74 + i) = pn i) ∧
  (∀ i, i < n → 1 ≤ (ms i).toInt ∧ (ms i).toInt ≤ 500) ∧ (∀ i, i < n → pn i = 0 ∨ pn i = 1) ∧ (∀ i, i < n → -1 ≤ (ps i).toInt ∧ (ps i).toInt < (i : Int)) ∧ smZ ms pn n ≤ L.toInt
theorem RW_keep {L z : Int32} {ms es vs ps pn d d' : Nat → Int32} (R : RW L z ms es vs ps pn d) (h : ∀ k, 41 ≤ k → k < 82 → d' k = d k) : RW L z ms es vs ps pn d' := by
  obtain ⟨n, h1, e, d41, a, b, c, f, g, r⟩ := R
  exact ⟨n, h1, e, by rw [h 41 (by omega) (by omega), d41], fun i hi => by rw [h _ (by omega) (by omega), a i hi], fun i hi => by rw [h _ (by omega) (by omega), b i hi], fun i hi => by rw [h _ (by omega) (by omega), c i hi], fun i hi => by rw [h _ (by omega) (by omega), f i hi], fun i hi => by rw [h _ (by omega) (by omega), g i hi], r⟩
theorem RW_load {L L' z : Int32} {ms es vs ps pn d : Nat → Int32} (R : RW L z ms es vs ps pn d) (h : ∀ n : Nat, z = nI n → n ≤ 8 → smZ ms pn n ≤ L.toInt → smZ ms pn n ≤ L'.toInt) : RW L' z ms es vs ps pn d := by
  obtain ⟨n, h1, e, d41, a, b, c, f, g, r1, r2, r3, r4⟩ := R
  exact ⟨n, h1, e, d41, a, b, c, f, g, r1, r2, r3, h n e h1 r4⟩
theorem smZ_bd {m p : Nat → Int32} : ∀ n : Nat, (∀ i, i < n → 1 ≤ (m i).toInt ∧ (m i).toInt ≤ 500) → 0 ≤ smZ m p n ∧ smZ m p n ≤ 500 * (n : Int) := by
  intro n
  induction n with
  | zero => intro _; exact ⟨Int.le_refl _, Int.le_refl _⟩
  | succ n ih =>
    intro h
    have a := ih (fun i hi => h i (by omega))
    have b := h n (by omega)
    have e : smZ m p (n + 1) = smZ m p n + (if p n = 0 then 0 else (m n).toInt) := rfl
    by_cases c : p n = 0
    · rw [e, if_pos c]; omega
    · rw [e, if_neg c]; omega
theorem smZ_congr {m p m' p' : Nat → Int32} : ∀ n : Nat, (∀ i, i < n → m i = m' i ∧ p i = p' i) → smZ m p n = smZ m' p' n := by
  intro n
  induction n with
  | zero => intro _; rfl
  | succ n ih =>
    intro h
    have b := h n (by omega)
    show smZ m p n + (if p n = 0 then 0 else (m n).toInt) = smZ m' p' n + (if p' n = 0 then 0 else (m' n).toInt)
    rw [ih (fun i hi => h i (by omega)), b.1, b.2]
theorem smZ_upd {m p : Nat → Int32} {w : Nat} {v : Int32} : ∀ n : Nat, smZ m (upd p w v) n = if w < n then smZ m p n - (if p w = 0 then 0 else (m w).toInt) + (if v = 0 then 0 else (m w).toInt) else smZ m p n := by
  intro n
  induction n with
  | zero => rw [if_neg (by omega)]; rfl
  | succ n ih =>
    show smZ m (upd p w v) n + (if upd p w v n = 0 then 0 else (m n).toInt) = if w < n + 1 then smZ m p n + (if p n = 0 then 0 else (m n).toInt) - (if p w = 0 then 0 else (m w).toInt) + (if v = 0 then 0 else (m w).toInt) else smZ m p n + (if p n = 0 then 0 else (m n).toInt)
    rw [ih]
    by_cases c : w = n
    · subst c
      rw [us, if_neg (show ¬ w < w by omega), if_pos (show w < w + 1 by omega)]
      omega
    · rw [un (fun e => c e.symm)]
      by_cases c2 : w < n
      · rw [if_pos c2, if_pos (show w < n + 1 by omega)]; omega
      · rw [if_neg c2, if_neg (show ¬ w < n + 1 by omega)]
theorem smZ_ge {m p : Nat → Int32} {w : Nat} : ∀ n : Nat, (∀ i, i < n → 1 ≤ (m i).toInt ∧ (m i).toInt ≤ 500) → w < n → ¬ p w = 0 → (m w).toInt ≤ smZ m p n := by
  intro n
  induction n with
  | zero => intro _ h; omega
  | succ n ih =>
    intro h hw hp
    have b := h n (by omega)
    have e : smZ m p (n + 1) = smZ m p n + (if p n = 0 then 0 else (m n).toInt) := rfl
    have z := smZ_bd (m := m) (p := p) n (fun i hi => h i (by omega))
    by_cases c : w = n
    · subst c
      rw [e, if_neg hp]; omega
    · have := ih (fun i hi => h i (by omega)) (by omega) hp
      rw [e]
      by_cases c2 : p n = 0
      · rw [if_pos c2]; omega
      · rw [if_neg c2]; omega
theorem pn_mul {p m : Int32} (hp : p = 0 ∨ p = 1) : p * m = (if p = 0 then 0 else m) := by
  rcases hp with rfl | rfl
  · rw [if_pos rfl, Int32.zero_mul]
  · rw [if_neg (by decide), Int32.one_mul]
theorem sm_step {m p x : Int32} {s : Int} (hp : p = 0 ∨ p = 1) (hx : x.toInt = s) (s0 : 0 ≤ s) (s1 : s ≤ 5000) (m0 : 1 ≤ m.toInt) (m1 : m.toInt ≤ 500) : (x + p * m).toInt = s + (if p = 0 then 0 else m.toInt) := by
  rw [pn_mul hp]
  by_cases c : p = 0
  · rw [if_pos c, if_pos c, Int32.add_zero, hx, Int.add_zero]
  · rw [if_neg c, if_neg c, t_add (by omega) (by omega), hx]
theorem e_mass {n : Nat} {m p : Nat → Int32} (hn : n ≤ 8) (hm : ∀ i, i < n → 1 ≤ (m i).toInt ∧ (m i).toInt ≤ 500) (hp : ∀ i, i < n → p i = 0 ∨ p i = 1) : ∀ (j i k : Nat) (x : Int32), i + j = n → j < k → x.toInt = smZ m p i →
    ∃ r : Int32, f_X6_massOnPan_b4 (nI n) m p k x (nI i) = some r ∧ r.toInt = smZ m p n := by
  intro j
  induction j with
  | zero =>
    intro i k x hi hk hx
    obtain ⟨k, rfl⟩ : ∃ k', k = k' + 1 := ⟨k - 1, by omega⟩
    have : i = n := by omega
    subst this
    exact ⟨x, by rw [f_X6_massOnPan_b4, if_pos (nI_le (Nat.le_refl _) (by omega))], hx⟩
  | succ j ih =>
    intro i k x hi hk hx
    obtain ⟨k, rfl⟩ : ∃ k', k = k' + 1 := ⟨k - 1, by omega⟩
    have b := smZ_bd (m := m) (p := p) i (fun a ha => hm a (by omega))
    rw [f_X6_massOnPan_b4, if_neg (nI_ge (by omega) (by omega)), gA_i _ (by omega) (by omega), gA_i _ (by omega) (by omega), nm_s, nm_s, cl_i (by omega), p_1]
    exact ih (i + 1) k _ (by omega) (by omega) (sm_step (hp i (by omega)) hx b.1 (by omega) (hm i (by omega)).1 (hm i (by omega)).2)
theorem e_onPan {n : Nat} {d m p : Nat → Int32} (hn : n ≤ 8) (d41 : d 41 = nI n) (dm : ∀ i, i < 8 → d (42 + i) = m i) (dp : ∀ i, i < 8 → d (74 + i) = p i) (hm : ∀ i, i < n → 1 ≤ (m i).toInt ∧ (m i).toInt ≤ 500) (hp : ∀ i, i < n → p i = 0 ∨ p i = 1) : ∀ (j i k : Nat) (x : Int32), i + j = n → j < k → x.toInt = smZ m p i →
    ∃ r : Int32, f_X8_onPan_b4 d k x (nI i) = some r ∧ r.toInt = smZ m p n := by
  intro j
  induction j with
  | zero =>
    intro i k x hi hk hx
    obtain ⟨k, rfl⟩ : ∃ k', k = k' + 1 := ⟨k - 1, by omega⟩
    have : i = n := by omega
    subst this
    exact ⟨x, by rw [f_X8_onPan_b4, d41, if_pos (nI_le (Nat.le_refl _) (by omega))], hx⟩
  | succ j ih =>
    intro i k x hi hk hx
    obtain ⟨k, rfl⟩ : ∃ k', k = k' + 1 := ⟨k - 1, by omega⟩
    have b := smZ_bd (m := m) (p := p) i (fun a ha => hm a (by omega))
    rw [f_X8_onPan_b4, d41, if_neg (nI_ge (by omega) (by omega)), k_74, k_42, gA_i _ (by omega) (by omega), gA_i _ (by omega) (by omega), nm_s, nm_s, cl_i (by omega), cl_i (by omega), dm i (by omega), dp i (by omega), p_1]
    exact ih (i + 1) k _ (by omega) (by omega) (sm_step (hp i (by omega)) hx b.1 (by omega) (hm i (by omega)).1 (hm i (by omega)).2)
theorem pan {N : Nat} {L z : Int32} {ms es vs ps pn d : Nat → Int32} (hN : 3000 ≤ N) (R : RW L z ms es vs ps pn d) : ∃ r : Int32, f_X6_massOnPan N z ms pn = some r ∧ f_X8_onPan N d = some r ∧ ∀ n : Nat, z = nI n → n ≤ 8 → r.toInt = smZ ms pn n := by
  obtain ⟨n, h1, rfl, d41, a, b, c, f, g, r1, r2, r3, r4⟩ := R
  obtain ⟨r, q1, q2⟩ := e_mass h1 r1 r2 n 0 N 0 (by omega) (by omega) t_0
  obtain ⟨r', q3, q4⟩ := e_onPan h1 d41 a g r1 r2 n 0 N 0 (by omega) (by omega) t_0
  have e : r = r' := t_eq.mpr (by rw [q2, q4])
  refine ⟨r, q1, by rw [e]; exact q3, fun m hm hm8 => ?_⟩
  have : m = n := ((nI_eq (by omega) (by omega)).mp hm).symm
  rw [this, q2]
/-! a weight's number -/
theorem e6_has {n : Nat} {x : Int32} (hn : n ≤ 8) : (f_X6_has (nI n) x = some 0 ∧ f_X8_in x 0 (nI n - 1) = some 0) ∨ ∃ i : Nat, i < n ∧ x = nI i ∧ f_X6_has (nI n) x = some 1 ∧ f_X8_in x 0 (nI n - 1) = some 1 := by
  have hn1 : (nI n - 1).toInt = (n : Int) - 1 := by rw [t_sub (by rw [t_nI (by omega), t_1]; omega) (by rw [t_nI (by omega), t_1]; omega), t_nI (by omega), t_1]
  rcases pk_ix x (n := n) (by omega) with h | h | ⟨i, hi, rfl⟩
  · left
    refine ⟨?_, ?_⟩
    · unfold f_X6_has; rw [if_pos h]
    · rw [e_in, if_pos (Or.inl h)]
  · left
    have h0 : ¬ x < 0 := by rw [t_lt, t_0]; rw [t_le, t_nI (by omega)] at h; omega
    refine ⟨?_, ?_⟩
    · unfold f_X6_has; rw [if_neg h0, if_pos h]
    · rw [e_in, if_pos]
      right
      rw [t_lt, hn1]; rw [t_le, t_nI (by omega)] at h; omega
  · right
    refine ⟨i, hi, rfl, ?_, ?_⟩
    · unfold f_X6_has; rw [if_neg (nI_pos (by omega)), if_neg (nI_ge hi (by omega))]
    · rw [e_in, if_neg]
      intro h
      rcases h with h | h
      · exact nI_pos (by omega) h
      · rw [t_lt, hn1, t_nI (by omega)] at h; omega
theorem e6_mass {n i : Nat} {m : Nat → Int32} (hn : n ≤ 8) (hi : i < n) : f_X6_mass (nI n) m (nI i) = some (m i) := by
  unfold f_X6_mass f_X6_has
  rw [if_neg (nI_pos (by omega)), if_neg (nI_ge hi (by omega)), ob_s, if_neg (by decide), gA_i _ (by omega) (by omega), cl_i (by omega)]
theorem e6_pan {n i : Nat} {p : Nat → Int32} (hn : n ≤ 8) (hi : i < n) : f_X6_isOnPan (nI n) p (nI i) = some (if p i = 0 then 0 else 1) := by
  unfold f_X6_isOnPan f_X6_has
  rw [if_neg (nI_pos (by omega)), if_neg (nI_ge hi (by omega)), ob_s, if_neg (by decide), gA_i _ (by omega) (by omega), cl_i (by omega)]
  by_cases h : p i = 0
  · rw [if_pos h, if_pos h]
  · rw [if_neg h, if_neg h]
theorem e6_lay {n i : Nat} {p : Nat → Int32} {v : Int32} (hn : n ≤ 8) (hi : i < n) : f_X6_lay (nI n) p (nI i) v = some (upd p i v) := by
  unfold f_X6_lay f_X6_has
  rw [if_neg (nI_pos (by omega)), if_neg (nI_ge hi (by omega)), ob_s, if_neg (by decide), gA_i _ (by omega) (by omega), nm_s, cl_i (by omega)]
/-- why a weight cannot be put on -/
theorem refP {L z x : Int32} {ms es vs ps pn d : Nat → Int32} (d0 : d 0 = L) (R : RW L z ms es vs ps pn d) : ∃ r : Int32, f_X0_refusalOfPut L z ms pn x = some r ∧ f_X8_refusal d x 1 = some r ∧ (r = 0 ∨ r = 1 ∨ r = 2 ∨ r = 3) ∧
    (r = 0 → ∃ n i : Nat, n ≤ 8 ∧ z = nI n ∧ i < n ∧ x = nI i ∧ pn i = 0 ∧ L + ms i ≤ 1000) := by
  obtain ⟨n, h1, rfl, d41, a, b, c, f, g, r1, r2, r3, r4⟩ := R
  unfold f_X0_refusalOfPut f_X8_refusal
  rw [d41]
  rcases e6_has (n := n) (x := x) h1 with ⟨h2, h3⟩ | ⟨i, hi, rfl, h2, h3⟩
  · rw [h2, h3, ob_s, ob_s, if_neg (fun e => e rfl), if_neg (fun e => e rfl)]
    exact ⟨1, rfl, rfl, Or.inr (Or.inl rfl), fun h => absurd h (by decide)⟩
  · rw [h2, h3, ob_s, ob_s, if_pos (by decide), if_pos (by decide), e6_pan h1 hi, ob_s, e6_mass h1 hi, ob_s, k_74, k_42, gA_i _ (by omega) (by omega), cl_i (by omega), cl_i (by omega), g i (by omega), a i (by omega), d0, if_neg (show ¬ (1 : Int32) = 0 by decide), if_neg (show ¬ (1 : Int32) = 0 by decide), gA_i _ (by omega) (by omega)]
    rcases r2 i hi with e | e
    · rw [e, if_pos (show (0 : Int32) = 0 from rfl), if_pos (show (0 : Int32) = 0 from rfl), if_pos (show ¬ (0 : Int32) = 1 by decide)]
      by_cases c3 : L + ms i ≤ 1000
      · rw [if_pos c3]
        exact ⟨0, rfl, rfl, Or.inl rfl, fun _ => ⟨n, i, h1, rfl, hi, rfl, e, c3⟩⟩
      · rw [if_neg c3]
        exact ⟨3, rfl, rfl, Or.inr (Or.inr (Or.inr rfl)), fun h => absurd h (by decide)⟩
    · rw [e, if_neg (show ¬ (1 : Int32) = 0 by decide), if_neg (show ¬ ¬ (1 : Int32) = 1 by decide)]
      exact ⟨2, rfl, rfl, Or.inr (Or.inr (Or.inl rfl)), fun h => absurd h (by decide)⟩
theorem refT {L z x : Int32} {ms es vs ps pn d : Nat → Int32} (d0 : d 0 = L) (R : RW L z ms es vs ps pn d) : ∃ r : Int32, f_X0_refusalOfTake z pn x = some r ∧ f_X8_refusal d x 0 = some r ∧ (r = 0 ∨ r = 1 ∨ r = 2) ∧
    (r = 0 → ∃ n i : Nat, n ≤ 8 ∧ z = nI n ∧ i < n ∧ x = nI i ∧ pn i = 1) := by
  obtain ⟨n, h1, rfl, d41, a, b, c, f, g, r1, r2, r3, r4⟩ := R
  unfold f_X0_refusalOfTake f_X8_refusal
  rw [d41]
  rcases e6_has (n := n) (x := x) h1 with ⟨h2, h3⟩ | ⟨i, hi, rfl, h2, h3⟩
  · rw [h2, h3, ob_s, ob_s, if_neg (fun e => e rfl), if_neg (fun e => e rfl)]
    exact ⟨1, rfl, rfl, Or.inr (Or.inl rfl), fun h => absurd h (by decide)⟩
  · rw [h2, h3, ob_s, ob_s, if_pos (by decide), if_pos (by decide), e6_pan h1 hi, ob_s, k_74, gA_i _ (by omega) (by omega), cl_i (by omega), g i (by omega), if_pos (show (0 : Int32) = 0 from rfl), if_pos (show (0 : Int32) = 0 from rfl)]
    rcases r2 i hi with e | e
    · rw [e, if_pos (show (0 : Int32) = 0 from rfl), if_pos (show (0 : Int32) = 0 from rfl), if_neg (show ¬ ¬ (0 : Int32) = 0 by decide)]
      exact ⟨2, rfl, rfl, Or.inr (Or.inr rfl), fun h => absurd h (by decide)⟩
    · rw [e, if_neg (show ¬ (1 : Int32) = 0 by decide), if_neg (show ¬ (1 : Int32) = 0 by decide), if_pos (show ¬ (1 : Int32) = 0 by decide)]
      exact ⟨0, rfl, rfl, Or.inl rfl, fun _ => ⟨n, i, h1, rfl, hi, rfl, e⟩⟩
