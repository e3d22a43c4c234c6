/-! pure part F: hours -/
def appr (u c k : Int) : Int := if c ≤ u then (if c + k ≤ u then c + k else u) else (if u ≤ c - k then c - k else u)
theorem appr_a {u c k : Int} (h : c ≤ u) (h2 : c + k ≤ u) : appr u c k = c + k := by unfold appr; rw [if_pos h, if_pos h2]
theorem appr_b {u c k : Int} (h : c ≤ u) (h2 : u < c + k) : appr u c k = u := by unfold appr; rw [if_pos h, if_neg (by omega)]
theorem appr_c {u c k : Int} (h : u < c) (h2 : u ≤ c - k) : appr u c k = c - k := by unfold appr; rw [if_neg (by omega), if_pos h2]
theorem appr_d {u c k : Int} (h : u < c) (h2 : c - k < u) : appr u c k = u := by unfold appr; rw [if_neg (by omega), if_neg (by omega)]
theorem appr_0 {u c : Int} : appr u c 0 = c := by
  by_cases h : c ≤ u
  · rw [appr_a h (by omega)]; omega
  · rw [appr_c (by omega) (by omega)]; omega
theorem appr_s {u c k : Int} (hk : 0 ≤ k) : appr u (appr u c 2) k = appr u c (k + 2) := by
  by_cases h : c ≤ u
  · by_cases h2 : c + 2 ≤ u
    · rw [appr_a h h2]
      by_cases h3 : c + 2 + k ≤ u
      · rw [appr_a h2 h3, appr_a h (by omega)]; omega
      · rw [appr_b h2 (by omega), appr_b h (by omega)]
    · rw [appr_b h (by omega), appr_b h (by omega)]
      by_cases h3 : k = 0
      · subst h3; exact appr_0
      · exact appr_b (by omega) (by omega)
  · by_cases h2 : u ≤ c - 2
    · rw [appr_c (by omega) h2]
      by_cases h4 : u < c - 2
      · by_cases h3 : u ≤ c - 2 - k
        · rw [appr_c h4 h3, appr_c (by omega) (by omega)]; omega
        · rw [appr_d h4 (by omega), appr_d (by omega) (by omega)]
      · have e : c - 2 = u := by omega
        rw [e]
        by_cases h3 : k = 0
        · subst h3
          rw [appr_0, appr_c (by omega) (by omega)]; omega
        · rw [appr_b (by omega) (by omega), appr_d (by omega) (by omega)]
    · rw [appr_d (c := c) (k := 2) (by omega) (by omega), appr_d (c := c) (k := k + 2) (by omega) (by omega)]
      by_cases h3 : k = 0
      · subst h3; exact appr_0
      · exact appr_b (by omega) (by omega)
theorem appr_in {u c k : Int} (hk : 0 ≤ k) (u0 : 0 ≤ u) (u1 : u ≤ 100) (c0 : 0 ≤ c) (c1 : c ≤ 100) : 0 ≤ appr u c k ∧ appr u c k ≤ 100 := by
  by_cases h : c ≤ u
  · by_cases h2 : c + k ≤ u
    · rw [appr_a h h2]; omega
    · rw [appr_b h (by omega)]; omega
  · by_cases h2 : u ≤ c - k
    · rw [appr_c (by omega) h2]; omega
    · rw [appr_d (by omega) (by omega)]; omega
/-- what the creep does in an hour -/
theorem e_step {t : Int32} {u c : Int} {C : Int32} (hC : C.toInt = c) (ht : t.toInt = u - c) (u0 : 0 ≤ u) (u1 : u ≤ 100) (c0 : 0 ≤ c) (c1 : c ≤ 100) :
    (C + (if t ≤ 2 then (if (-2 : Int32) ≤ t then t else -2) else 2)).toInt = appr u c 2 := by
  have m2 : (-2 : Int32).toInt = -2 := by decide
  by_cases h1 : t ≤ 2
  · rw [if_pos h1]
    rw [t_le, t_2, ht] at h1
    by_cases h2 : (-2 : Int32) ≤ t
    · rw [if_pos h2]
      rw [t_le, m2, ht] at h2
      rw [t_add (by omega) (by omega), hC, ht]
      by_cases h : c ≤ u
      · by_cases h3 : c + 2 ≤ u
        · rw [appr_a h h3]; omega
        · rw [appr_b h (by omega)]; omega
      · by_cases h3 : u ≤ c - 2
        · rw [appr_c (by omega) h3]; omega
        · rw [appr_d (by omega) (by omega)]; omega
    · rw [if_neg h2]
      rw [t_le, m2, ht] at h2
      rw [t_add (by omega) (by omega), hC, m2, appr_c (by omega) (by omega)]; omega
  · rw [if_neg h1]
    rw [t_le, t_2, ht] at h1
    rw [t_add (by rw [t_2]; omega) (by rw [t_2]; omega), hC, t_2, appr_a (by omega) (by omega)]
theorem t_100 : (100 : Int32).toInt = 100 := by decide
theorem t_10 : (10 : Int32).toInt = 10 := by decide
theorem e_due {L : Int32} (L0 : 0 ≤ L.toInt) (L1 : L.toInt ≤ 1000) : (L * 10 / 100).toInt = L.toInt * 10 / 100 ∧ 0 ≤ L.toInt * 10 / 100 ∧ L.toInt * 10 / 100 ≤ 100 := by
  have em : (L * 10).toInt = L.toInt * 10 := by rw [t_mul (by rw [t_10]; omega) (by rw [t_10]; omega), t_10]
  refine ⟨?_, by omega, by omega⟩
  rw [lg_idiv_nonneg (by rw [em]; omega) (by rw [t_100]; omega), em, t_100]
theorem e_hours {L E dz p0 : Int32} {h : Nat} (hp : p0 = nI h) (hh : h ≤ 200) (L0 : 0 ≤ L.toInt) (L1 : L.toInt ≤ 1000) (E0 : -40000 ≤ E.toInt) (E1 : E.toInt ≤ 20000) (z0 : 0 ≤ dz.toInt) (z1 : dz.toInt ≤ 200) :
    ∀ (j i k : Nat) (C P : Int32), i + j = h → j < k → 0 ≤ C.toInt → C.toInt ≤ 100 → E.toInt + C.toInt - P.toInt ≤ dz.toInt → P.toInt - (E.toInt + C.toInt) ≤ dz.toInt →
    ∃ (C' P' : Int32), f_X3_passHours_b2 L E dz 10 2 p0 k (nI i) C P = some (C', P') ∧ 0 ≤ C'.toInt ∧ C'.toInt ≤ 100 ∧ E.toInt + C'.toInt - P'.toInt ≤ dz.toInt ∧ P'.toInt - (E.toInt + C'.toInt) ≤ dz.toInt ∧ C'.toInt = appr (L.toInt * 10 / 100) C.toInt (2 * (j : Int)) := by
  have du := e_due L0 L1
  intro j
  induction j with
  | zero =>
    intro i k C P hi h1 C0 C1 p1 p2
    obtain ⟨k, rfl⟩ : ∃ k', k = k' + 1 := ⟨k - 1, by omega⟩
    have : i = h := by omega
    subst this
    refine ⟨C, P, ?_, C0, C1, p1, p2, appr_0.symm⟩
    rw [f_X3_passHours_b2, if_pos (by rw [hp]; exact nI_le (Nat.le_refl _) (by omega))]
  | succ j ih =>
    intro i k C P hi h1 C0 C1 p1 p2
    obtain ⟨k, rfl⟩ : ∃ k', k = k' + 1 := ⟨k - 1, by omega⟩
    have hlt : ¬ p0 ≤ nI i := by rw [hp]; exact nI_ge (by omega) (by omega)
    obtain ⟨by_, hby⟩ : ∃ y : Int32, y = (if L * 10 / 100 - C ≤ 2 then (if (-2 : Int32) ≤ L * 10 / 100 - C then L * 10 / 100 - C else -2) else 2) := ⟨_, rfl⟩
    have st : (C + by_).toInt = appr (L.toInt * 10 / 100) C.toInt 2 := by
      rw [hby]
      exact e_step rfl (by rw [t_sub (by omega) (by omega), du.1]) du.2.1 du.2.2 C0 C1
    have bd := appr_in (k := 2) (by omega) du.2.1 du.2.2 C0 C1
    have eR : (E + (C + by_)).toInt = E.toInt + (C + by_).toInt := t_add (by omega) (by omega)
    have pp : E.toInt + (C + by_).toInt - (if E + (C + by_) = E + C then P else drag (E + (C + by_)) P dz).toInt ≤ dz.toInt ∧ (if E + (C + by_) = E + C then P else drag (E + (C + by_)) P dz).toInt - (E.toInt + (C + by_).toInt) ≤ dz.toInt := by
      by_cases c : E + (C + by_) = E + C
      · rw [if_pos c]
        have e : C + by_ = C := (Int32.add_right_inj E).mp c
        rw [e]
        exact ⟨p1, p2⟩
      · rw [if_neg c]
        have d := drag_ok (r := E + (C + by_)) (P := P) (dz := dz) (by rw [eR]; omega) (by rw [eR]; omega) (by omega) (by omega) z0 z1
        rw [eR] at d
        exact d
    obtain ⟨C', P', g1, g2, g3, g4, g5, g6⟩ := ih (i + 1) k (C + by_) _ (by omega) (by omega) (by omega) (by omega) pp.1 pp.2
    refine ⟨C', P', ?_, g2, g3, g4, g5, ?_⟩
    · rw [f_X3_passHours_b2, if_neg hlt]
      unfold f_X3_reach
      rw [ob_s, nm_s, clamp_eq (st := 2) (by decide), ← hby, nm_s, e_drag, ob_s, nm_s, p_1]
      exact g1
    · rw [g6, st, appr_s (by omega)]
      congr 1
theorem hrs {V F : Int → Int} {N n : Nat} {L E C P W dz rt st z : Int32} {T X : Nat → Int32} (hN : 3000 ≤ N) (S : SP V F L E C P W dz rt st z T X n) {h : Nat} (hh : h ≤ 200) :
    ∃ (C' P' : Int32), f_X3_passHours N L E C P dz rt st (nI h) = some (C', P') ∧ SP V F L E C' P' W dz rt st z T X n ∧ C'.toInt = appr (L.toInt * 10 / 100) C.toInt (2 * (h : Int)) := by
  obtain ⟨hn, hz, bT, bX, L0, L1, ch, hW, ex, eE, E0, E1, C0, C1, rfl, rfl, z0, z1, p1, p2⟩ := S
  obtain ⟨C', P', g1, g2, g3, g4, g5, g6⟩ := e_hours (p0 := nI h) rfl hh L0 L1 E0 E1 z0 z1 h 0 N C P (by omega) (by omega) C0 C1 p1 p2
  exact ⟨C', P', g1, ⟨hn, hz, bT, bX, L0, L1, ch, hW, ex, eE, E0, E1, g2, g3, rfl, rfl, z0, z1, g4, g5⟩, g6⟩
