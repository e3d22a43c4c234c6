/-! pure part I: count, turning, again, entry -/
theorem CH_dir {T : Nat → Int} : ∀ (n : Nat) (L : Int), CH T n L (sgn n) → ∀ k, k < n → 0 < sgn (k + 1) * ((if k + 1 < n then T (k + 1) else L) - T k) := by
  intro n
  induction n with
  | zero => intro L _ k hk; omega
  | succ n ih =>
    intro L h k hk
    obtain ⟨h1, -, h3⟩ := h
    have es : -sgn (n + 1) = sgn n := by
      rcases Nat.mod_two_eq_zero_or_one n with e | e
      · rw [sgn_0 e, sgn_1 (by omega)]; rfl
      · rw [sgn_1 e, sgn_0 (by omega)]
    rw [es] at h3
    by_cases c : k = n
    · subst c
      rw [if_neg (by omega)]
      exact h1
    · have := ih (T n) h3 k (by omega)
      rw [if_pos (by omega)]
      by_cases c2 : k + 1 < n
      · rw [if_pos c2] at this; exact this
      · rw [if_neg c2, show n = k + 1 by omega] at this
        exact this
theorem sgn_pm (n : Nat) : sgn n = 1 ∨ sgn n = -1 := by
  rcases Nat.mod_two_eq_zero_or_one n with e | e
  · exact Or.inl (sgn_0 e)
  · exact Or.inr (sgn_1 e)
theorem sgn_s (n : Nat) : sgn (n + 1) = -sgn n := by
  rcases Nat.mod_two_eq_zero_or_one n with e | e
  · rw [sgn_0 e, sgn_1 (by omega)]
  · rw [sgn_1 e, sgn_0 (by omega)]; rfl
theorem abs_dir {x t w : Int32} {D : Int} (hD : w.toInt = D) (hw : D = 1 ∨ D = -1) (x0 : 0 ≤ x.toInt) (x1 : x.toInt ≤ 1000) (t0 : 0 ≤ t.toInt) (t1 : t.toInt ≤ 1000) (c1 : 0 < D * (x.toInt - t.toInt)) :
    (if 0 ≤ (x - t) then (x - t) else 0 - (x - t)) = w * (x - t) ∧ (w * (x - t)).toInt = D * (x.toInt - t.toInt) := by
  have ex : (x - t).toInt = x.toInt - t.toInt := t_sub (by omega) (by omega)
  have ew : (w * (x - t)).toInt = D * (x.toInt - t.toInt) := by rw [t_dir hD hw (by rw [ex]; omega), ex]
  refine ⟨?_, ew⟩
  rw [t_eq, ew]
  rcases hw with rfl | rfl
  · rw [if_pos (by rw [t_le, ex, t_0]; omega), ex]; omega
  · rw [if_neg (by rw [t_le, ex, t_0]; omega), t_sub (by rw [ex, t_0]; omega) (by rw [ex, t_0]; omega), ex, t_0]; omega
theorem e_again {N n : Nat} {L zc : Int32} {T fc sc d : Nat → Int32} (hN : 3000 ≤ N) (hn : n ≤ 1000) (d0 : d 0 = L) (d5 : d 5 = nI n) (dT : ∀ i, i < n → d (82 + i) = T i) (bT : ∀ i, i < n → 0 ≤ (T i).toInt ∧ (T i).toInt ≤ 1000) (L0 : 0 ≤ L.toInt) (L1 : L.toInt ≤ 1000)
    (hd : ∀ k, k < n → 0 < sgn (k + 1) * ((if k + 1 < n then (T (k + 1)).toInt else L.toInt) - (T k).toInt)) (R : RC zc fc sc d) : ∀ (j i k1 k2 : Nat) (x w : Int32), i + j = n → j < k1 → j < k2 → w.toInt = sgn (i + 1) →
    ∃ r : Int32, f_X3_extensionFromTurns_b44 N 1001 8 L (nI n) T zc fc sc k1 x w (nI (i + 1)) = some r ∧ f_X8_again_b35 N d k2 x w (nI i) = some r := by
  intro j
  induction j with
  | zero =>
    intro i k1 k2 x w hi h1 h2 hw
    obtain ⟨k1, rfl⟩ : ∃ k', k1 = k' + 1 := ⟨k1 - 1, by omega⟩
    obtain ⟨k2, rfl⟩ : ∃ k', k2 = k' + 1 := ⟨k2 - 1, by omega⟩
    refine ⟨x, ?_, ?_⟩
    · rw [f_X3_extensionFromTurns_b44, if_pos (nI_lt (by omega) (by omega))]
    · rw [f_X8_again_b35, d5, if_pos (nI_le (by omega) (by omega))]
  | succ j ih =>
    intro i k1 k2 x w hi h1 h2 hw
    obtain ⟨k1, rfl⟩ : ∃ k', k1 = k' + 1 := ⟨k1 - 1, by omega⟩
    obtain ⟨k2, rfl⟩ : ∃ k', k2 = k' + 1 := ⟨k2 - 1, by omega⟩
    have hdi := hd i (by omega)
    have bi := bT i (by omega)
    have hwn : (-w).toInt = sgn (i + 1 + 1) := by rw [t_neg (by rw [hw]; rcases sgn_pm (i + 1) with e | e <;> rw [e] <;> omega), hw, sgn_s (i + 1)]
    by_cases c : i + 1 < n
    · rw [if_pos c] at hdi
      have bi2 := bT (i + 1) c
      obtain ⟨ea, ew⟩ := abs_dir (x := T (i + 1)) (t := T i) hw (sgn_pm _) bi2.1 bi2.2 bi.1 bi.2 hdi
      obtain ⟨v, v1, v2, -⟩ := cv (N := N) (M := 8) (x := w * (T (i + 1) - T i)) (fac := 2) (c := 2) (by omega) (Nat.le_refl _) (by omega) R t_2 (Or.inr rfl) (by rw [ew]; omega) (by rw [ew]; rcases sgn_pm (i + 1) with e | e <;> rw [e] <;> omega)
      obtain ⟨r, r1, r2⟩ := ih (i + 1) k1 k2 (x + w * v) (-w) (by omega) (by omega) (by omega) hwn
      have dT1 : d (82 + i + 1) = T (i + 1) := dT (i + 1) c
      refine ⟨r, ?_, ?_⟩
      · rw [f_X3_extensionFromTurns_b44, if_neg (nI_nlt (by omega) (by omega)), if_neg (nI_ge c (by omega)), e_first c (by omega) (by omega), ob_s, m_1, e_first (by omega) (by omega) (by omega), ob_s, ea, v1, ob_s, nm_s, nm_s, nm_s, p_1, r1]
      · rw [f_X8_again_b35, d5, if_neg (nI_ge (by omega) (by omega)), p_1, if_neg (nI_ge c (by omega)), k_82, p_1, gA_i _ (by omega) (by omega), cl_i (by omega), nm_s, gA_i _ (by omega) (by omega), cl_i (by omega), dT1, dT i (by omega), v2, ob_s, nm_s, nm_s, nm_s, r2]
    · rw [if_neg c] at hdi
      obtain ⟨ea, ew⟩ := abs_dir (x := L) (t := T i) hw (sgn_pm _) L0 L1 bi.1 bi.2 hdi
      obtain ⟨v, v1, v2, -⟩ := cv (N := N) (M := 8) (x := w * (L - T i)) (fac := 2) (c := 2) (by omega) (Nat.le_refl _) (by omega) R t_2 (Or.inr rfl) (by rw [ew]; omega) (by rw [ew]; rcases sgn_pm (i + 1) with e | e <;> rw [e] <;> omega)
      obtain ⟨r, r1, r2⟩ := ih (i + 1) k1 k2 (x + w * v) (-w) (by omega) (by omega) (by omega) hwn
      refine ⟨r, ?_, ?_⟩
      · rw [f_X3_extensionFromTurns_b44, if_neg (nI_nlt (by omega) (by omega)), if_pos (nI_le (by omega) (by omega)), m_1, e_first (by omega) (by omega) (by omega), ob_s, ea, v1, ob_s, nm_s, nm_s, nm_s, p_1, r1]
      · rw [f_X8_again_b35, d5, if_neg (nI_ge (by omega) (by omega)), p_1, if_pos (nI_le (by omega) (by omega)), d0, nm_s, k_82, gA_i _ (by omega) (by omega), cl_i (by omega), dT i (by omega), v2, ob_s, nm_s, nm_s, nm_s, r2]
def spn (p : Nat → Int32) : Nat → Int32
  | 0 => 0
  | i + 1 => spn p i + p i
theorem e_npan {n : Nat} {p : Nat → Int32} (hn : n ≤ 8) : ∀ (j i k : Nat), i + j = n → j < k → f_X6_numberOnPan_b4 (nI n) p k (spn p i) (nI i) = some (spn p n) := by
  intro j
  induction j with
  | zero =>
    intro i k hi hk
    obtain ⟨k, rfl⟩ : ∃ k', k = k' + 1 := ⟨k - 1, by omega⟩
    have : i = n := by omega
    subst this
    rw [f_X6_numberOnPan_b4, if_pos (nI_le (Nat.le_refl _) (by omega))]
  | succ j ih =>
    intro i k hi hk
    obtain ⟨k, rfl⟩ : ∃ k', k = k' + 1 := ⟨k - 1, by omega⟩
    rw [f_X6_numberOnPan_b4, if_neg (nI_ge (by omega) (by omega)), gA_i _ (by omega) (by omega), nm_s, nm_s, cl_i (by omega), p_1]
    exact ih (i + 1) k (by omega) (by omega)
theorem e_cnt {N n : Nat} {d p : Nat → Int32} {sts ty p0 : Int32} (hn : n ≤ 8) (d41 : d 41 = nI n) (dp : ∀ i, i < 8 → d (74 + i) = p i) : ∀ (j i k : Nat), i + j = n → j < k → f_X8_count_b4 N sts ty d p0 k (spn p i) (nI i) = f_X8_count_b4 N sts ty d p0 1 (spn p n) (nI n) := by
  intro j
  induction j with
  | zero =>
    intro i k hi hk
    obtain ⟨k, rfl⟩ : ∃ k', k = k' + 1 := ⟨k - 1, by omega⟩
    have : i = n := by omega
    subst this
    rw [f_X8_count_b4, f_X8_count_b4, d41, if_pos (nI_le (Nat.le_refl _) (by omega)), if_pos (nI_le (Nat.le_refl _) (by omega))]
  | succ j ih =>
    intro i k hi hk
    obtain ⟨k, rfl⟩ : ∃ k', k = k' + 1 := ⟨k - 1, by omega⟩
    rw [f_X8_count_b4, d41, if_neg (nI_ge (by omega) (by omega)), k_74, gA_i _ (by omega) (by omega), nm_s, nm_s, cl_i (by omega), dp i (by omega), p_1]
    exact ih (i + 1) k (by omega) (by omega)

theorem s_turning {N : Nat} {L : Int32} {E : Int32} {C : Int32} {P : Int32} {W : Int32} {A : Int64} {dz : Int32} {rt : Int32} {st : Int32} {z : Int32} {T : Nat → Int32} {X : Nat → Int32} {zc : Int32} {fc : Nat → Int32} {sc : Nat → Int32} {zk : Int32} {fk : Nat → Int32} {sk : Nat → Int32} {zw : Int32} {ms : Nat → Int32} {es : Nat → Int32} {vs : Nat → Int32} {ps : Nat → Int32} {pn : Nat → Int32} {hs : Int32} {hB : Nat → BS} {sts : Int32} {d : Nat → Int32} {was : Nat → Int32} {ac : Int64} {acs : Nat → Int64} {p0 : Int32} {p1 : Int32} (hN : 20000 ≤ N) (R : RB24 L E C P W A dz rt st z T X zc fc sc zk fk sk zw ms es vs ps pn d ac) (H : RH hs hB sts was acs) :
    ∃ (r : Int32), f_X7_turning z T X p0 p1 = some r ∧ f_X8_turning d p0 p1 = some r := by
  obtain ⟨hL, hT, -⟩ := R
  obtain ⟨n, hn, ez, d5, dT, dX, -⟩ := hT
  subst ez
  unfold f_X7_turning f_X8_turning
  by_cases c : p0 < 0
  · exact ⟨-2000000001, by rw [if_pos c], by rw [if_pos c]⟩
  by_cases c2 : p1 < 0 ∨ 1 < p1
  · exact ⟨-2000000001, by rw [if_neg c, e_out, if_pos c2, ob_s, if_neg o1], by rw [if_neg c, e_in, if_pos c2, ob_s, if_neg o2]⟩
  obtain ⟨i, hi, ei⟩ := nI_of c
  subst ei
  rw [if_neg c, if_neg c, e_out, if_neg c2, ob_s, if_pos o3, e_in, if_neg c2, ob_s, if_pos o1, e_found (by omega) (by omega) c, ob_s, d5]
  by_cases h : i < n
  · rw [if_pos (nI_lt h (by omega)), if_pos (nI_lt h (by omega)), k_1084, k_82, cl_i (by omega), cl_i (by omega), cl_i (by omega), gA_i _ (by omega) (by omega), gA_i _ (by omega) (by omega), dT i h, dX i h]
    by_cases h2 : p1 = 0
    · exact ⟨T i, by rw [if_neg (fun e => e h2)], by rw [if_neg (fun e => e h2)]⟩
    · exact ⟨X i, by rw [if_pos h2], by rw [if_pos h2]⟩
  · exact ⟨-2000000004, by rw [if_neg (nI_nlt (by omega) (by omega))], by rw [if_neg (nI_nlt (by omega) (by omega))]⟩

theorem s_again {N : Nat} {L : Int32} {E : Int32} {C : Int32} {P : Int32} {W : Int32} {A : Int64} {dz : Int32} {rt : Int32} {st : Int32} {z : Int32} {T : Nat → Int32} {X : Nat → Int32} {zc : Int32} {fc : Nat → Int32} {sc : Nat → Int32} {zk : Int32} {fk : Nat → Int32} {sk : Nat → Int32} {zw : Int32} {ms : Nat → Int32} {es : Nat → Int32} {vs : Nat → Int32} {ps : Nat → Int32} {pn : Nat → Int32} {hs : Int32} {hB : Nat → BS} {sts : Int32} {d : Nat → Int32} {was : Nat → Int32} {ac : Int64} {acs : Nat → Int64}  (hN : 20000 ≤ N) (R : RB24 L E C P W A dz rt st z T X zc fc sc zk fk sk zw ms es vs ps pn d ac) (H : RH hs hB sts was acs) :
    ∃ (r : Int32), f_X7_again N L z T zc fc sc = some r ∧ f_X8_again N d = some r := by
  obtain ⟨hL, hT, hC, -⟩ := R
  obtain ⟨n, hn, ez, d5, dT, dX, bT, L0, L1, ch, hW⟩ := hT
  subst ez
  have d0 := hL.1
  unfold f_X7_again f_X3_extensionFromTurns f_X8_again
  by_cases c : n = 0
  · subst c
    obtain ⟨v, v1, v2, -⟩ := cv (N := N) (M := 8) (x := L) (fac := 1) (c := 1) (by omega) (Nat.le_refl _) (by omega) hC t_1 (Or.inl rfl) L0 (by omega)
    obtain ⟨N, rfl⟩ : ∃ N', N = N' + 1 := ⟨N - 1, by omega⟩
    refine ⟨v, ?_, ?_⟩
    · rw [if_neg (show ¬ ¬ nI 0 = 0 from fun e => e rfl), v1, ob_s, ob_s]
    · rw [d5, if_neg (show ¬ ¬ nI 0 = 0 from fun e => e rfl), d0, v2, ob_s, f_X8_again_b35, d5, if_pos (show nI 0 ≤ 0 by decide)]
  · have hs : W.toInt = sgn n := by
      rcases hW with h | h
      · omega
      · exact h
    rw [hs] at ch
    have hd : ∀ k, k < n → 0 < sgn (k + 1) * ((if k + 1 < n then (T (k + 1)).toInt else L.toInt) - (T k).toInt) := CH_dir n _ ch
    have b0 := bT 0 (by omega)
    obtain ⟨v, v1, v2, -⟩ := cv (N := N) (M := 8) (x := T 0) (fac := 1) (c := 1) (by omega) (Nat.le_refl _) (by omega) hC t_1 (Or.inl rfl) b0.1 (by omega)
    obtain ⟨r, r1, r2⟩ := e_again (N := N) (L := L) (zc := zc) (T := T) (by omega) hn d0 d5 dT bT L0 L1 hd hC n 0 N N v (-1) (by omega) (by omega) (by omega) (by rw [t_m1]; rfl)
    refine ⟨r, ?_, ?_⟩
    · rw [if_pos (nI_ne0 (by omega) (by omega)), show (0 : Int32) = nI 0 from rfl, e_first (by omega) (by omega) (by omega), ob_s, v1, ob_s]
      have r1' : f_X3_extensionFromTurns_b44 N 1001 8 L (nI n) T zc fc sc N v (-1) 1 = some r := r1
      rw [r1', ob_s]
    · rw [d5, if_pos (nI_ne0 (by omega) (by omega)), show d 82 = T 0 from dT 0 (by omega), v2, ob_s]
      exact r2

theorem s_entry {N : Nat} {L : Int32} {E : Int32} {C : Int32} {P : Int32} {W : Int32} {A : Int64} {dz : Int32} {rt : Int32} {st : Int32} {z : Int32} {T : Nat → Int32} {X : Nat → Int32} {zc : Int32} {fc : Nat → Int32} {sc : Nat → Int32} {zk : Int32} {fk : Nat → Int32} {sk : Nat → Int32} {zw : Int32} {ms : Nat → Int32} {es : Nat → Int32} {vs : Nat → Int32} {ps : Nat → Int32} {pn : Nat → Int32} {hs : Int32} {hB : Nat → BS} {sts : Int32} {d : Nat → Int32} {was : Nat → Int32} {ac : Int64} {acs : Nat → Int64} {p0 : Int32} {p1 : Int32} (hN : 20000 ≤ N) (R : RB24 L E C P W A dz rt st z T X zc fc sc zk fk sk zw ms es vs ps pn d ac) (H : RH hs hB sts was acs) :
    ∃ (r : Int32), f_X7_entry zc fc sc zk fk sk p0 p1 = some r ∧ f_X8_entry d p0 p1 = some r := by
  obtain ⟨hL, hT, hC, hK, -⟩ := R
  obtain ⟨n, h2, hn, ez, d9, df, ds, -⟩ := hC
  obtain ⟨m, h3, hm, ek, d26, kf, ks, -⟩ := hK
  subst ez
  subst ek
  unfold f_X7_entry f_X8_entry
  by_cases c : p0 < 0 ∨ 3 < p0
  · exact ⟨-2000000001, by rw [e_out, if_pos c, ob_s, if_pos o1], by rw [e_in, if_pos c, ob_s, if_pos o3]⟩
  rw [e_out, if_neg c, ob_s, if_neg o2, e_in, if_neg c, ob_s, if_neg o1]
  by_cases c2 : 0 ≤ p1
  · have c3 : ¬ p1 < 0 := by rw [t_le, t_0] at c2; rw [t_lt, t_0]; omega
    obtain ⟨i, hi, ei⟩ := nI_of c3
    subst ei
    obtain ⟨x0, x1⟩ := out_n c
    rw [t_0] at x0; rw [show (3 : Int32).toInt = 3 from by decide] at x1
    rw [if_pos c2, if_pos c2, d9, d26, e_found hm (by omega) c3, e_found hn (by omega) c3]
    have hp : p0 = 0 ∨ p0 = 1 ∨ p0 = 2 ∨ p0 = 3 := by
      have h : p0.toInt = 0 ∨ p0.toInt = 1 ∨ p0.toInt = 2 ∨ p0.toInt = 3 := by omega
      rcases h with h | h | h | h
      · exact Or.inl (t_eq.mpr h)
      · exact Or.inr (Or.inl (t_eq.mpr h))
      · exact Or.inr (Or.inr (Or.inl (t_eq.mpr h)))
      · exact Or.inr (Or.inr (Or.inr (t_eq.mpr h)))
    rcases hp with rfl | rfl | rfl | rfl
    · rw [if_neg (show ¬ (2 : Int32) ≤ 0 by decide), if_neg (show ¬ (2 : Int32) ≤ 0 by decide), ob_s, if_neg o2]
      by_cases h : i < n
      · rw [if_pos (nI_lt h (by omega)), if_pos (nI_lt h (by omega)), if_neg o2, k_10, cl_i (by omega), gA_i _ (by omega) (by omega), cl_i (by omega), df i h]
        exact ⟨fc i, rfl, rfl⟩
      · rw [if_neg (nI_nlt (by omega) (by omega)), if_neg (nI_nlt (by omega) (by omega))]
        exact ⟨_, rfl, rfl⟩
    · rw [if_neg (show ¬ (2 : Int32) ≤ 1 by decide), if_neg (show ¬ (2 : Int32) ≤ 1 by decide), ob_s, if_pos o1]
      by_cases h : i < n
      · rw [if_pos (nI_lt h (by omega)), if_pos (nI_lt h (by omega)), if_pos o1, if_neg o4, k_18, cl_i (by omega), gA_i _ (by omega) (by omega), cl_i (by omega), ds i h]
        exact ⟨sc i, rfl, rfl⟩
      · rw [if_neg (nI_nlt (by omega) (by omega)), if_neg (nI_nlt (by omega) (by omega))]
        exact ⟨_, rfl, rfl⟩
    · rw [if_pos (show (2 : Int32) ≤ 2 by decide), if_pos (show (2 : Int32) ≤ 2 by decide), ob_s, if_neg (show ¬ ¬ (2 : Int32) - 2 = 0 by decide)]
      by_cases h : i < m
      · rw [if_pos (nI_lt h (by omega)), if_pos (nI_lt h (by omega)), if_pos (show ¬ (2 : Int32) = 0 by decide), if_pos (show ¬ (2 : Int32) = 1 by decide), if_neg (show ¬ ¬ (2 : Int32) = 2 by decide), k_27, cl_i (by omega), gA_i _ (by omega) (by omega), cl_i (by omega), kf i h]
        exact ⟨fk i, rfl, rfl⟩
      · rw [if_neg (nI_nlt (by omega) (by omega)), if_neg (nI_nlt (by omega) (by omega))]
        exact ⟨_, rfl, rfl⟩
    · rw [if_pos (show (2 : Int32) ≤ 3 by decide), if_pos (show (2 : Int32) ≤ 3 by decide), ob_s, if_pos (show ¬ (3 : Int32) - 2 = 0 by decide)]
      by_cases h : i < m
      · rw [if_pos (nI_lt h (by omega)), if_pos (nI_lt h (by omega)), if_pos (show ¬ (3 : Int32) = 0 by decide), if_pos (show ¬ (3 : Int32) = 1 by decide), if_pos (show ¬ (3 : Int32) = 2 by decide), k_34, cl_i (by omega), gA_i _ (by omega) (by omega), cl_i (by omega), ks i h]
        exact ⟨sk i, rfl, rfl⟩
      · rw [if_neg (nI_nlt (by omega) (by omega)), if_neg (nI_nlt (by omega) (by omega))]
        exact ⟨_, rfl, rfl⟩
  · exact ⟨-2000000001, by rw [if_neg c2], by rw [if_neg c2]⟩

theorem s_count {N : Nat} {L : Int32} {E : Int32} {C : Int32} {P : Int32} {W : Int32} {A : Int64} {dz : Int32} {rt : Int32} {st : Int32} {z : Int32} {T : Nat → Int32} {X : Nat → Int32} {zc : Int32} {fc : Nat → Int32} {sc : Nat → Int32} {zk : Int32} {fk : Nat → Int32} {sk : Nat → Int32} {zw : Int32} {ms : Nat → Int32} {es : Nat → Int32} {vs : Nat → Int32} {ps : Nat → Int32} {pn : Nat → Int32} {hs : Int32} {hB : Nat → BS} {sts : Int32} {d : Nat → Int32} {was : Nat → Int32} {ac : Int64} {acs : Nat → Int64} {tl : Int32} {ty : Int32} {p0 : Int32} (hN : 20000 ≤ N) (R : RB24 L E C P W A dz rt st z T X zc fc sc zk fk sk zw ms es vs ps pn d ac) (H : RH hs hB sts was acs) (htl : ty = tl) :
    ∃ (r : Int32), f_X7_count N L E C P W dz rt st z zc zk fk sk zw pn hs tl p0 = some r ∧ f_X8_count N sts ty d p0 = some r := by
  obtain ⟨hL, hT, hC, hK, hW⟩ := R
  obtain ⟨v, v1, v2⟩ := rdg (N := N) (by omega) hK hL.2.2.2.1
  obtain ⟨d0, d1, d2, d3, d4, d6, d7, d8, -⟩ := hL
  have d5 : d 5 = z := by obtain ⟨n, _, e, d5, _⟩ := hT; rw [d5, e]
  have d9 : d 9 = zc := by obtain ⟨n, _, _, e, d9, _⟩ := hC; rw [d9, e]
  have d26 : d 26 = zk := by obtain ⟨n, _, _, e, d26, _⟩ := hK; rw [d26, e]
  have hst : sts = hs := by obtain ⟨k, _, e1, e2, _⟩ := H; rw [e1, e2]
  obtain ⟨n, hn, ez, d41, -, -, -, -, dp, -⟩ := hW
  subst ez
  have en := e_npan (p := pn) hn n 0 N (by omega) (by omega)
  have ec := e_cnt (N := N) (d := d) (p := pn) (sts := sts) (ty := ty) (p0 := p0) hn d41 dp n 0 N (by omega) (by omega)
  have en : f_X6_numberOnPan N (nI n) pn = some (spn pn n) := en
  have ec : f_X8_count N sts ty d p0 = f_X8_count_b4 N sts ty d p0 1 (spn pn n) (nI n) := ec
  rw [f_X8_count_b4, d41, if_pos (nI_le (Nat.le_refl _) (by omega))] at ec
  rw [ec]
  unfold f_X7_count
  by_cases h0 : p0 = 0
  · refine ⟨L, ?_, ?_⟩
    · rw [if_pos h0]
    · rw [if_pos h0, gA_t _ (by rw [h0]; decide) (by rw [h0]; decide), cl_t (n := 0) (by rw [h0]; rfl), d0]
  by_cases h1 : p0 = 1
  · refine ⟨E, ?_, ?_⟩
    · rw [if_neg h0, if_pos h1]
    · rw [if_neg h0, if_pos h1, gA_t _ (by rw [h1]; decide) (by rw [h1]; decide), cl_t (n := 1) (by rw [h1]; rfl), d1]
  by_cases h2 : p0 = 2
  · refine ⟨C, ?_, ?_⟩
    · rw [if_neg h0, if_neg h1, if_pos h2]
    · rw [if_neg h0, if_neg h1, if_pos h2, gA_t _ (by rw [h2]; decide) (by rw [h2]; decide), cl_t (n := 2) (by rw [h2]; rfl), d2]
  by_cases h3 : p0 = 3
  · refine ⟨P, ?_, ?_⟩
    · rw [if_neg h0, if_neg h1, if_neg h2, if_pos h3]
    · rw [if_neg h0, if_neg h1, if_neg h2, if_pos h3, gA_t _ (by rw [h3]; decide) (by rw [h3]; decide), cl_t (n := 3) (by rw [h3]; rfl), d3]
  by_cases h4 : p0 = 4
  · refine ⟨v, ?_, ?_⟩
    · rw [if_neg h0, if_neg h1, if_neg h2, if_neg h3, if_pos h4, v1, ob_s]
    · rw [if_neg h0, if_neg h1, if_neg h2, if_neg h3, if_pos h4, v2, ob_s]
  by_cases h5 : p0 = 5
  · refine ⟨z, ?_, ?_⟩
    · rw [if_neg h0, if_neg h1, if_neg h2, if_neg h3, if_neg h4, if_pos h5]
    · rw [if_neg h0, if_neg h1, if_neg h2, if_neg h3, if_neg h4, if_pos h5, d5]
  by_cases h6 : p0 = 6
  · refine ⟨W, ?_, ?_⟩
    · rw [if_neg h0, if_neg h1, if_neg h2, if_neg h3, if_neg h4, if_neg h5, if_pos h6]
    · rw [if_neg h0, if_neg h1, if_neg h2, if_neg h3, if_neg h4, if_neg h5, if_pos h6, d4]
  by_cases h7 : p0 = 7
  · refine ⟨nI n, ?_, ?_⟩
    · rw [if_neg h0, if_neg h1, if_neg h2, if_neg h3, if_neg h4, if_neg h5, if_neg h6, if_pos h7]
    · rw [if_neg h0, if_neg h1, if_neg h2, if_neg h3, if_neg h4, if_neg h5, if_neg h6, if_pos h7]
  by_cases h8 : p0 = 8
  · refine ⟨spn pn n, ?_, ?_⟩
    · rw [if_neg h0, if_neg h1, if_neg h2, if_neg h3, if_neg h4, if_neg h5, if_neg h6, if_neg h7, if_pos h8, en, ob_s]
    · rw [if_neg h0, if_neg h1, if_neg h2, if_neg h3, if_neg h4, if_neg h5, if_neg h6, if_neg h7, if_pos h8]
  by_cases h9 : p0 = 9
  · refine ⟨hs, ?_, ?_⟩
    · rw [if_neg h0, if_neg h1, if_neg h2, if_neg h3, if_neg h4, if_neg h5, if_neg h6, if_neg h7, if_neg h8, if_pos h9]
    · rw [if_neg h0, if_neg h1, if_neg h2, if_neg h3, if_neg h4, if_neg h5, if_neg h6, if_neg h7, if_neg h8, if_pos h9, hst]
  by_cases h10 : p0 = 10
  · refine ⟨tl, ?_, ?_⟩
    · rw [if_neg h0, if_neg h1, if_neg h2, if_neg h3, if_neg h4, if_neg h5, if_neg h6, if_neg h7, if_neg h8, if_neg h9, if_pos h10]
    · rw [if_neg h0, if_neg h1, if_neg h2, if_neg h3, if_neg h4, if_neg h5, if_neg h6, if_neg h7, if_neg h8, if_neg h9, if_pos h10, htl]
  by_cases h11 : p0 = 11
  · refine ⟨zc, ?_, ?_⟩
    · rw [if_neg h0, if_neg h1, if_neg h2, if_neg h3, if_neg h4, if_neg h5, if_neg h6, if_neg h7, if_neg h8, if_neg h9, if_neg h10, if_pos h11]
    · rw [if_neg h0, if_neg h1, if_neg h2, if_neg h3, if_neg h4, if_neg h5, if_neg h6, if_neg h7, if_neg h8, if_neg h9, if_neg h10, if_pos h11, d9]
  by_cases h12 : p0 = 12
  · refine ⟨zk, ?_, ?_⟩
    · rw [if_neg h0, if_neg h1, if_neg h2, if_neg h3, if_neg h4, if_neg h5, if_neg h6, if_neg h7, if_neg h8, if_neg h9, if_neg h10, if_neg h11, if_pos h12]
    · rw [if_neg h0, if_neg h1, if_neg h2, if_neg h3, if_neg h4, if_neg h5, if_neg h6, if_neg h7, if_neg h8, if_neg h9, if_neg h10, if_neg h11, if_pos h12, d26]
  by_cases h13 : p0 = 13
  · refine ⟨dz, ?_, ?_⟩
    · rw [if_neg h0, if_neg h1, if_neg h2, if_neg h3, if_neg h4, if_neg h5, if_neg h6, if_neg h7, if_neg h8, if_neg h9, if_neg h10, if_neg h11, if_neg h12, if_pos h13]
    · rw [if_neg h0, if_neg h1, if_neg h2, if_neg h3, if_neg h4, if_neg h5, if_neg h6, if_neg h7, if_neg h8, if_neg h9, if_neg h10, if_neg h11, if_neg h12, if_pos h13, gA_t _ (by rw [h13]; decide) (by rw [h13]; decide), cl_t (n := 6) (by rw [h13]; rfl), d6]
  by_cases h14 : p0 = 14
  · refine ⟨rt, ?_, ?_⟩
    · rw [if_neg h0, if_neg h1, if_neg h2, if_neg h3, if_neg h4, if_neg h5, if_neg h6, if_neg h7, if_neg h8, if_neg h9, if_neg h10, if_neg h11, if_neg h12, if_neg h13, if_pos h14]
    · rw [if_neg h0, if_neg h1, if_neg h2, if_neg h3, if_neg h4, if_neg h5, if_neg h6, if_neg h7, if_neg h8, if_neg h9, if_neg h10, if_neg h11, if_neg h12, if_neg h13, if_pos h14, gA_t _ (by rw [h14]; decide) (by rw [h14]; decide), cl_t (n := 7) (by rw [h14]; rfl), d7]
  by_cases h15 : p0 = 15
  · refine ⟨st, ?_, ?_⟩
    · rw [if_neg h0, if_neg h1, if_neg h2, if_neg h3, if_neg h4, if_neg h5, if_neg h6, if_neg h7, if_neg h8, if_neg h9, if_neg h10, if_neg h11, if_neg h12, if_neg h13, if_neg h14, if_pos h15]
    · rw [if_neg h0, if_neg h1, if_neg h2, if_neg h3, if_neg h4, if_neg h5, if_neg h6, if_neg h7, if_neg h8, if_neg h9, if_neg h10, if_neg h11, if_neg h12, if_neg h13, if_neg h14, if_pos h15, gA_t _ (by rw [h15]; decide) (by rw [h15]; decide), cl_t (n := 8) (by rw [h15]; rfl), d8]
  exact ⟨-2000000001, by rw [if_neg h0, if_neg h1, if_neg h2, if_neg h3, if_neg h4, if_neg h5, if_neg h6, if_neg h7, if_neg h8, if_neg h9, if_neg h10, if_neg h11, if_neg h12, if_neg h13, if_neg h14, if_neg h15], by rw [if_neg h0, if_neg h1, if_neg h2, if_neg h3, if_neg h4, if_neg h5, if_neg h6, if_neg h7, if_neg h8, if_neg h9, if_neg h10, if_neg h11, if_neg h12, if_neg h13, if_neg h14, if_neg h15]⟩

