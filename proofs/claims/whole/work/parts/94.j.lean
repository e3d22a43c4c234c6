/-! pure part J: addWeight, removeWeight, weight -/
theorem RWn {L z : Int32} {ms es vs ps pn d : Nat → Int32} (R : RW L z ms es vs ps pn d) : ∃ n : Nat, n ≤ 8 ∧ z = nI n ∧ d 41 = nI n := by
  obtain ⟨n, h, e, d41, _⟩ := R
  exact ⟨n, h, e, d41⟩

theorem s_addWeight {N : Nat} {L : Int32} {E : Int32} {C : Int32} {P : Int32} {W : Int32} {A : Int64} {dz : Int32} {rt : Int32} {st : Int32} {z : Int32} {T : Nat → Int32} {X : Nat → Int32} {zc : Int32} {fc : Nat → Int32} {sc : Nat → Int32} {zk : Int32} {fk : Nat → Int32} {sk : Nat → Int32} {zw : Int32} {ms : Nat → Int32} {es : Nat → Int32} {vs : Nat → Int32} {ps : Nat → Int32} {pn : Nat → Int32} {hs : Int32} {hB : Nat → BS} {sts : Int32} {d : Nat → Int32} {was : Nat → Int32} {ac : Int64} {acs : Nat → Int64} {p0 : Int32} {p1 : Int32} {p2 : Int32} {p3 : Int32} (hN : 20000 ≤ N) (R : RB24 L E C P W A dz rt st z T X zc fc sc zk fk sk zw ms es vs ps pn d ac) (H : RH hs hB sts was acs) :
    ∃ (r : Int32) (zw' : Int32) (ms' : Nat → Int32) (es' : Nat → Int32) (vs' : Nat → Int32) (ps' : Nat → Int32) (pn' : Nat → Int32) (hs' : Int32) (hB' : Nat → BS) (sts' : Int32) (d' : Nat → Int32) (was' : Nat → Int32) (acs' : Nat → Int64), f_X7_addWeight L E C P W A dz rt st z T X zc fc sc zk fk sk zw ms es vs ps pn hs hB p0 p1 p2 p3 = some (r, zw', ms', es', vs', ps', pn', hs', hB') ∧ f_X8_addWeight N ac sts d was acs p0 p1 p2 p3 = some (r, sts', d', was', acs') ∧ RB24 L E C P W A dz rt st z T X zc fc sc zk fk sk zw' ms' es' vs' ps' pn' d' ac ∧ RH hs' hB' sts' was' acs' := by
  obtain ⟨u, w, g1, g2, g3⟩ := rcd hN R H
  have R0 := R
  obtain ⟨hL, hT, hC, hK, hW⟩ := R
  obtain ⟨n, hn, ez, d41, a, b, c, f, g, r1, r2, r3, r4⟩ := hW
  subst ez
  by_cases c0 : p0 < 1 ∨ 500 < p0
  · refine ⟨-2000000001, nI n, ms, es, vs, ps, pn, hs, hB, sts, d, was, acs, ?_, ?_, R0, H⟩
    · unfold f_X7_addWeight; rw [e_out, if_pos c0, ob_s, if_pos o1]
    · unfold f_X8_addWeight; rw [e_in, if_pos c0, ob_s, if_pos o3]
  by_cases c1 : p1 < -9 ∨ 9 < p1
  · refine ⟨-2000000001, nI n, ms, es, vs, ps, pn, hs, hB, sts, d, was, acs, ?_, ?_, R0, H⟩
    · unfold f_X7_addWeight; rw [e_out, if_neg c0, ob_s, if_neg o2, e_out, if_pos c1, ob_s, if_pos o1]
    · unfold f_X8_addWeight; rw [e_in, if_neg c0, ob_s, if_neg o1, e_in, if_pos c1, ob_s, if_pos o3]
  by_cases c2 : p2 < 0 ∨ 1000 < p2
  · refine ⟨-2000000001, nI n, ms, es, vs, ps, pn, hs, hB, sts, d, was, acs, ?_, ?_, R0, H⟩
    · unfold f_X7_addWeight; rw [e_out, if_neg c0, ob_s, if_neg o2, e_out, if_neg c1, ob_s, if_neg o2, e_out, if_pos c2, ob_s, if_neg o1]
    · unfold f_X8_addWeight; rw [e_in, if_neg c0, ob_s, if_neg o1, e_in, if_neg c1, ob_s, if_neg o1, e_in, if_pos c2, ob_s, if_pos o3]
  obtain ⟨x0, x1⟩ := out_n c0
  rw [t_1] at x0; rw [show (500 : Int32).toInt = 500 from by decide] at x1
  have hn1 : (nI n - 1).toInt = (n : Int) - 1 := by rw [t_sub (by rw [t_nI (by omega), t_1]; omega) (by rw [t_nI (by omega), t_1]; omega), t_nI (by omega), t_1]
  by_cases c3 : p3 < -1 ∨ nI n - 1 < p3
  · have hne : ¬ p3 = -1 := by
      intro e
      rw [e] at c3
      rcases c3 with h | h
      · exact absurd h (by decide)
      · rw [t_lt, hn1, t_m1] at h; omega
    have hh : f_X6_has (nI n) p3 = some 0 := by
      rcases e6_has (n := n) (x := p3) hn with ⟨h, -⟩ | ⟨i, hi, e, -, -⟩
      · exact h
      · rw [e] at c3
        rcases c3 with h | h
        · rw [t_lt, t_m1, t_nI (by omega)] at h; omega
        · rw [t_lt, hn1, t_nI (by omega)] at h; omega
    refine ⟨-2000000001, nI n, ms, es, vs, ps, pn, hs, hB, sts, d, was, acs, ?_, ?_, R0, H⟩
    · unfold f_X7_addWeight; rw [e_out, if_neg c0, ob_s, if_neg o2, e_out, if_neg c1, ob_s, if_neg o2, e_out, if_neg c2, ob_s, if_pos o3, if_neg hne, hh, ob_s, if_neg o2]
    · unfold f_X8_addWeight; rw [e_in, if_neg c0, ob_s, if_neg o1, e_in, if_neg c1, ob_s, if_neg o1, e_in, if_neg c2, ob_s, if_neg o1, d41, e_in, if_pos c3, ob_s, if_neg o2]
  obtain ⟨y0, y1⟩ := out_n c3
  rw [t_m1] at y0; rw [hn1] at y1
  have h7 : f_X7_addWeight L E C P W A dz rt st z T X zc fc sc zk fk sk (nI n) ms es vs ps pn hs hB p0 p1 p2 p3 = f_X7_addWeight_b60 L E C P W A dz rt st z T X zc fc sc zk fk sk p0 p1 p2 p3 (nI n) ms es vs ps pn hs hB := by
    unfold f_X7_addWeight
    rw [e_out, if_neg c0, ob_s, if_neg o2, e_out, if_neg c1, ob_s, if_neg o2, e_out, if_neg c2, ob_s, if_pos o3]
    by_cases e : p3 = -1
    · rw [if_pos e]
    · have hh : f_X6_has (nI n) p3 = some 1 := by
        rcases e6_has (n := n) (x := p3) hn with ⟨-, h⟩ | ⟨i, hi, e, h, -⟩
        · exfalso
          have hp : p3.toInt ≠ -1 := fun q => e (t_eq.mpr (by rw [q, t_m1]))
          rw [e_in, if_neg] at h
          · exact absurd h (by decide)
          · intro q
            rcases q with q | q
            · rw [t_lt, t_0] at q; omega
            · rw [t_lt, hn1] at q; omega
        · exact h
      rw [if_neg e, hh, ob_s, if_pos o1]
  by_cases h8 : n < 8
  · have kp : ∀ y, y < 41 ∨ 82 ≤ y → upd (upd (upd (upd (upd (upd d (42 + n) p0) (50 + n) p1) (58 + n) p2) (66 + n) p3) (74 + n) 0) 41 (nI (n + 1)) y = d y := fun y hy => by
      rw [un (by omega), un (by omega), un (by omega), un (by omega), un (by omega), un (by omega)]
    obtain ⟨sL, sT, sC, sK⟩ := spr_keep (d' := upd (upd (upd (upd (upd (upd d (42 + n) p0) (50 + n) p1) (58 + n) p2) (66 + n) p3) (74 + n) 0) 41 (nI (n + 1))) hL hT hC hK kp
    refine ⟨nI n, nI (n + 1), upd ms n p0, upd es n p1, upd vs n p2, upd ps n p3, upd pn n 0, u.2, u.1, w.1, upd (upd (upd (upd (upd (upd d (42 + n) p0) (50 + n) p1) (58 + n) p2) (66 + n) p3) (74 + n) 0) 41 (nI (n + 1)), w.2.1, w.2.2, ?_, ?_, ⟨sL, sT, sC, sK, ⟨n + 1, by omega, rfl, us, ?_, ?_, ?_, ?_, ?_, ?_, ?_, ?_, ?_⟩⟩, g3⟩
    · rw [h7]
      unfold f_X7_addWeight_b60 f_X6_append
      rw [if_pos (show nI n < (8 : Int32) from nI_lt (b := 8) h8 (by omega)), g1, ob_s, if_neg (show ¬ (8 : Int32) ≤ nI n from nI_ge (b := 8) h8 (by omega)), gA_i _ h8 (by omega), nm_s, gA_i _ h8 (by omega), nm_s, gA_i _ h8 (by omega), nm_s, gA_i _ h8 (by omega), nm_s, gA_i _ h8 (by omega), nm_s, nm_s, cl_i (by omega), p_1, ob_s, m_1]
    · unfold f_X8_addWeight
      rw [e_in, if_neg c0, ob_s, if_neg o1, e_in, if_neg c1, ob_s, if_neg o1, e_in, if_neg c2, ob_s, if_neg o1, d41, e_in, if_neg c3, ob_s, if_pos o1, nm_s, if_pos (show ¬ nI n = (8 : Int32) from nI_ne (c := 8) (by omega) (by omega) (by omega)), g2, ob_s, k_42, k_50, k_58, k_66, k_74, gA_i _ (by omega) (by omega), cl_i (by omega), nm_s, gA_i _ (by omega) (by omega), cl_i (by omega), nm_s, gA_i _ (by omega) (by omega), cl_i (by omega), nm_s, gA_i _ (by omega) (by omega), cl_i (by omega), nm_s, gA_i _ (by omega) (by omega), cl_i (by omega), nm_s, un (show 41 ≠ 74 + n by omega), un (show 41 ≠ 66 + n by omega), un (show 41 ≠ 58 + n by omega), un (show 41 ≠ 50 + n by omega), un (show 41 ≠ 42 + n by omega), d41, p_1, nm_s, nm_s]
    · intro i hi
      by_cases e : i = n
      · rw [e, us, un (by omega), un (by omega), un (by omega), un (by omega), un (by omega), us]
      · rw [un e, un (by omega), un (by omega), un (by omega), un (by omega), un (by omega), un (by omega), a i hi]
    · intro i hi
      by_cases e : i = n
      · rw [e, us, un (by omega), un (by omega), un (by omega), un (by omega), us]
      · rw [un e, un (by omega), un (by omega), un (by omega), un (by omega), un (by omega), un (by omega), b i hi]
    · intro i hi
      by_cases e : i = n
      · rw [e, us, un (by omega), un (by omega), un (by omega), us]
      · rw [un e, un (by omega), un (by omega), un (by omega), un (by omega), un (by omega), un (by omega), c i hi]
    · intro i hi
      by_cases e : i = n
      · rw [e, us, un (by omega), un (by omega), us]
      · rw [un e, un (by omega), un (by omega), un (by omega), un (by omega), un (by omega), un (by omega), f i hi]
    · intro i hi
      by_cases e : i = n
      · rw [e, us, un (by omega), us]
      · rw [un e, un (by omega), un (by omega), un (by omega), un (by omega), un (by omega), un (by omega), g i hi]
    · intro i hi
      by_cases e : i = n
      · rw [e, us]; exact ⟨x0, x1⟩
      · rw [un e]; exact r1 i (by omega)
    · intro i hi
      by_cases e : i = n
      · rw [e, us]; exact Or.inl rfl
      · rw [un e]; exact r2 i (by omega)
    · intro i hi
      by_cases e : i = n
      · rw [e, us]; exact ⟨y0, by omega⟩
      · rw [un e]; exact r3 i (by omega)
    · show smZ (upd ms n p0) (upd pn n 0) n + (if upd pn n 0 n = 0 then 0 else (upd ms n p0 n).toInt) ≤ L.toInt
      rw [us, if_pos o3, smZ_congr (m := upd ms n p0) (p := upd pn n 0) (m' := ms) (p' := pn) n (fun i hi => ⟨un (by omega), un (by omega)⟩)]
      omega
  · have e8 : n = 8 := by omega
    refine ⟨-2000000003, nI n, ms, es, vs, ps, pn, hs, hB, sts, d, was, acs, ?_, ?_, R0, H⟩
    · rw [h7]
      unfold f_X7_addWeight_b60
      rw [if_neg (show ¬ nI n < (8 : Int32) from nI_nlt (b := 8) (by omega) (by omega))]
    · unfold f_X8_addWeight
      rw [e_in, if_neg c0, ob_s, if_neg o1, e_in, if_neg c1, ob_s, if_neg o1, e_in, if_neg c2, ob_s, if_neg o1, d41, e_in, if_neg c3, ob_s, if_pos o1, nm_s, if_neg (fun e => e (by rw [e8]; rfl))]

/-- a row whose place k is closed, n of it -/
def cg (n k : Nat) (r : Nat → Int32) : Nat → Int32 := fun i => if k ≤ i ∧ i + 1 < n then r (i + 1) else r i
theorem e_gap {n k : Nat} {r : Nat → Int32} (hn : n ≤ 8) : ∀ (j i kk : Nat) (g : Nat → Int32), i + 1 + j = n → k ≤ i → j < kk → (∀ x, g x = if k ≤ x ∧ x < i then r (x + 1) else r x) →
    ∃ g' : Nat → Int32, f_X6_closeGap_b2 8 (nI n) kk (nI i) g = some g' ∧ ∀ x, g' x = cg n k r x := by
  intro j
  induction j with
  | zero =>
    intro i kk g hi hk hkk hg
    obtain ⟨kk, rfl⟩ : ∃ k', kk = k' + 1 := ⟨kk - 1, by omega⟩
    refine ⟨g, ?_, fun x => ?_⟩
    · rw [f_X6_closeGap_b2, p_1, if_pos (nI_le (by omega) (by omega))]
    · rw [hg x]
      unfold cg
      by_cases c : k ≤ x ∧ x < i
      · rw [if_pos c, if_pos ⟨c.1, by omega⟩]
      · rw [if_neg c, if_neg (fun e => c ⟨e.1, by omega⟩)]
  | succ j ih =>
    intro i kk g hi hk hkk hg
    obtain ⟨kk, rfl⟩ : ∃ k', kk = k' + 1 := ⟨kk - 1, by omega⟩
    obtain ⟨g', q1, q2⟩ := ih (i + 1) kk (upd g i (g (i + 1))) (by omega) (by omega) (by omega) (fun x => by
      by_cases e : x = i
      · rw [e, us, hg (i + 1), if_neg (by omega), if_pos ⟨hk, by omega⟩]
      · rw [un e, hg x]
        by_cases c : k ≤ x ∧ x < i
        · rw [if_pos c, if_pos ⟨c.1, by omega⟩]
        · rw [if_neg c, if_neg (fun e2 => c ⟨e2.1, by omega⟩)])
    refine ⟨g', ?_, q2⟩
    rw [f_X6_closeGap_b2, p_1, if_neg (nI_ge (by omega) (by omega)), oN, if_neg (nI_ge (by omega) (by omega)), gA_i _ (by omega) (by omega), cl_i (by omega), nm_s, gA_i _ (by omega) (by omega), cl_i (by omega), nm_s, nm_s, q1]
theorem e_gap0 {N n k : Nat} {r : Nat → Int32} (hN : 3000 ≤ N) (hn : n ≤ 8) (hk : k < n) : ∃ g' : Nat → Int32, f_X6_closeGap N 8 (nI n) r (nI k) = some g' ∧ ∀ x, g' x = cg n k r x :=
  e_gap hn (n - 1 - k) k N r (by omega) (Nat.le_refl _) (by omega) (fun x => by rw [if_neg (by omega)])
/-- a parent's number, one less behind k -/
def dcr (k v : Int32) : Int32 := if v ≤ k then v else v - 1
theorem e_dcr {m : Nat} {k : Int32} {a1 a2 a3 a5 r : Nat → Int32} (hm : m ≤ 8) : ∀ (j i kk : Nat) (g : Nat → Int32), i + j = m → j < kk → (∀ x, g x = if x < i then dcr k (r x) else r x) →
    ∃ g' : Nat → Int32, f_X6_removeAt_b66 k (nI m) a1 a2 a3 a5 kk (nI i) g = some (nI m, a1, a2, a3, g', a5) ∧ ∀ x, g' x = if x < m then dcr k (r x) else r x := by
  intro j
  induction j with
  | zero =>
    intro i kk g hi hkk hg
    obtain ⟨kk, rfl⟩ : ∃ k', kk = k' + 1 := ⟨kk - 1, by omega⟩
    have : i = m := by omega
    subst this
    exact ⟨g, by rw [f_X6_removeAt_b66, if_pos (nI_le (Nat.le_refl _) (by omega))], hg⟩
  | succ j ih =>
    intro i kk g hi hkk hg
    obtain ⟨kk, rfl⟩ : ∃ k', kk = k' + 1 := ⟨kk - 1, by omega⟩
    have gi : g i = r i := by rw [hg i, if_neg (Nat.lt_irrefl _)]
    by_cases c : r i ≤ k
    · obtain ⟨g', q1, q2⟩ := ih (i + 1) kk g (by omega) (by omega) (fun x => by
        rw [hg x]
        by_cases e : x = i
        · subst e; rw [if_neg (Nat.lt_irrefl _), if_pos (by omega)]; unfold dcr; rw [if_pos c]
        · by_cases c2 : x < i
          · rw [if_pos c2, if_pos (by omega)]
          · rw [if_neg c2, if_neg (by omega)])
      refine ⟨g', ?_, q2⟩
      rw [f_X6_removeAt_b66, if_neg (nI_ge (by omega) (by omega)), gA_i _ (by omega) (by omega), cl_i (by omega), gi, if_pos c, nm_s, p_1, q1]
    · obtain ⟨g', q1, q2⟩ := ih (i + 1) kk (upd g i (r i - 1)) (by omega) (by omega) (fun x => by
        by_cases e : x = i
        · subst e; rw [us, if_pos (by omega)]; unfold dcr; rw [if_neg c]
        · rw [un e, hg x]
          by_cases c2 : x < i
          · rw [if_pos c2, if_pos (by omega)]
          · rw [if_neg c2, if_neg (by omega)])
      refine ⟨g', ?_, q2⟩
      rw [f_X6_removeAt_b66, if_neg (nI_ge (by omega) (by omega)), gA_i _ (by omega) (by omega), cl_i (by omega), gi, if_neg c, gA_i _ (by omega) (by omega), nm_s, gA_i _ (by omega) (by omega), nm_s, nm_s, p_1, q1]
theorem e_par {n : Nat} {ps : Nat → Int32} {p : Int32} (hn : n ≤ 8) : ∀ (j i kk : Nat), i + j = n → j < kk → ((∃ x, i ≤ x ∧ x < n ∧ ps x = p) → f_X6_isParent_b2 (nI n) ps p kk (nI i) = some 1) ∧ (¬ (∃ x, i ≤ x ∧ x < n ∧ ps x = p) → f_X6_isParent_b2 (nI n) ps p kk (nI i) = some 0) := by
  intro j
  induction j with
  | zero =>
    intro i kk hi hkk
    obtain ⟨kk, rfl⟩ : ∃ k', kk = k' + 1 := ⟨kk - 1, by omega⟩
    rw [f_X6_isParent_b2, if_pos (nI_le (by omega) (by omega))]
    exact ⟨fun ⟨x, h1, h2, _⟩ => by omega, fun _ => rfl⟩
  | succ j ih =>
    intro i kk hi hkk
    obtain ⟨kk, rfl⟩ : ∃ k', kk = k' + 1 := ⟨kk - 1, by omega⟩
    obtain ⟨q1, q2⟩ := ih (i + 1) kk (by omega) (by omega)
    rw [f_X6_isParent_b2, if_neg (nI_ge (by omega) (by omega)), gA_i _ (by omega) (by omega), cl_i (by omega)]
    by_cases c : ps i = p
    · rw [if_neg (fun e => e c)]
      exact ⟨fun _ => rfl, fun h => absurd ⟨i, Nat.le_refl _, by omega, c⟩ h⟩
    · rw [if_pos c, nm_s, p_1]
      refine ⟨fun ⟨x, h1, h2, h3⟩ => q1 ⟨x, ?_, h2, h3⟩, fun h => q2 (fun ⟨x, h1, h2, h3⟩ => h ⟨x, by omega, h2, h3⟩)⟩
      by_cases e : x = i
      · rw [e] at h3; exact absurd h3 c
      · omega
theorem e_b31_0 {N n : Nat} {d was : Nat → Int32} {acs : Nat → Int64} {ac : Int64} {p sts : Int32} (hn : n ≤ 8) (d41 : d 41 = nI n) : ∀ (j i kk : Nat), i + j = n → j < kk → f_X8_removeWeight_b31 N ac p sts d was acs kk 0 (nI i) = some (-2000000002, sts, d, was, acs) := by
  intro j
  induction j with
  | zero =>
    intro i kk hi hkk
    obtain ⟨kk, rfl⟩ : ∃ k', kk = k' + 1 := ⟨kk - 1, by omega⟩
    rw [f_X8_removeWeight_b31, d41, if_pos (nI_le (by omega) (by omega)), if_neg o2]
  | succ j ih =>
    intro i kk hi hkk
    obtain ⟨kk, rfl⟩ : ∃ k', kk = k' + 1 := ⟨kk - 1, by omega⟩
    rw [f_X8_removeWeight_b31, d41, if_neg (nI_ge (by omega) (by omega)), if_pos o3, nm_s, p_1, ih (i + 1) kk (by omega) (by omega)]
theorem e_b31_1 {N n : Nat} {d ps was : Nat → Int32} {acs : Nat → Int64} {ac : Int64} {p sts : Int32} (hn : n ≤ 8) (d41 : d 41 = nI n) (dp : ∀ i, i < 8 → d (66 + i) = ps i) : ∀ (j i kk : Nat), i + j = n → j < kk →
    ((∃ x, i ≤ x ∧ x < n ∧ ps x = p) → f_X8_removeWeight_b31 N ac p sts d was acs kk 1 (nI i) = some (-2000000002, sts, d, was, acs)) ∧
    (¬ (∃ x, i ≤ x ∧ x < n ∧ ps x = p) → f_X8_removeWeight_b31 N ac p sts d was acs kk 1 (nI i) = Option.bind (f_X8_records N ac sts d was acs) (fun u7 => nm (d 41 - (1 : Int32)) (fun t8 => nm (upd d 41 t8) (fun g9 => (f_X8_removeWeight_b95 N p N 1 p u7.1 g9 u7.2.1 u7.2.2))))) := by
  intro j
  induction j with
  | zero =>
    intro i kk hi hkk
    obtain ⟨kk, rfl⟩ : ∃ k', kk = k' + 1 := ⟨kk - 1, by omega⟩
    rw [f_X8_removeWeight_b31, d41, if_pos (nI_le (by omega) (by omega)), if_pos o1]
    exact ⟨fun ⟨x, h1, h2, _⟩ => by omega, fun _ => rfl⟩
  | succ j ih =>
    intro i kk hi hkk
    obtain ⟨kk, rfl⟩ : ∃ k', kk = k' + 1 := ⟨kk - 1, by omega⟩
    obtain ⟨q1, q2⟩ := ih (i + 1) kk (by omega) (by omega)
    rw [f_X8_removeWeight_b31, d41, if_neg (nI_ge (by omega) (by omega)), if_neg o1, k_66, gA_i _ (by omega) (by omega), cl_i (by omega), dp i (by omega)]
    by_cases c : ps i = p
    · rw [if_pos c, nm_s, p_1, e_b31_0 hn d41 j (i + 1) kk (by omega) (by omega)]
      exact ⟨fun _ => rfl, fun h => absurd ⟨i, Nat.le_refl _, by omega, c⟩ h⟩
    · rw [if_neg c, nm_s, p_1]
      rw [d41] at q2
      refine ⟨fun ⟨x, h1, h2, h3⟩ => q1 ⟨x, ?_, h2, h3⟩, fun h => q2 (fun ⟨x, h1, h2, h3⟩ => h ⟨x, by omega, h2, h3⟩)⟩
      by_cases e : x = i
      · rw [e] at h3; exact absurd h3 c
      · omega
theorem e_b110 {N i : Nat} {x2 sts : Int32} {rc : Int32 → Int32 → Int32 → (Nat → Int32) → (Nat → Int32) → (Nat → Int64) → Option (Int32 × Int32 × (Nat → Int32) × (Nat → Int32) × (Nat → Int64))} {was g : Nat → Int32} {acs : Nat → Int64} (hN : 20000 ≤ N) (hi : i < 8) :
    f_X8_removeWeight_b110 rc x2 (nI i) sts was acs N 42 g = rc x2 (nI (i + 1)) sts (upd (upd (upd (upd (upd g (42 + i) (g (42 + i + 1))) (50 + i) (g (50 + i + 1))) (58 + i) (g (58 + i + 1))) (66 + i) (g (66 + i + 1))) (74 + i) (g (74 + i + 1))) was acs := by
  obtain ⟨N, rfl⟩ : ∃ N', N = N' + 6 := ⟨N - 6, by omega⟩
  rw [f_X8_removeWeight_b110, if_neg (by decide), k_42, p_1, gA_i _ (by omega) (by omega), cl_i (by omega), nm_s, gA_i _ (by omega) (by omega), cl_i (by omega), nm_s, show (42 : Int32) + 8 = 50 from rfl, nm_s,
    f_X8_removeWeight_b110, if_neg (by decide), k_50, p_1, gA_i _ (by omega) (by omega), cl_i (by omega), nm_s, gA_i _ (by omega) (by omega), cl_i (by omega), nm_s, show (50 : Int32) + 8 = 58 from rfl, nm_s,
    f_X8_removeWeight_b110, if_neg (by decide), k_58, p_1, gA_i _ (by omega) (by omega), cl_i (by omega), nm_s, gA_i _ (by omega) (by omega), cl_i (by omega), nm_s, show (58 : Int32) + 8 = 66 from rfl, nm_s,
    f_X8_removeWeight_b110, if_neg (by decide), k_66, p_1, gA_i _ (by omega) (by omega), cl_i (by omega), nm_s, gA_i _ (by omega) (by omega), cl_i (by omega), nm_s, show (66 : Int32) + 8 = 74 from rfl, nm_s,
    f_X8_removeWeight_b110, if_neg (by decide), k_74, p_1, gA_i _ (by omega) (by omega), cl_i (by omega), nm_s, gA_i _ (by omega) (by omega), cl_i (by omega), nm_s, show (74 : Int32) + 8 = 82 from rfl, nm_s,
    f_X8_removeWeight_b110, if_pos (by decide), nm_s, p_1]
  rw [un (show 50 + i + 1 ≠ 42 + i by omega), un (show 58 + i + 1 ≠ 50 + i by omega), un (show 58 + i + 1 ≠ 42 + i by omega), un (show 66 + i + 1 ≠ 58 + i by omega), un (show 66 + i + 1 ≠ 50 + i by omega), un (show 66 + i + 1 ≠ 42 + i by omega), un (show 74 + i + 1 ≠ 66 + i by omega), un (show 74 + i + 1 ≠ 58 + i by omega), un (show 74 + i + 1 ≠ 50 + i by omega), un (show 74 + i + 1 ≠ 42 + i by omega)]
def rowS (n k i : Nat) (r : Nat → Int32) : Nat → Int32 := fun x => if k ≤ x ∧ x < i then r (x + 1) else r x
theorem rowS_0 {n k x : Nat} {r : Nat → Int32} : rowS n k k r x = r x := if_neg (by omega)
theorem rowS_i {n k i : Nat} {r : Nat → Int32} : rowS n k i r i = r i := if_neg (by omega)
theorem rowS_1 {n k i : Nat} {r : Nat → Int32} : rowS n k i r (i + 1) = r (i + 1) := if_neg (by omega)
theorem rowS_s {n k i x : Nat} {r : Nat → Int32} (h : x ≠ i) : rowS n k (i + 1) r x = rowS n k i r x := by
  unfold rowS
  by_cases c : k ≤ x ∧ x < i
  · rw [if_pos c, if_pos ⟨c.1, by omega⟩]
  · rw [if_neg c, if_neg (fun e => c ⟨e.1, by omega⟩)]
theorem rowS_n {n k i : Nat} {r : Nat → Int32} (h : k ≤ i) : rowS n k (i + 1) r i = r (i + 1) := if_pos ⟨h, Nat.lt_succ_self i⟩
theorem e_b95 {N m k : Nat} {x2 sts : Int32} {ms es vs ps pn d was : Nat → Int32} {acs : Nat → Int64} {p : Int32} (hN : 20000 ≤ N) (hm : m < 8) : ∀ (j i kk : Nat) (g : Nat → Int32), i + j = m → k ≤ i → j < kk →
    (∀ x, x < 8 → g (42 + x) = rowS m k i ms x ∧ g (50 + x) = rowS m k i es x ∧ g (58 + x) = rowS m k i vs x ∧ g (66 + x) = rowS m k i ps x ∧ g (74 + x) = rowS m k i pn x) → (∀ y, y < 41 ∨ 82 ≤ y → g y = d y) → g 41 = nI m →
    ∃ g' : Nat → Int32, f_X8_removeWeight_b95 N p kk x2 (nI i) sts g was acs = f_X8_removeWeight_b151 p sts was acs N 0 g' ∧
      (∀ x, x < 8 → g' (42 + x) = rowS m k m ms x ∧ g' (50 + x) = rowS m k m es x ∧ g' (58 + x) = rowS m k m vs x ∧ g' (66 + x) = rowS m k m ps x ∧ g' (74 + x) = rowS m k m pn x) ∧ (∀ y, y < 41 ∨ 82 ≤ y → g' y = d y) ∧ g' 41 = nI m := by
  intro j
  induction j with
  | zero =>
    intro i kk g hi hik hkk h1 h2 h3
    obtain ⟨kk, rfl⟩ : ∃ k', kk = k' + 1 := ⟨kk - 1, by omega⟩
    have : i = m := by omega
    subst this
    exact ⟨g, by rw [f_X8_removeWeight_b95, h3, if_pos (nI_le (Nat.le_refl _) (by omega))], h1, h2, h3⟩
  | succ j ih =>
    intro i kk g hi hik hkk h1 h2 h3
    obtain ⟨kk, rfl⟩ : ∃ k', kk = k' + 1 := ⟨kk - 1, by omega⟩
    obtain ⟨a1, a2, a3, a4, a5⟩ := h1 (i + 1) (by omega)
    rw [rowS_1] at a1 a2 a3 a4 a5
    obtain ⟨g', q1, q2⟩ := ih (i + 1) kk (upd (upd (upd (upd (upd g (42 + i) (g (42 + i + 1))) (50 + i) (g (50 + i + 1))) (58 + i) (g (58 + i + 1))) (66 + i) (g (66 + i + 1))) (74 + i) (g (74 + i + 1))) (by omega) (by omega) (by omega) (fun x hx => by
        by_cases e : x = i
        · subst e
          rw [rowS_n hik, rowS_n hik, rowS_n hik, rowS_n hik, rowS_n hik, us, un (by omega), un (by omega), un (by omega), un (by omega), us, un (by omega), un (by omega), un (by omega), us, un (by omega), un (by omega), us, un (by omega), us]
          exact ⟨a1, a2, a3, a4, a5⟩
        · obtain ⟨b1, b2, b3, b4, b5⟩ := h1 x hx
          rw [rowS_s e, rowS_s e, rowS_s e, rowS_s e, rowS_s e]
          refine ⟨?_, ?_, ?_, ?_, ?_⟩
          · rw [un (by omega), un (by omega), un (by omega), un (by omega), un (by omega), b1]
          · rw [un (by omega), un (by omega), un (by omega), un (by omega), un (by omega), b2]
          · rw [un (by omega), un (by omega), un (by omega), un (by omega), un (by omega), b3]
          · rw [un (by omega), un (by omega), un (by omega), un (by omega), un (by omega), b4]
          · rw [un (by omega), un (by omega), un (by omega), un (by omega), un (by omega), b5]) (fun y hy => by rw [un (by omega), un (by omega), un (by omega), un (by omega), un (by omega), h2 y hy]) (by rw [un (by omega), un (by omega), un (by omega), un (by omega), un (by omega), h3])
    refine ⟨g', ?_, q2⟩
    rw [f_X8_removeWeight_b95, h3, if_neg (nI_ge (by omega) (by omega)), e_b110 hN (by omega), q1]
theorem e_b151 {m : Nat} {k sts : Int32} {r d was : Nat → Int32} {acs : Nat → Int64} (hm : m ≤ 8) : ∀ (j i kk : Nat) (g : Nat → Int32), i + j = m → j < kk → (∀ x, x < 8 → g (66 + x) = if x < i then dcr k (r x) else r x) → (∀ y, y < 66 ∨ 74 ≤ y → g y = d y) → d 41 = nI m →
    ∃ g' : Nat → Int32, f_X8_removeWeight_b151 k sts was acs kk (nI i) g = some (nI m, sts, g', was, acs) ∧ (∀ x, x < 8 → g' (66 + x) = if x < m then dcr k (r x) else r x) ∧ ∀ y, y < 66 ∨ 74 ≤ y → g' y = d y := by
  intro j
  induction j with
  | zero =>
    intro i kk g hi hkk hg hd d41
    obtain ⟨kk, rfl⟩ : ∃ k', kk = k' + 1 := ⟨kk - 1, by omega⟩
    have : i = m := by omega
    subst this
    have g41 : g 41 = nI i := by rw [hd 41 (by omega), d41]
    exact ⟨g, by rw [f_X8_removeWeight_b151, g41, if_pos (nI_le (Nat.le_refl _) (by omega))], hg, hd⟩
  | succ j ih =>
    intro i kk g hi hkk hg hd d41
    obtain ⟨kk, rfl⟩ : ∃ k', kk = k' + 1 := ⟨kk - 1, by omega⟩
    have g41 : g 41 = nI m := by rw [hd 41 (by omega), d41]
    have gi : g (66 + i) = r i := by rw [hg i (by omega), if_neg (Nat.lt_irrefl _)]
    obtain ⟨g', q1, q2⟩ := ih (i + 1) kk (upd g (66 + i) (dcr k (r i))) (by omega) (by omega) (fun x hx => by
      by_cases e : x = i
      · subst e; rw [us, if_pos (by omega)]
      · rw [un (by omega), hg x hx]
        by_cases c2 : x < i
        · rw [if_pos c2, if_pos (by omega)]
        · rw [if_neg c2, if_neg (by omega)]) (fun y hy => by rw [un (by omega), hd y hy]) d41
    refine ⟨g', ?_, q2⟩
    rw [f_X8_removeWeight_b151, g41, if_neg (nI_ge (by omega) (by omega)), k_66, gA_i _ (by omega) (by omega), gA_i _ (by omega) (by omega), cl_i (by omega), gi]
    unfold dcr at q1
    by_cases c : r i ≤ k
    · rw [if_pos c] at q1 ⊢
      rw [nm_s, gA_i _ (by omega) (by omega), nm_s, nm_s, p_1, Int32.sub_zero, q1]
    · rw [if_neg c] at q1 ⊢
      rw [nm_s, gA_i _ (by omega) (by omega), nm_s, nm_s, p_1, q1]
theorem cgA {n k i : Nat} {r : Nat → Int32} (h : k ≤ i ∧ i + 1 < n) : cg n k r i = r (i + 1) := if_pos h
theorem cgB {n k i : Nat} {r : Nat → Int32} (h : ¬ (k ≤ i ∧ i + 1 < n)) : cg n k r i = r i := if_neg h
theorem smZ_cg {n k : Nat} {m p : Nat → Int32} (hk : k < n) (hp : p k = 0) : ∀ i : Nat, i + 1 ≤ n → smZ (cg n k m) (cg n k p) i = if i ≤ k then smZ m p i else smZ m p (i + 1) := by
  intro i
  induction i with
  | zero => intro _; rw [if_pos (by omega)]; rfl
  | succ i ih =>
    intro hi
    show smZ (cg n k m) (cg n k p) i + (if cg n k p i = 0 then 0 else (cg n k m i).toInt) = _
    rw [ih (by omega)]
    by_cases c : k ≤ i
    · rw [cgA ⟨c, by omega⟩, cgA ⟨c, by omega⟩, if_neg (show ¬ i + 1 ≤ k by omega)]
      by_cases c2 : i ≤ k
      · have : i = k := by omega
        subst this
        rw [if_pos (Nat.le_refl i)]
        show smZ m p i + (if p (i + 1) = 0 then 0 else (m (i + 1)).toInt) = smZ m p i + (if p i = 0 then 0 else (m i).toInt) + (if p (i + 1) = 0 then 0 else (m (i + 1)).toInt)
        rw [if_pos hp]
        omega
      · rw [if_neg c2]
        rfl
    · rw [cgB (fun e => c e.1), cgB (fun e => c e.1), if_pos (show i ≤ k by omega), if_pos (show i + 1 ≤ k by omega)]
      rfl

theorem s_removeWeight {N : Nat} {L : Int32} {E : Int32} {C : Int32} {P : Int32} {W : Int32} {A : Int64} {dz : Int32} {rt : Int32} {st : Int32} {z : Int32} {T : Nat → Int32} {X : Nat → Int32} {zc : Int32} {fc : Nat → Int32} {sc : Nat → Int32} {zk : Int32} {fk : Nat → Int32} {sk : Nat → Int32} {zw : Int32} {ms : Nat → Int32} {es : Nat → Int32} {vs : Nat → Int32} {ps : Nat → Int32} {pn : Nat → Int32} {hs : Int32} {hB : Nat → BS} {sts : Int32} {d : Nat → Int32} {was : Nat → Int32} {ac : Int64} {acs : Nat → Int64} {p0 : Int32} (hN : 20000 ≤ N) (R : RB24 L E C P W A dz rt st z T X zc fc sc zk fk sk zw ms es vs ps pn d ac) (H : RH hs hB sts was acs) :
    ∃ (r : Int32) (zw' : Int32) (ms' : Nat → Int32) (es' : Nat → Int32) (vs' : Nat → Int32) (ps' : Nat → Int32) (pn' : Nat → Int32) (hs' : Int32) (hB' : Nat → BS) (sts' : Int32) (d' : Nat → Int32) (was' : Nat → Int32) (acs' : Nat → Int64), f_X7_removeWeight N L E C P W A dz rt st z T X zc fc sc zk fk sk zw ms es vs ps pn hs hB p0 = some (r, zw', ms', es', vs', ps', pn', hs', hB') ∧ f_X8_removeWeight N ac sts d was acs p0 = some (r, sts', d', was', acs') ∧ RB24 L E C P W A dz rt st z T X zc fc sc zk fk sk zw' ms' es' vs' ps' pn' d' ac ∧ RH hs' hB' sts' was' acs' := by
  obtain ⟨u, w, g1, g2, g3⟩ := rcd hN R H
  have R0 := R
  obtain ⟨hL, hT, hC, hK, hW⟩ := R
  obtain ⟨n, hn, ez, d41, a, b, c, f, g, r1, r2, r3, r4⟩ := hW
  subst ez
  unfold f_X7_removeWeight f_X8_removeWeight f_X8_isWeight
  rw [d41]
  rcases e6_has (n := n) (x := p0) hn with ⟨h1, h2⟩ | ⟨k, hk, ep, h1, h2⟩
  · refine ⟨-2000000001, nI n, ms, es, vs, ps, pn, hs, hB, sts, d, was, acs, ?_, ?_, R0, H⟩
    · rw [h1, ob_s, if_neg o2]
    · rw [h2, ob_s, gT_t _ (Or.inl rfl), ob_s, if_neg o2]
  subst ep
  rw [h1, ob_s, if_pos o1, h2, ob_s, gT_t _ (Or.inr rfl), ob_s, if_pos o1, k_74, gA_i _ (by omega) (by omega), cl_i (by omega), g k (by omega), e6_pan hn hk, ob_s]
  by_cases cp : pn k = 0
  · rw [if_pos cp, if_neg o2, if_neg (fun e => e cp)]
    obtain ⟨q1, q2⟩ := e_par (n := n) (ps := ps) (p := nI k) hn n 0 N (by omega) (by omega)
    obtain ⟨q3, q4⟩ := e_b31_1 (N := N) (n := n) (d := d) (ps := ps) (was := was) (acs := acs) (ac := ac) (p := nI k) (sts := sts) hn d41 f n 0 N (by omega) (by omega)
    have q1 : (∃ x, 0 ≤ x ∧ x < n ∧ ps x = nI k) → f_X6_isParent N (nI n) ps (nI k) = some 1 := q1
    have q2 : ¬ (∃ x, 0 ≤ x ∧ x < n ∧ ps x = nI k) → f_X6_isParent N (nI n) ps (nI k) = some 0 := q2
    by_cases hp : ∃ x, 0 ≤ x ∧ x < n ∧ ps x = nI k
    · refine ⟨-2000000002, nI n, ms, es, vs, ps, pn, hs, hB, sts, d, was, acs, ?_, ?_, R0, H⟩
      · rw [q1 hp, ob_s, if_neg o1]
      · exact q3 hp
    · obtain ⟨m, rfl⟩ : ∃ m, n = m + 1 := ⟨n - 1, by omega⟩
      obtain ⟨m1, m2, m3⟩ := e_gap0 (N := N) (r := ms) (by omega) hn hk
      obtain ⟨e1, e2, e3⟩ := e_gap0 (N := N) (r := es) (by omega) hn hk
      obtain ⟨v1, v2, v3⟩ := e_gap0 (N := N) (r := vs) (by omega) hn hk
      obtain ⟨t1, t2, t3⟩ := e_gap0 (N := N) (r := ps) (by omega) hn hk
      obtain ⟨n1, n2, n3⟩ := e_gap0 (N := N) (r := pn) (by omega) hn hk
      obtain ⟨tt, s1, s2⟩ := e_dcr (m := m) (k := nI k) (a1 := m1) (a2 := e1) (a3 := v1) (a5 := n1) (r := t1) (by omega) m 0 N t1 (by omega) (by omega) (fun x => by rw [if_neg (by omega)])
      obtain ⟨ga, x1, x2, x3, x4⟩ := e_b95 (N := N) (m := m) (k := k) (x2 := 1) (sts := w.1) (ms := ms) (es := es) (vs := vs) (ps := ps) (pn := pn) (d := d) (was := w.2.1) (acs := w.2.2) (p := nI k) hN (by omega) (m - k) k N (upd d 41 (nI m)) (by omega) (Nat.le_refl _) (by omega) (fun x hx => by
        rw [rowS_0, rowS_0, rowS_0, rowS_0, rowS_0, un (by omega), un (by omega), un (by omega), un (by omega), un (by omega)]
        exact ⟨a x hx, b x hx, c x hx, f x hx, g x hx⟩) (fun y hy => un (by omega)) us
      have hcr : ∀ (r : Nat → Int32) (x : Nat), rowS m k m r x = cg (m + 1) k r x := fun r x => by
        unfold rowS cg
        by_cases e : k ≤ x ∧ x < m
        · rw [if_pos e, if_pos ⟨e.1, by omega⟩]
        · rw [if_neg e, if_neg (fun e2 => e ⟨e2.1, by omega⟩)]
      obtain ⟨gb, y1, y2, y3⟩ := e_b151 (m := m) (k := nI k) (sts := w.1) (r := t1) (d := ga) (was := w.2.1) (acs := w.2.2) (by omega) m 0 N ga (by omega) (by omega) (fun x hx => by rw [if_neg (by omega), (x2 x hx).2.2.2.1, hcr, t3]) (fun _ _ => rfl) x4
      obtain ⟨sL, sT, sC, sK⟩ := spr_keep (d' := gb) hL hT hC hK (fun y hy => by rw [y3 y (by omega), x3 y (by omega)])
      refine ⟨nI m, nI m, m1, e1, v1, tt, n1, u.2, u.1, w.1, gb, w.2.1, w.2.2, ?_, ?_, ⟨sL, sT, sC, sK, ⟨m, by omega, rfl, by rw [y3 41 (by omega), x4], fun i hi => by rw [y3 _ (by omega), (x2 i hi).1, hcr, m3], fun i hi => by rw [y3 _ (by omega), (x2 i hi).2.1, hcr, e3], fun i hi => by rw [y3 _ (by omega), (x2 i hi).2.2.1, hcr, v3], fun i hi => by rw [y2 i hi, s2 i], fun i hi => by rw [y3 _ (by omega), (x2 i hi).2.2.2.2, hcr, n3], fun i hi => ?_, fun i hi => ?_, fun i hi => ?_, ?_⟩⟩, g3⟩
      · rw [q2 hp, ob_s, if_pos o3, g1, ob_s]
        unfold f_X6_removeAt
        rw [h1, ob_s, if_pos o1, m2, ob_s, e2, ob_s, v2, ob_s, t2, ob_s, n2, ob_s, m_1, nm_s]
        have s1 : f_X6_removeAt_b66 (nI k) (nI m) m1 e1 v1 n1 N 0 t1 = some (nI m, m1, e1, v1, tt, n1) := s1
        rw [s1, ob_s]
      · have q5 := q4 hp
        have q5 : f_X8_removeWeight_b31 N ac (nI k) sts d was acs N 1 0 = _ := q5
        rw [q5, g2, ob_s, d41, m_1, nm_s, nm_s, x1]
        exact y1
      · rw [m3]; unfold cg
        by_cases e : k ≤ i ∧ i + 1 < m + 1
        · rw [if_pos e]; exact r1 (i + 1) (by omega)
        · rw [if_neg e]; exact r1 i (by omega)
      · rw [n3]; unfold cg
        by_cases e : k ≤ i ∧ i + 1 < m + 1
        · rw [if_pos e]; exact r2 (i + 1) (by omega)
        · rw [if_neg e]; exact r2 i (by omega)
      · rw [s2 i, if_pos hi, t3]
        unfold cg dcr
        by_cases e : k ≤ i ∧ i + 1 < m + 1
        · rw [if_pos e]
          have h3 := r3 (i + 1) (by omega)
          have hne : (ps (i + 1)).toInt ≠ (k : Int) := fun q => hp ⟨i + 1, by omega, by omega, nI_of_t q⟩
          by_cases e2 : ps (i + 1) ≤ nI k
          · rw [if_pos e2]; rw [t_le, t_nI (by omega)] at e2; omega
          · rw [if_neg e2]; rw [t_le, t_nI (by omega)] at e2
            rw [t_sub (by rw [t_1]; omega) (by rw [t_1]; omega), t_1]; omega
        · rw [if_neg e]
          have h3 := r3 i (by omega)
          rw [if_pos (by rw [t_le, t_nI (by omega)]; omega)]
          exact h3
      · rw [smZ_congr (m := m1) (p := n1) (m' := cg (m + 1) k ms) (p' := cg (m + 1) k pn) m (fun i hi => ⟨m3 i, n3 i⟩), smZ_cg hk cp m (by omega)]
        by_cases e : m ≤ k
        · rw [if_pos e]
          have hmk : m = k := by omega
          have e2 : smZ ms pn (m + 1) = smZ ms pn m + (if pn m = 0 then 0 else (ms m).toInt) := rfl
          rw [hmk, if_pos cp] at e2
          rw [hmk] at r4 ⊢
          rw [e2] at r4
          omega
        · rw [if_neg e]; exact r4
  · refine ⟨-2000000002, nI n, ms, es, vs, ps, pn, hs, hB, sts, d, was, acs, ?_, ?_, R0, H⟩
    · rw [if_neg cp, if_pos o1]
    · rw [if_pos cp]
      exact e_b31_0 hn d41 n 0 N (by omega) (by omega)

/-! along the parents -/
theorem e_sum {n c : Nat} {ps row d : Nat → Int32} (hn : n ≤ 8) (hc : c ≤ 74) (dp : ∀ i, i < 8 → d (66 + i) = ps i) (dr : ∀ i, i < 8 → d (c + i) = row i) (hp : ∀ i, i < n → -1 ≤ (ps i).toInt ∧ (ps i).toInt < (i : Int)) : ∀ (a : Nat), a < n → ∀ (i k1 k2 : Nat) (x : Int32), i + a ≤ 7 → a + 1 < k1 → a + 1 < k2 →
    ∃ r : Int32, f_X6_sumToStandard_b8 8 (nI n) ps row k1 x (nI a) (nI i) = some r ∧ f_X8_chained_b5 d (nI c) k2 x (nI a) = some r := by
  intro a
  induction a using Nat.strongRecOn with
  | ind a ih =>
    intro ha i k1 k2 x hi h1 h2
    obtain ⟨k1, rfl⟩ : ∃ k', k1 = k' + 1 := ⟨k1 - 1, by omega⟩
    obtain ⟨k2, rfl⟩ : ∃ k', k2 = k' + 1 := ⟨k2 - 1, by omega⟩
    have hpa := hp a ha
    have hhas : f_X6_has (nI n) (nI a) = some 1 := by unfold f_X6_has; rw [if_neg (nI_pos (by omega)), if_neg (nI_ge ha (by omega))]
    have c1 : f_X6_sumToStandard_b8 8 (nI n) ps row (k1 + 1) x (nI a) (nI i) = f_X6_sumToStandard_b8 8 (nI n) ps row k1 (x + row a) (ps a) (nI (i + 1)) := by
      rw [f_X6_sumToStandard_b8, if_neg (show ¬ (8 : Int32) ≤ nI i from nI_ge (b := 8) (by omega) (by omega)), hhas, ob_s, if_neg o1, oN, if_neg (nI_ge (by omega) (by omega)), gA_i _ (by omega) (by omega), cl_i (by omega), nm_s, gA_i _ (by omega) (by omega), nm_s, nm_s, p_1]
    have c2 : f_X8_chained_b5 d (nI c) (k2 + 1) x (nI a) = f_X8_chained_b5 d (nI c) k2 (x + row a) (ps a) := by
      rw [f_X8_chained_b5, if_neg (nI_pos (by omega)), if_pos (nI_pos' (by omega)), nI_add, gA_i _ (by omega) (by omega), cl_i (by omega), dr a (by omega), nm_s, k_66, gA_i _ (by omega) (by omega), cl_i (by omega), dp a (by omega), nm_s]
    rw [c1, c2]
    by_cases e : (ps a).toInt = -1
    · have ea : ps a = -1 := t_eq.mpr (by rw [e, t_m1])
      obtain ⟨k1, rfl⟩ : ∃ k', k1 = k' + 1 := ⟨k1 - 1, by omega⟩
      obtain ⟨k2, rfl⟩ : ∃ k', k2 = k' + 1 := ⟨k2 - 1, by omega⟩
      refine ⟨x + row a, ?_, ?_⟩
      · rw [ea, f_X6_sumToStandard_b8]
        by_cases e8 : (8 : Int32) ≤ nI (i + 1)
        · rw [if_pos e8]
        · rw [if_neg e8, show f_X6_has (nI n) (-1) = some 0 from by unfold f_X6_has; rw [if_pos (by decide)], ob_s, if_pos o3]
      · rw [ea, f_X8_chained_b5, if_pos (by decide)]
    · obtain ⟨b, eb⟩ : ∃ b : Nat, (ps a).toInt = (b : Int) := ⟨(ps a).toInt.toNat, by omega⟩
      rw [nI_of_t eb]
      exact ih b (by omega) (by omega) (i + 1) k1 k2 _ (by omega) (by omega) (by omega)
theorem e_dep {n : Nat} {ps d : Nat → Int32} (hn : n ≤ 8) (dp : ∀ i, i < 8 → d (66 + i) = ps i) (hp : ∀ i, i < n → -1 ≤ (ps i).toInt ∧ (ps i).toInt < (i : Int)) : ∀ (a : Nat), a < n → ∀ (i k1 k2 : Nat) (x : Int32), i + a ≤ 7 → a + 1 < k1 → a + 1 < k2 →
    ∃ r : Int32, f_X6_depth_b7 (nI n) ps k1 x (nI a) (nI i) = some r ∧ f_X8_chained_b5 d (-1) k2 x (nI a) = some r := by
  intro a
  induction a using Nat.strongRecOn with
  | ind a ih =>
    intro ha i k1 k2 x hi h1 h2
    obtain ⟨k1, rfl⟩ : ∃ k', k1 = k' + 1 := ⟨k1 - 1, by omega⟩
    obtain ⟨k2, rfl⟩ : ∃ k', k2 = k' + 1 := ⟨k2 - 1, by omega⟩
    have hpa := hp a ha
    have hhas : f_X6_has (nI n) (nI a) = some 1 := by unfold f_X6_has; rw [if_neg (nI_pos (by omega)), if_neg (nI_ge ha (by omega))]
    have c1 : f_X6_depth_b7 (nI n) ps (k1 + 1) x (nI a) (nI i) = f_X6_depth_b7 (nI n) ps k1 (x + 1) (ps a) (nI (i + 1)) := by
      rw [f_X6_depth_b7, if_neg (show ¬ (8 : Int32) ≤ nI i from nI_ge (b := 8) (by omega) (by omega)), hhas, ob_s, if_neg o1, nm_s, gA_i _ (by omega) (by omega), cl_i (by omega), nm_s, nm_s, p_1]
    have c2 : f_X8_chained_b5 d (-1) (k2 + 1) x (nI a) = f_X8_chained_b5 d (-1) k2 (x + 1) (ps a) := by
      rw [f_X8_chained_b5, if_neg (nI_pos (by omega)), if_neg (by decide), nm_s, k_66, gA_i _ (by omega) (by omega), cl_i (by omega), dp a (by omega), nm_s]
    rw [c1, c2]
    by_cases e : (ps a).toInt = -1
    · have ea : ps a = -1 := t_eq.mpr (by rw [e, t_m1])
      obtain ⟨k1, rfl⟩ : ∃ k', k1 = k' + 1 := ⟨k1 - 1, by omega⟩
      obtain ⟨k2, rfl⟩ : ∃ k', k2 = k' + 1 := ⟨k2 - 1, by omega⟩
      refine ⟨x + 1, ?_, ?_⟩
      · rw [ea, f_X6_depth_b7]
        by_cases e8 : (8 : Int32) ≤ nI (i + 1)
        · rw [if_pos e8]
        · rw [if_neg e8, show f_X6_has (nI n) (-1) = some 0 from by unfold f_X6_has; rw [if_pos (by decide)], ob_s, if_pos o3]
      · rw [ea, f_X8_chained_b5, if_pos (by decide)]
    · obtain ⟨b, eb⟩ : ∃ b : Nat, (ps a).toInt = (b : Int) := ⟨(ps a).toInt.toNat, by omega⟩
      rw [nI_of_t eb]
      exact ih b (by omega) (by omega) (i + 1) k1 k2 _ (by omega) (by omega) (by omega)
theorem e_trc1 {n : Nat} {p : Int32} {ps d : Nat → Int32} (hn : n ≤ 8) (dp : ∀ i, i < 8 → d (66 + i) = ps i) (hp : ∀ i, i < n → -1 ≤ (ps i).toInt ∧ (ps i).toInt < (i : Int)) : ∀ (a : Nat), a < n → ∀ (k2 : Nat), a + 1 < k2 → f_X8_isTraced_b5 d p k2 1 (nI a) = some 1 := by
  intro a
  induction a using Nat.strongRecOn with
  | ind a ih =>
    intro ha k2 h2
    obtain ⟨k2, rfl⟩ : ∃ k', k2 = k' + 1 := ⟨k2 - 1, by omega⟩
    have hpa := hp a ha
    rw [f_X8_isTraced_b5, if_neg (nI_pos (by omega)), if_pos o1, k_66, gA_i _ (by omega) (by omega), cl_i (by omega), dp a (by omega), nm_s]
    by_cases e : (ps a).toInt = -1
    · have ea : ps a = -1 := t_eq.mpr (by rw [e, t_m1])
      obtain ⟨k2, rfl⟩ : ∃ k', k2 = k' + 1 := ⟨k2 - 1, by omega⟩
      rw [ea, f_X8_isTraced_b5, if_pos (by decide), gT_t _ (Or.inr rfl)]
    · obtain ⟨b, eb⟩ : ∃ b : Nat, (ps a).toInt = (b : Int) := ⟨(ps a).toInt.toNat, by omega⟩
      rw [nI_of_t eb]
      exact ih b (by omega) (by omega) k2 (by omega)
theorem e_trc {n : Nat} {p : Int32} {ps d : Nat → Int32} (hn : n ≤ 8) (dp : ∀ i, i < 8 → d (66 + i) = ps i) (hp : ∀ i, i < n → -1 ≤ (ps i).toInt ∧ (ps i).toInt < (i : Int)) : ∀ (a : Nat), a < n → ∀ (i k1 k2 : Nat), i + a ≤ 7 → a + 1 < k1 → a + 1 < k2 →
    ∃ r : Int32, f_X6_isTracedTo_b5 (nI n) ps p k1 (nI a) (nI i) = some r ∧ f_X8_isTraced_b5 d p k2 0 (nI a) = some r := by
  intro a
  induction a using Nat.strongRecOn with
  | ind a ih =>
    intro ha i k1 k2 hi h1 h2
    obtain ⟨k1, rfl⟩ : ∃ k', k1 = k' + 1 := ⟨k1 - 1, by omega⟩
    obtain ⟨k2, rfl⟩ : ∃ k', k2 = k' + 1 := ⟨k2 - 1, by omega⟩
    have hpa := hp a ha
    have hhas : f_X6_has (nI n) (nI a) = some 1 := by unfold f_X6_has; rw [if_neg (nI_pos (by omega)), if_neg (nI_ge ha (by omega))]
    rw [f_X6_isTracedTo_b5, if_neg (show ¬ (8 : Int32) ≤ nI i from nI_ge (b := 8) (by omega) (by omega)), hhas, ob_s, if_neg o1, f_X8_isTraced_b5, if_neg (nI_pos (by omega)), if_neg o2]
    by_cases et : nI a = p
    · rw [if_neg (fun q => q et), if_neg (fun q => q et), k_66, gA_i _ (by omega) (by omega), cl_i (by omega), dp a (by omega), nm_s]
      refine ⟨1, rfl, ?_⟩
      by_cases e : (ps a).toInt = -1
      · have ea : ps a = -1 := t_eq.mpr (by rw [e, t_m1])
        obtain ⟨k2, rfl⟩ : ∃ k', k2 = k' + 1 := ⟨k2 - 1, by omega⟩
        rw [ea, f_X8_isTraced_b5, if_pos (by decide), gT_t _ (Or.inr rfl)]
      · obtain ⟨b, eb⟩ : ∃ b : Nat, (ps a).toInt = (b : Int) := ⟨(ps a).toInt.toNat, by omega⟩
        rw [nI_of_t eb]
        exact e_trc1 hn dp hp b (by omega) k2 (by omega)
    · rw [if_pos et, if_pos et, k_66, gA_i _ (by omega) (by omega), gA_i _ (by omega) (by omega), cl_i (by omega), cl_i (by omega), dp a (by omega), nm_s, nm_s, nm_s, p_1]
      by_cases e : (ps a).toInt = -1
      · have ea : ps a = -1 := t_eq.mpr (by rw [e, t_m1])
        obtain ⟨k1, rfl⟩ : ∃ k', k1 = k' + 1 := ⟨k1 - 1, by omega⟩
        obtain ⟨k2, rfl⟩ : ∃ k', k2 = k' + 1 := ⟨k2 - 1, by omega⟩
        refine ⟨0, ?_, ?_⟩
        · rw [ea, f_X6_isTracedTo_b5]
          by_cases e8 : (8 : Int32) ≤ nI (i + 1)
          · rw [if_pos e8]
          · rw [if_neg e8, show f_X6_has (nI n) (-1) = some 0 from by unfold f_X6_has; rw [if_pos (by decide)], ob_s, if_pos o3]
        · rw [ea, f_X8_isTraced_b5, if_pos (by decide), gT_t _ (Or.inl rfl)]
      · obtain ⟨b, eb⟩ : ∃ b : Nat, (ps a).toInt = (b : Int) := ⟨(ps a).toInt.toNat, by omega⟩
        rw [nI_of_t eb]
        exact ih b (by omega) (by omega) (i + 1) k1 k2 (by omega) (by omega) (by omega)
theorem e_num {N n : Nat} {p : Int32} {ps d : Nat → Int32} (hN : 3000 ≤ N) (hn : n ≤ 8) (d41 : d 41 = nI n) (dp : ∀ i, i < 8 → d (66 + i) = ps i) (hp : ∀ i, i < n → -1 ≤ (ps i).toInt ∧ (ps i).toInt < (i : Int)) : ∀ (j i k1 k2 : Nat) (x : Int32), i + j = n → j < k1 → j < k2 →
    ∃ r : Int32, f_X6_numberTracedTo_b4 N (nI n) ps p k1 x (nI i) = some r ∧ f_X8_weight_b80 N d p k2 x (nI i) = some r := by
  intro j
  induction j with
  | zero =>
    intro i k1 k2 x hi h1 h2
    obtain ⟨k1, rfl⟩ : ∃ k', k1 = k' + 1 := ⟨k1 - 1, by omega⟩
    obtain ⟨k2, rfl⟩ : ∃ k', k2 = k' + 1 := ⟨k2 - 1, by omega⟩
    refine ⟨x, ?_, ?_⟩
    · rw [f_X6_numberTracedTo_b4, if_pos (nI_le (by omega) (by omega))]
    · rw [f_X8_weight_b80, d41, if_pos (nI_le (by omega) (by omega))]
  | succ j ih =>
    intro i k1 k2 x hi h1 h2
    obtain ⟨k1, rfl⟩ : ∃ k', k1 = k' + 1 := ⟨k1 - 1, by omega⟩
    obtain ⟨k2, rfl⟩ : ∃ k', k2 = k' + 1 := ⟨k2 - 1, by omega⟩
    obtain ⟨t, t1, t2⟩ := e_trc (p := p) hn dp hp i (by omega) 0 N N (by omega) (by omega) (by omega)
    have t1 : f_X6_isTracedTo N (nI n) ps (nI i) p = some t := t1
    have t2 : f_X8_isTraced N d (nI i) p = some t := t2
    rw [f_X6_numberTracedTo_b4, if_neg (nI_ge (by omega) (by omega)), t1, ob_s, f_X8_weight_b80, d41, if_neg (nI_ge (by omega) (by omega)), t2, ob_s]
    by_cases c : t = 0
    · rw [if_pos c, if_pos c, nm_s, nm_s, nm_s, p_1, Int32.add_zero]
      exact ih (i + 1) k1 k2 x (by omega) (by omega) (by omega)
    · rw [if_neg c, if_neg c, nm_s, nm_s, nm_s, nm_s, p_1]
      exact ih (i + 1) k1 k2 (x + 1) (by omega) (by omega) (by omega)

theorem s_weight {N : Nat} {L : Int32} {E : Int32} {C : Int32} {P : Int32} {W : Int32} {A : Int64} {dz : Int32} {rt : Int32} {st : Int32} {z : Int32} {T : Nat → Int32} {X : Nat → Int32} {zc : Int32} {fc : Nat → Int32} {sc : Nat → Int32} {zk : Int32} {fk : Nat → Int32} {sk : Nat → Int32} {zw : Int32} {ms : Nat → Int32} {es : Nat → Int32} {vs : Nat → Int32} {ps : Nat → Int32} {pn : Nat → Int32} {hs : Int32} {hB : Nat → BS} {sts : Int32} {d : Nat → Int32} {was : Nat → Int32} {ac : Int64} {acs : Nat → Int64} {p0 : Int32} {p1 : Int32} (hN : 20000 ≤ N) (R : RB24 L E C P W A dz rt st z T X zc fc sc zk fk sk zw ms es vs ps pn d ac) (H : RH hs hB sts was acs) :
    ∃ (r : Int32), f_X7_weight N zw ms es vs ps pn p0 p1 = some r ∧ f_X8_weight N d p0 p1 = some r := by
  obtain ⟨hL, hT, hC, hK, hW⟩ := R
  obtain ⟨n, hn, ez, d41, a, b, c, f, g, r1, r2, r3, r4⟩ := hW
  subst ez
  unfold f_X7_weight f_X8_weight f_X8_isWeight
  rw [d41]
  rcases e6_has (n := n) (x := p0) hn with ⟨h1, h2⟩ | ⟨k, hk, ep, h1, h2⟩
  · exact ⟨-2000000001, by rw [h1, ob_s, if_pos o3], by rw [h2, ob_s, gT_t _ (Or.inl rfl), ob_s, if_pos o3]⟩
  subst ep
  rw [h1, ob_s, if_neg o1, h2, ob_s, gT_t _ (Or.inr rfl), ob_s, if_neg o1]
  by_cases c1 : p1 < 0 ∨ 8 < p1
  · exact ⟨-2000000001, by rw [e_out, if_pos c1, ob_s, if_neg o1], by rw [e_in, if_pos c1, ob_s, if_neg o2]⟩
  obtain ⟨x0, x1⟩ := out_n c1
  rw [t_0] at x0; rw [show (8 : Int32).toInt = 8 from by decide] at x1
  rw [e_out, if_neg c1, ob_s, if_pos o3, e_in, if_neg c1, ob_s, if_pos o1]
  unfold f_X6_property
  rw [h1, ob_s, if_pos o1]
  obtain ⟨q5, q5a, q5b⟩ := e_sum (c := 50) hn (by omega) f b r3 k hk 0 N N 0 (by omega) (by omega) (by omega)
  obtain ⟨q6, q6a, q6b⟩ := e_sum (c := 58) hn (by omega) f c r3 k hk 0 N N 0 (by omega) (by omega) (by omega)
  obtain ⟨q7, q7a, q7b⟩ := e_dep hn f r3 k hk 0 N N 0 (by omega) (by omega) (by omega)
  obtain ⟨q8, q8a, q8b⟩ := e_num (N := N) (p := nI k) (by omega) hn d41 f r3 n 0 N N 0 (by omega) (by omega) (by omega)
  have q5a : f_X6_sumToStandard N 8 (nI n) ps es (nI k) = some q5 := q5a
  have q5b : f_X8_chained N d (nI k) 50 = some q5 := q5b
  have q6a : f_X6_sumToStandard N 8 (nI n) ps vs (nI k) = some q6 := q6a
  have q6b : f_X8_chained N d (nI k) 58 = some q6 := q6b
  have q7a : f_X6_depth N (nI n) ps (nI k) = some q7 := q7a
  have q7b : f_X8_chained N d (nI k) (-1) = some q7 := q7b
  have q8a : f_X6_numberTracedTo N (nI n) ps (nI k) = some q8 := q8a
  have q8b : f_X8_weight_b80 N d (nI k) N 0 0 = some q8 := q8b
  by_cases h_0 : p1 = 0
  · refine ⟨ms k, by rw [if_pos h_0, gA_i _ (by omega) (by omega), cl_i (by omega), ob_s], ?_⟩
    rw [if_neg (by rw [h_0]; decide), h_0, show (42 : Int32) + 8 * 0 = nI 42 from rfl, nI_add, gA_i _ (by omega) (by omega), cl_i (by omega), a k (by omega)]
  by_cases h_1 : p1 = 1
  · refine ⟨es k, by rw [if_neg h_0, if_pos h_1, gA_i _ (by omega) (by omega), cl_i (by omega), ob_s], ?_⟩
    rw [if_neg (by rw [h_1]; decide), h_1, show (42 : Int32) + 8 * 1 = nI 50 from rfl, nI_add, gA_i _ (by omega) (by omega), cl_i (by omega), b k (by omega)]
  by_cases h_2 : p1 = 2
  · refine ⟨vs k, by rw [if_neg h_0, if_neg h_1, if_pos h_2, gA_i _ (by omega) (by omega), cl_i (by omega), ob_s], ?_⟩
    rw [if_neg (by rw [h_2]; decide), h_2, show (42 : Int32) + 8 * 2 = nI 58 from rfl, nI_add, gA_i _ (by omega) (by omega), cl_i (by omega), c k (by omega)]
  by_cases h_3 : p1 = 3
  · refine ⟨ps k, by rw [if_neg h_0, if_neg h_1, if_neg h_2, if_pos h_3, gA_i _ (by omega) (by omega), cl_i (by omega), ob_s], ?_⟩
    rw [if_neg (by rw [h_3]; decide), h_3, show (42 : Int32) + 8 * 3 = nI 66 from rfl, nI_add, gA_i _ (by omega) (by omega), cl_i (by omega), f k (by omega)]
  by_cases h_4 : p1 = 4
  · refine ⟨pn k, by rw [if_neg h_0, if_neg h_1, if_neg h_2, if_neg h_3, if_pos h_4, gA_i _ (by omega) (by omega), cl_i (by omega), ob_s], ?_⟩
    rw [if_neg (by rw [h_4]; decide), h_4, show (42 : Int32) + 8 * 4 = nI 74 from rfl, nI_add, gA_i _ (by omega) (by omega), cl_i (by omega), g k (by omega)]
  by_cases h_5 : p1 = 5
  · refine ⟨q5, by rw [if_neg h_0, if_neg h_1, if_neg h_2, if_neg h_3, if_neg h_4, if_pos h_5, q5a, ob_s, ob_s], ?_⟩
    rw [if_pos (by rw [h_5]; decide), if_neg (by rw [h_5]; decide), if_neg (fun e => e h_5), q5b, ob_s]
  by_cases h_6 : p1 = 6
  · have f6 : f_X6_totalVariance N (nI n) vs ps (nI k) = some q6 := by unfold f_X6_totalVariance; rw [q6a, ob_s]
    refine ⟨q6, by rw [if_neg h_0, if_neg h_1, if_neg h_2, if_neg h_3, if_neg h_4, if_neg h_5, if_pos h_6, f6, ob_s, ob_s], ?_⟩
    rw [if_pos (by rw [h_6]; decide), if_neg (by rw [h_6]; decide), if_pos h_5, if_neg (fun e => e h_6), q6b, ob_s]
  by_cases h_7 : p1 = 7
  · refine ⟨q7, by rw [if_neg h_0, if_neg h_1, if_neg h_2, if_neg h_3, if_neg h_4, if_neg h_5, if_neg h_6, if_pos h_7, q7a, ob_s, ob_s], ?_⟩
    rw [if_pos (by rw [h_7]; decide), if_neg (by rw [h_7]; decide), if_pos h_5, if_pos h_6, q7b, ob_s]
  have e8 : p1 = 8 := by
    have n0 : ∀ j : Nat, j < 8 → p1.toInt ≠ (j : Int) := fun j hj q => by
      have e := nI_of_t q
      rcases (show j = 0 ∨ j = 1 ∨ j = 2 ∨ j = 3 ∨ j = 4 ∨ j = 5 ∨ j = 6 ∨ j = 7 by omega) with rfl | rfl | rfl | rfl | rfl | rfl | rfl | rfl
      · exact h_0 e
      · exact h_1 e
      · exact h_2 e
      · exact h_3 e
      · exact h_4 e
      · exact h_5 e
      · exact h_6 e
      · exact h_7 e
    have a0 := n0 0 (by omega)
    have a1 := n0 1 (by omega)
    have a2 := n0 2 (by omega)
    have a3 := n0 3 (by omega)
    have a4 := n0 4 (by omega)
    have a5 := n0 5 (by omega)
    have a6 := n0 6 (by omega)
    have a7 := n0 7 (by omega)
    exact nI_of_t (n := 8) (by omega)
  exact ⟨q8, by rw [if_neg h_0, if_neg h_1, if_neg h_2, if_neg h_3, if_neg h_4, if_neg h_5, if_neg h_6, if_neg h_7, q8a, ob_s, ob_s], by rw [if_pos (by rw [e8]; decide), if_pos (by rw [e8]; decide), q8b]⟩

