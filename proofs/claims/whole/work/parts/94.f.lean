/-! pure part F: calls on loads and readings -/
theorem o1 : ¬ (1 : Int32) = 0 := by decide
theorem o2 : ¬ ¬ (0 : Int32) = 0 := fun h => h rfl
theorem o3 : (0 : Int32) = 0 := rfl
theorem out_n {x a b : Int32} (h : ¬ (x < a ∨ b < x)) : a.toInt ≤ x.toInt ∧ x.toInt ≤ b.toInt := by
  refine ⟨?_, ?_⟩
  · have : ¬ x < a := fun e => h (Or.inl e)
    rw [t_lt] at this; omega
  · have : ¬ b < x := fun e => h (Or.inr e)
    rw [t_lt] at this; omega
theorem er_0 : f_X7_errorOf 0 = some 0 := by unfold f_X7_errorOf; rw [if_neg o2]
theorem er_1 : f_X7_errorOf 1 = some (-2000000001) := by unfold f_X7_errorOf; rw [if_pos o1, if_neg (fun e => e rfl)]
theorem er_n {r : Int32} (h : r = 2 ∨ r = 3 ∨ r = 4 ∨ r = 5) : f_X7_errorOf r = some (-2000000002) := by
  unfold f_X7_errorOf
  rcases h with rfl | rfl | rfl | rfl <;> rw [if_pos (by decide), if_pos (by decide)]
/-- the load goes to x, behind it all but the loads' places is kept -/
theorem gox {N : Nat} {L E C P W dz rt st z zc zk zw x : Int32} {A ac : Int64} {T X fc sc fk sk ms es vs ps pn d : Nat → Int32} (hN : 20000 ≤ N) (R : RB24 L E C P W A dz rt st z T X zc fc sc zk fk sk zw ms es vs ps pn d ac) (x0 : 0 ≤ x.toInt) (x1 : x.toInt ≤ 1000)
    (hs : ∀ n : Nat, zw = nI n → n ≤ 8 → smZ ms pn n ≤ L.toInt → smZ ms pn n ≤ x.toInt) :
    ∃ (E' P' W' z' : Int32) (A' : Int64) (T' X' d' : Nat → Int32), f_X3_changeLoad N 1001 8 L E C P W A dz z T X zc fc sc x = some (x, E', P', W', A', z', T', X') ∧ f_X8_goes N ac d x = some (A', d') ∧
      RB24 x E' C P' W' A' dz rt st z' T' X' zc fc sc zk fk sk zw ms es vs ps pn d' A' ∧ d' 3 = P' := by
  obtain ⟨hL, hT, hC, hK, hW⟩ := R
  obtain ⟨E', P', W', z', A', T', X', d', q1, q2, q3, q4, q5⟩ := chg (N := N) (x := x) (by omega) hL hT hC x0 x1
  exact ⟨E', P', W', z', A', T', X', d', q1, q2, ⟨q3, q4, RC_keep hC (fun k h1 h2 => q5 k h1 (by omega)), RK_keep hK (fun k h1 h2 => q5 k (by omega) (by omega)), RW_load (RW_keep hW (fun k h1 h2 => q5 k (by omega) h2)) hs⟩, q3.2.2.2.1⟩
theorem spr_keep {L E C P W dz rt st z zc zk : Int32} {A ac : Int64} {T X fc sc fk sk d d' : Nat → Int32} (hL : RLo L E C P W dz rt st A d ac) (hT : RT L W z T X d) (hC : RC zc fc sc d) (hK : RK zk fk sk d) (h : ∀ k, k < 41 ∨ 82 ≤ k → d' k = d k) :
    RLo L E C P W dz rt st A d' ac ∧ RT L W z T X d' ∧ RC zc fc sc d' ∧ RK zk fk sk d' := by
  refine ⟨?_, RT_keep hT (h 5 (by omega)) (fun k hk => h k (by omega)), RC_keep hC (fun k h1 h2 => h k (by omega)), RK_keep hK (fun k h1 h2 => h k (by omega))⟩
  obtain ⟨d0, d1, d2, d3, d4, d6, d7, d8, r⟩ := hL
  exact ⟨by rw [h 0 (by omega), d0], by rw [h 1 (by omega), d1], by rw [h 2 (by omega), d2], by rw [h 3 (by omega), d3], by rw [h 4 (by omega), d4], by rw [h 6 (by omega), d6], by rw [h 7 (by omega), d7], by rw [h 8 (by omega), d8], r⟩
theorem RW_set {n i : Nat} {L L' z v : Int32} {ms es vs ps pn d : Nat → Int32} (R : RW L z ms es vs ps pn d) (ez : z = nI n) (hn : n ≤ 8) (hi : i < n) (hv : v = 0 ∨ v = 1)
    (hl : smZ ms pn n ≤ L.toInt → smZ ms (upd pn i v) n ≤ L'.toInt) : RW L' z ms es vs ps (upd pn i v) (upd d (74 + i) v) := by
  obtain ⟨m, h1, e, d41, a, b, c, f, g, r1, r2, r3, r4⟩ := R
  have hm : m = n := (nI_eq (by omega) (by omega)).mp (e.symm.trans ez)
  subst hm
  refine ⟨m, h1, e, by rw [un (by omega), d41], fun k hk => by rw [un (by omega), a k hk], fun k hk => by rw [un (by omega), b k hk], fun k hk => by rw [un (by omega), c k hk], fun k hk => by rw [un (by omega), f k hk], fun k hk => ?_, r1, fun k hk => ?_, r3, hl r4⟩
  · by_cases q : k = i
    · rw [q, us, us]
    · rw [un (by omega), un q, g k hk]
  · by_cases q : k = i
    · rw [q, us]; exact hv
    · rw [un q]; exact r2 k hk
theorem RT_L {L W z : Int32} {T X d : Nat → Int32} (hT : RT L W z T X d) : 0 ≤ L.toInt ∧ L.toInt ≤ 1000 := by obtain ⟨_, _, _, _, _, _, _, l0, l1, _⟩ := hT; exact ⟨l0, l1⟩
theorem RW_m {n i : Nat} {L z : Int32} {ms es vs ps pn d : Nat → Int32} (R : RW L z ms es vs ps pn d) (ez : z = nI n) (hn : n ≤ 8) (hi : i < n) : d 41 = nI n ∧ d (42 + i) = ms i ∧ d (74 + i) = pn i ∧ 1 ≤ (ms i).toInt ∧ (ms i).toInt ≤ 500 ∧ (∀ j, j < n → 1 ≤ (ms j).toInt ∧ (ms j).toInt ≤ 500) ∧ smZ ms pn n ≤ L.toInt := by
  obtain ⟨m, h1, e, d41, a, b, c, f, g, r1, r2, r3, r4⟩ := R
  have hm : m = n := (nI_eq (by omega) (by omega)).mp (e.symm.trans ez)
  subst hm
  exact ⟨d41, a i (by omega), g i (by omega), (r1 i hi).1, (r1 i hi).2, r1, r4⟩
/-- a weight is put on -/
theorem mvP {N n i : Nat} {L E C P W dz rt st z zc zk zw : Int32} {A ac : Int64} {T X fc sc fk sk ms es vs ps pn d : Nat → Int32} (hN : 20000 ≤ N) (R : RB24 L E C P W A dz rt st z T X zc fc sc zk fk sk zw ms es vs ps pn d ac) (hn : n ≤ 8) (ez : zw = nI n) (hi : i < n) (h0 : pn i = 0) (hl : L + ms i ≤ 1000) :
    ∃ (L' E' P' W' z' : Int32) (A' : Int64) (T' X' pn' d' : Nat → Int32), f_X0_putOn N 1001 8 L E C P W A dz z T X zc fc sc zw ms pn (nI i) = some (L', E', P', W', A', z', T', X', pn') ∧ f_X8_moves N ac d (nI i) 1 = some (A', d') ∧
      RB24 L' E' C P' W' A' dz rt st z' T' X' zc fc sc zk fk sk zw ms es vs ps pn' d' A' ∧ d' 3 = P' := by
  obtain ⟨hL, hT, hC, hK, hW⟩ := R
  obtain ⟨d41, dm, dp, m0, m1, mm, sL⟩ := RW_m hW ez hn hi
  have hL0 := RT_L hT
  have el : (L + ms i).toInt = L.toInt + (ms i).toInt := t_add (by omega) (by omega)
  rw [t_le, el, t_1000] at hl
  obtain ⟨gL, gT, gC, gK⟩ := spr_keep (d' := upd d (74 + i) 1) hL hT hC hK (fun k hk => un (by omega))
  obtain ⟨E', P', W', z', A', T', X', d', q1, q2, q3, q4, q5⟩ := chg (N := N) (x := L + ms i) (by omega) gL gT gC (by omega) (by omega)
  have d0 : d 0 = L := hL.1
  refine ⟨L + ms i, E', P', W', z', A', T', X', upd pn i 1, d', ?_, ?_, ⟨q3, q4, RC_keep gC (fun k h1 h2 => q5 k h1 (by omega)), RK_keep gK (fun k h1 h2 => q5 k (by omega) (by omega)), RW_keep (RW_set (L' := L + ms i) hW ez hn hi (Or.inr rfl) (fun _ => ?_)) (fun k h1 h2 => q5 k (by omega) h2)⟩, q3.2.2.2.1⟩
  · unfold f_X0_putOn
    rw [ez, e6_lay hn hi, ob_s, e6_mass hn hi, ob_s, q1, ob_s]
  · unfold f_X8_moves f_X8_moves_b17
    rw [if_neg o1, k_74, gA_i _ (by omega) (by omega), cl_i (by omega), nm_s, if_neg o1, k_42, gA_i _ (by omega) (by omega), cl_i (by omega), un (show 0 ≠ 74 + i by omega), un (show 42 + i ≠ 74 + i by omega), d0, dm, q2, ob_s]
  · rw [smZ_upd, if_pos hi, if_pos h0, if_neg o1, el]
    omega
/-- a weight is taken away -/
theorem mvT {N n i : Nat} {L E C P W dz rt st z zc zk zw : Int32} {A ac : Int64} {T X fc sc fk sk ms es vs ps pn d : Nat → Int32} (hN : 20000 ≤ N) (R : RB24 L E C P W A dz rt st z T X zc fc sc zk fk sk zw ms es vs ps pn d ac) (hn : n ≤ 8) (ez : zw = nI n) (hi : i < n) (h0 : pn i = 1) :
    ∃ (L' E' P' W' z' : Int32) (A' : Int64) (T' X' pn' d' : Nat → Int32), f_X0_takeOff N 1001 8 L E C P W A dz z T X zc fc sc zw ms pn (nI i) = some (L', E', P', W', A', z', T', X', pn') ∧ f_X8_moves N ac d (nI i) 0 = some (A', d') ∧
      RB24 L' E' C P' W' A' dz rt st z' T' X' zc fc sc zk fk sk zw ms es vs ps pn' d' A' ∧ d' 3 = P' := by
  obtain ⟨hL, hT, hC, hK, hW⟩ := R
  obtain ⟨d41, dm, dp, m0, m1, mm, sL⟩ := RW_m hW ez hn hi
  have hL0 := RT_L hT
  have hge := smZ_ge (p := pn) n mm hi (by rw [h0]; exact o1)
  have el : (L - ms i).toInt = L.toInt - (ms i).toInt := t_sub (by omega) (by omega)
  obtain ⟨gL, gT, gC, gK⟩ := spr_keep (d' := upd d (74 + i) 0) hL hT hC hK (fun k hk => un (by omega))
  obtain ⟨E', P', W', z', A', T', X', d', q1, q2, q3, q4, q5⟩ := chg (N := N) (x := L - ms i) (by omega) gL gT gC (by omega) (by omega)
  have d0 : d 0 = L := hL.1
  refine ⟨L - ms i, E', P', W', z', A', T', X', upd pn i 0, d', ?_, ?_, ⟨q3, q4, RC_keep gC (fun k h1 h2 => q5 k h1 (by omega)), RK_keep gK (fun k h1 h2 => q5 k (by omega) (by omega)), RW_keep (RW_set (L' := L - ms i) hW ez hn hi (Or.inl rfl) (fun _ => ?_)) (fun k h1 h2 => q5 k (by omega) h2)⟩, q3.2.2.2.1⟩
  · unfold f_X0_takeOff
    rw [ez, e6_lay hn hi, ob_s, e6_mass hn hi, ob_s, q1, ob_s]
  · unfold f_X8_moves f_X8_moves_b17
    rw [if_pos o3, k_74, gA_i _ (by omega) (by omega), cl_i (by omega), nm_s, if_pos o3, k_42, gA_i _ (by omega) (by omega), cl_i (by omega), un (show 0 ≠ 74 + i by omega), un (show 42 + i ≠ 74 + i by omega), d0, dm, q2, ob_s]
  · rw [smZ_upd, if_pos hi, if_neg (show ¬ pn i = 0 by rw [h0]; exact o1), if_pos o3, el]
    omega

theorem s_setLoad {N : Nat} {L : Int32} {E : Int32} {C : Int32} {P : Int32} {W : Int32} {A : Int64} {dz : Int32} {rt : Int32} {st : Int32} {z : Int32} {T : Nat → Int32} {X : Nat → Int32} {zc : Int32} {fc : Nat → Int32} {sc : Nat → Int32} {zk : Int32} {fk : Nat → Int32} {sk : Nat → Int32} {zw : Int32} {ms : Nat → Int32} {es : Nat → Int32} {vs : Nat → Int32} {ps : Nat → Int32} {pn : Nat → Int32} {hs : Int32} {hB : Nat → BS} {sts : Int32} {d : Nat → Int32} {was : Nat → Int32} {ac : Int64} {acs : Nat → Int64} {p0 : Int32} (hN : 20000 ≤ N) (R : RB24 L E C P W A dz rt st z T X zc fc sc zk fk sk zw ms es vs ps pn d ac) (H : RH hs hB sts was acs) :
    ∃ (r : Int32) (L' : Int32) (E' : Int32) (P' : Int32) (W' : Int32) (A' : Int64) (z' : Int32) (T' : Nat → Int32) (X' : Nat → Int32) (hs' : Int32) (hB' : Nat → BS) (ac' : Int64) (sts' : Int32) (d' : Nat → Int32) (was' : Nat → Int32) (acs' : Nat → Int64), f_X7_setLoad N L E C P W A dz rt st z T X zc fc sc zk fk sk zw ms es vs ps pn hs hB p0 = some (r, L', E', P', W', A', z', T', X', hs', hB') ∧ f_X8_setLoad N ac sts d was acs p0 = some (r, ac', sts', d', was', acs') ∧ RB24 L' E' C P' W' A' dz rt st z' T' X' zc fc sc zk fk sk zw ms es vs ps pn d' ac' ∧ RH hs' hB' sts' was' acs' := by
  by_cases c : p0 < 0 ∨ 1000 < p0
  · refine ⟨-2000000001, L, E, P, W, A, z, T, X, hs, hB, ac, sts, d, was, acs, ?_, ?_, R, H⟩
    · unfold f_X7_setLoad; rw [e_out, if_pos c, ob_s, if_neg o1]
    · unfold f_X8_setLoad; rw [e_in, if_pos c, ob_s, if_neg o2]
  · obtain ⟨x0, x1⟩ := out_n c
    rw [t_0] at x0; rw [t_1000] at x1
    obtain ⟨r, h1, h2, h3⟩ := pan (N := N) (by omega) R.2.2.2.2
    by_cases c2 : r ≤ p0
    · obtain ⟨u, w, g1, g2, g3⟩ := rcd hN R H
      obtain ⟨E', P', W', z', A', T', X', d', q1, q2, q3, q4⟩ := gox hN R x0 x1 (fun n ez hn hs => by rw [t_le] at c2; rw [← h3 n ez hn]; exact c2)
      obtain ⟨v, v1, v2⟩ := rdg (N := N) (by omega) q3.2.2.2.1 q4
      refine ⟨v, p0, E', P', W', A', z', T', X', u.2, u.1, A', w.1, d', w.2.1, w.2.2, ?_, ?_, q3, g3⟩
      · unfold f_X7_setLoad f_X0_refusalOfLoad
        rw [e_out, if_neg c, ob_s, if_pos o3, h1, ob_s, if_pos c2, ob_s, er_0, ob_s, if_pos o3, g1, ob_s, q1, ob_s, v1, ob_s]
      · unfold f_X8_setLoad
        rw [e_in, if_neg c, ob_s, if_pos o1, h2, ob_s, if_pos c2, g2, ob_s, q2, ob_s, v2, ob_s]
    · refine ⟨-2000000002, L, E, P, W, A, z, T, X, hs, hB, ac, sts, d, was, acs, ?_, ?_, R, H⟩
      · unfold f_X7_setLoad f_X0_refusalOfLoad
        rw [e_out, if_neg c, ob_s, if_pos o3, h1, ob_s, if_neg c2, ob_s, er_n (by decide), ob_s, if_neg (by decide)]
      · unfold f_X8_setLoad
        rw [e_in, if_neg c, ob_s, if_pos o1, h2, ob_s, if_neg c2]

theorem s_put {N : Nat} {L : Int32} {E : Int32} {C : Int32} {P : Int32} {W : Int32} {A : Int64} {dz : Int32} {rt : Int32} {st : Int32} {z : Int32} {T : Nat → Int32} {X : Nat → Int32} {zc : Int32} {fc : Nat → Int32} {sc : Nat → Int32} {zk : Int32} {fk : Nat → Int32} {sk : Nat → Int32} {zw : Int32} {ms : Nat → Int32} {es : Nat → Int32} {vs : Nat → Int32} {ps : Nat → Int32} {pn : Nat → Int32} {hs : Int32} {hB : Nat → BS} {sts : Int32} {d : Nat → Int32} {was : Nat → Int32} {ac : Int64} {acs : Nat → Int64} {p0 : Int32} (hN : 20000 ≤ N) (R : RB24 L E C P W A dz rt st z T X zc fc sc zk fk sk zw ms es vs ps pn d ac) (H : RH hs hB sts was acs) :
    ∃ (r : Int32) (L' : Int32) (E' : Int32) (P' : Int32) (W' : Int32) (A' : Int64) (z' : Int32) (T' : Nat → Int32) (X' : Nat → Int32) (pn' : Nat → Int32) (hs' : Int32) (hB' : Nat → BS) (ac' : Int64) (sts' : Int32) (d' : Nat → Int32) (was' : Nat → Int32) (acs' : Nat → Int64), f_X7_put N L E C P W A dz rt st z T X zc fc sc zk fk sk zw ms es vs ps pn hs hB p0 = some (r, L', E', P', W', A', z', T', X', pn', hs', hB') ∧ f_X8_put N ac sts d was acs p0 = some (r, ac', sts', d', was', acs') ∧ RB24 L' E' C P' W' A' dz rt st z' T' X' zc fc sc zk fk sk zw ms es vs ps pn' d' ac' ∧ RH hs' hB' sts' was' acs' := by
  obtain ⟨r, h1, h2, h3, h4⟩ := refP (x := p0) R.1.1 R.2.2.2.2
  by_cases c : r = 0
  · obtain ⟨n, i, hn, ez, hi, ep, e1, e2⟩ := h4 c
    subst ep
    subst c
    obtain ⟨u, w, g1, g2, g3⟩ := rcd hN R H
    obtain ⟨L', E', P', W', z', A', T', X', pn', d', q1, q2, q3, q4⟩ := mvP hN R hn ez hi e1 e2
    obtain ⟨v, v1, v2⟩ := rdg (N := N) (by omega) q3.2.2.2.1 q4
    refine ⟨v, L', E', P', W', A', z', T', X', pn', u.2, u.1, A', w.1, d', w.2.1, w.2.2, ?_, ?_, q3, g3⟩
    · unfold f_X7_put
      rw [h1, ob_s, er_0, ob_s, if_pos o3, g1, ob_s, q1, ob_s, v1, ob_s]
    · unfold f_X8_put f_X8_brings
      rw [h2, ob_s, if_pos (by decide), g2, ob_s, q2, ob_s, v2, ob_s, ob_s]
  · by_cases c1 : r = 1
    · subst c1
      refine ⟨-2000000001, L, E, P, W, A, z, T, X, pn, hs, hB, ac, sts, d, was, acs, ?_, ?_, R, H⟩
      · unfold f_X7_put
        rw [h1, ob_s, er_1, ob_s, if_neg (by decide)]
      · unfold f_X8_put f_X8_brings
        rw [h2, ob_s, if_neg (by decide), if_neg (by decide), ob_s]
    · have h5 : r = 2 ∨ r = 3 ∨ r = 4 ∨ r = 5 := by
        rcases h3 with h | h | h | h
        · exact absurd h c
        · exact absurd h c1
        · exact Or.inl h
        · exact Or.inr (Or.inl h)
      have h6 : ¬ r ≤ 0 := by rcases h5 with h | h | h | h <;> rw [h] <;> decide
      refine ⟨-2000000002, L, E, P, W, A, z, T, X, pn, hs, hB, ac, sts, d, was, acs, ?_, ?_, R, H⟩
      · unfold f_X7_put
        rw [h1, ob_s, er_n h5, ob_s, if_neg (by decide)]
      · unfold f_X8_put f_X8_brings
        rw [h2, ob_s, if_neg h6, if_pos c1, ob_s]

theorem s_take {N : Nat} {L : Int32} {E : Int32} {C : Int32} {P : Int32} {W : Int32} {A : Int64} {dz : Int32} {rt : Int32} {st : Int32} {z : Int32} {T : Nat → Int32} {X : Nat → Int32} {zc : Int32} {fc : Nat → Int32} {sc : Nat → Int32} {zk : Int32} {fk : Nat → Int32} {sk : Nat → Int32} {zw : Int32} {ms : Nat → Int32} {es : Nat → Int32} {vs : Nat → Int32} {ps : Nat → Int32} {pn : Nat → Int32} {hs : Int32} {hB : Nat → BS} {sts : Int32} {d : Nat → Int32} {was : Nat → Int32} {ac : Int64} {acs : Nat → Int64} {p0 : Int32} (hN : 20000 ≤ N) (R : RB24 L E C P W A dz rt st z T X zc fc sc zk fk sk zw ms es vs ps pn d ac) (H : RH hs hB sts was acs) :
    ∃ (r : Int32) (L' : Int32) (E' : Int32) (P' : Int32) (W' : Int32) (A' : Int64) (z' : Int32) (T' : Nat → Int32) (X' : Nat → Int32) (pn' : Nat → Int32) (hs' : Int32) (hB' : Nat → BS) (ac' : Int64) (sts' : Int32) (d' : Nat → Int32) (was' : Nat → Int32) (acs' : Nat → Int64), f_X7_take N L E C P W A dz rt st z T X zc fc sc zk fk sk zw ms es vs ps pn hs hB p0 = some (r, L', E', P', W', A', z', T', X', pn', hs', hB') ∧ f_X8_take N ac sts d was acs p0 = some (r, ac', sts', d', was', acs') ∧ RB24 L' E' C P' W' A' dz rt st z' T' X' zc fc sc zk fk sk zw ms es vs ps pn' d' ac' ∧ RH hs' hB' sts' was' acs' := by
  obtain ⟨r, h1, h2, h3, h4⟩ := refT (x := p0) R.1.1 R.2.2.2.2
  by_cases c : r = 0
  · obtain ⟨n, i, hn, ez, hi, ep, e1⟩ := h4 c
    subst ep
    subst c
    obtain ⟨u, w, g1, g2, g3⟩ := rcd hN R H
    obtain ⟨L', E', P', W', z', A', T', X', pn', d', q1, q2, q3, q4⟩ := mvT hN R hn ez hi e1
    obtain ⟨v, v1, v2⟩ := rdg (N := N) (by omega) q3.2.2.2.1 q4
    refine ⟨v, L', E', P', W', A', z', T', X', pn', u.2, u.1, A', w.1, d', w.2.1, w.2.2, ?_, ?_, q3, g3⟩
    · unfold f_X7_take
      rw [h1, ob_s, er_0, ob_s, if_pos o3, g1, ob_s, q1, ob_s, v1, ob_s]
    · unfold f_X8_take f_X8_brings
      rw [h2, ob_s, if_pos (by decide), g2, ob_s, q2, ob_s, v2, ob_s, ob_s]
  · by_cases c1 : r = 1
    · subst c1
      refine ⟨-2000000001, L, E, P, W, A, z, T, X, pn, hs, hB, ac, sts, d, was, acs, ?_, ?_, R, H⟩
      · unfold f_X7_take
        rw [h1, ob_s, er_1, ob_s, if_neg (by decide)]
      · unfold f_X8_take f_X8_brings
        rw [h2, ob_s, if_neg (by decide), if_neg (by decide), ob_s]
    · have h5 : r = 2 ∨ r = 3 ∨ r = 4 ∨ r = 5 := by
        rcases h3 with h | h | h
        · exact absurd h c
        · exact absurd h c1
        · exact Or.inl h
      have h6 : ¬ r ≤ 0 := by rcases h5 with h | h | h | h <;> rw [h] <;> decide
      refine ⟨-2000000002, L, E, P, W, A, z, T, X, pn, hs, hB, ac, sts, d, was, acs, ?_, ?_, R, H⟩
      · unfold f_X7_take
        rw [h1, ob_s, er_n h5, ob_s, if_neg (by decide)]
      · unfold f_X8_take f_X8_brings
        rw [h2, ob_s, if_neg h6, if_pos c1, ob_s]

theorem s_hours {N : Nat} {L : Int32} {E : Int32} {C : Int32} {P : Int32} {W : Int32} {A : Int64} {dz : Int32} {rt : Int32} {st : Int32} {z : Int32} {T : Nat → Int32} {X : Nat → Int32} {zc : Int32} {fc : Nat → Int32} {sc : Nat → Int32} {zk : Int32} {fk : Nat → Int32} {sk : Nat → Int32} {zw : Int32} {ms : Nat → Int32} {es : Nat → Int32} {vs : Nat → Int32} {ps : Nat → Int32} {pn : Nat → Int32} {hs : Int32} {hB : Nat → BS} {sts : Int32} {d : Nat → Int32} {was : Nat → Int32} {ac : Int64} {acs : Nat → Int64} {p0 : Int32} (hN : 20000 ≤ N) (R : RB24 L E C P W A dz rt st z T X zc fc sc zk fk sk zw ms es vs ps pn d ac) (H : RH hs hB sts was acs) :
    ∃ (r : Int32) (C' : Int32) (P' : Int32) (hs' : Int32) (hB' : Nat → BS) (sts' : Int32) (d' : Nat → Int32) (was' : Nat → Int32) (acs' : Nat → Int64), f_X7_hours N L E C P W A dz rt st z T X zc fc sc zk fk sk zw ms es vs ps pn hs hB p0 = some (r, C', P', hs', hB') ∧ f_X8_hours N ac sts d was acs p0 = some (r, sts', d', was', acs') ∧ RB24 L E C' P' W A dz rt st z T X zc fc sc zk fk sk zw ms es vs ps pn d' ac ∧ RH hs' hB' sts' was' acs' := by
  by_cases c : p0 < 1 ∨ 200 < p0
  · refine ⟨-2000000001, C, P, hs, hB, sts, d, was, acs, ?_, ?_, R, H⟩
    · unfold f_X7_hours; rw [e_out, if_pos c, ob_s, if_neg o1]
    · unfold f_X8_hours; rw [e_in, if_pos c, ob_s, if_neg o2]
  · obtain ⟨x0, x1⟩ := out_n c
    rw [t_1] at x0; rw [t_200] at x1
    obtain ⟨u, w, g1, g2, g3⟩ := rcd hN R H
    obtain ⟨hL, hT, hC, hK, hW⟩ := R
    obtain ⟨C', P', d', q1, q2, q3, q4⟩ := hrs (N := N) (by omega) hL (by omega) x1
    refine ⟨C', C', P', u.2, u.1, w.1, d', w.2.1, w.2.2, ?_, ?_, ⟨q3, RT_keep hT (q4 5 (by omega) (by omega)) (fun k hk => q4 k (by omega) (by omega)), RC_keep hC (fun k h1 h2 => q4 k (by omega) (by omega)), RK_keep hK (fun k h1 h2 => q4 k (by omega) (by omega)), RW_keep hW (fun k h1 h2 => q4 k (by omega) (by omega))⟩, g3⟩
    · unfold f_X7_hours
      rw [e_out, if_neg c, ob_s, if_pos o3, g1, ob_s, q1, ob_s]
    · unfold f_X8_hours
      rw [e_in, if_neg c, ob_s, if_pos o1, g2, ob_s, q2, ob_s, q3.2.2.1]

theorem s_zero {N : Nat} {L : Int32} {E : Int32} {C : Int32} {P : Int32} {W : Int32} {A : Int64} {dz : Int32} {rt : Int32} {st : Int32} {z : Int32} {T : Nat → Int32} {X : Nat → Int32} {zc : Int32} {fc : Nat → Int32} {sc : Nat → Int32} {zk : Int32} {fk : Nat → Int32} {sk : Nat → Int32} {zw : Int32} {ms : Nat → Int32} {es : Nat → Int32} {vs : Nat → Int32} {ps : Nat → Int32} {pn : Nat → Int32} {hs : Int32} {hB : Nat → BS} {sts : Int32} {d : Nat → Int32} {was : Nat → Int32} {ac : Int64} {acs : Nat → Int64}  (hN : 20000 ≤ N) (R : RB24 L E C P W A dz rt st z T X zc fc sc zk fk sk zw ms es vs ps pn d ac) (H : RH hs hB sts was acs) :
    ∃ (r : Int32) (E' : Int32) (C' : Int32) (P' : Int32) (W' : Int32) (A' : Int64) (z' : Int32) (hs' : Int32) (hB' : Nat → BS) (ac' : Int64) (sts' : Int32) (d' : Nat → Int32) (was' : Nat → Int32) (acs' : Nat → Int64), f_X7_zero L E C P W A dz rt st z T X zc fc sc zk fk sk zw ms es vs ps pn hs hB = some (r, E', C', P', W', A', z', hs', hB') ∧ f_X8_zero N ac sts d was acs = some (r, ac', sts', d', was', acs') ∧ RB24 L E' C' P' W' A' dz rt st z' T X zc fc sc zk fk sk zw ms es vs ps pn d' ac' ∧ RH hs' hB' sts' was' acs' := by
  by_cases c : L = 0
  · obtain ⟨u, w, g1, g2, g3⟩ := rcd hN R H
    obtain ⟨hL, hT, hC, hK, hW⟩ := R
    obtain ⟨d', q1, q2, q3, q4, q5⟩ := zer c hL hT
    have d0 : d 0 = 0 := hL.1.trans c
    have d5 : d 5 = z := by obtain ⟨n, _, e, d5, _⟩ := hT; rw [d5, e]
    refine ⟨z, 0, 0, 0, 0, 0, 0, u.2, u.1, 0, w.1, d', w.2.1, w.2.2, ?_, ?_, ⟨q3, q4, RC_keep hC (fun k h1 h2 => q5 k (by omega)), RK_keep hK (fun k h1 h2 => q5 k (by omega)), RW_keep hW (fun k h1 h2 => q5 k (by omega))⟩, g3⟩
    · unfold f_X7_zero f_X0_refusalOfZero
      rw [if_neg (fun e => e c), ob_s, er_0, ob_s, if_pos o3, g1, ob_s, q1, ob_s]
    · unfold f_X8_zero
      rw [if_pos d0, g2, ob_s, nm_s, q2, ob_s, d5]
  · have d0 : ¬ d 0 = 0 := by rw [R.1.1]; exact c
    refine ⟨-2000000002, E, C, P, W, A, z, hs, hB, ac, sts, d, was, acs, ?_, ?_, R, H⟩
    · unfold f_X7_zero f_X0_refusalOfZero
      rw [if_pos c, ob_s, er_n (by decide), ob_s, if_neg (by decide)]
    · unfold f_X8_zero
      rw [if_neg d0]

theorem s_undo {N : Nat} {L : Int32} {E : Int32} {C : Int32} {P : Int32} {W : Int32} {A : Int64} {dz : Int32} {rt : Int32} {st : Int32} {z : Int32} {T : Nat → Int32} {X : Nat → Int32} {zc : Int32} {fc : Nat → Int32} {sc : Nat → Int32} {zk : Int32} {fk : Nat → Int32} {sk : Nat → Int32} {zw : Int32} {ms : Nat → Int32} {es : Nat → Int32} {vs : Nat → Int32} {ps : Nat → Int32} {pn : Nat → Int32} {hs : Int32} {hB : Nat → BS} {sts : Int32} {d : Nat → Int32} {was : Nat → Int32} {ac : Int64} {acs : Nat → Int64}  (hN : 20000 ≤ N) (R : RB24 L E C P W A dz rt st z T X zc fc sc zk fk sk zw ms es vs ps pn d ac) (H : RH hs hB sts was acs) :
    ∃ (r : Int32) (L' : Int32) (E' : Int32) (C' : Int32) (P' : Int32) (W' : Int32) (A' : Int64) (dz' : Int32) (rt' : Int32) (st' : Int32) (z' : Int32) (T' : Nat → Int32) (X' : Nat → Int32) (zc' : Int32) (fc' : Nat → Int32) (sc' : Nat → Int32) (zk' : Int32) (fk' : Nat → Int32) (sk' : Nat → Int32) (zw' : Int32) (ms' : Nat → Int32) (es' : Nat → Int32) (vs' : Nat → Int32) (ps' : Nat → Int32) (pn' : Nat → Int32) (hs' : Int32) (ac' : Int64) (sts' : Int32) (d' : Nat → Int32), f_X7_undo L E C P W A dz rt st z T X zc fc sc zk fk sk zw ms es vs ps pn hs hB = some (r, L', E', C', P', W', A', dz', rt', st', z', T', X', zc', fc', sc', zk', fk', sk', zw', ms', es', vs', ps', pn', hs') ∧ f_X8_undo N ac sts d was acs = some (r, ac', sts', d') ∧ RB24 L' E' C' P' W' A' dz' rt' st' z' T' X' zc' fc' sc' zk' fk' sk' zw' ms' es' vs' ps' pn' d' ac' ∧ RH hs' hB sts' was acs := by
  by_cases c : hs = 0
  · have c2 : sts = 0 := by
      obtain ⟨k, hk, e1, e2, -⟩ := H
      rw [e2, ← e1, c]
    refine ⟨-2000000002, L, E, C, P, W, A, dz, rt, st, z, T, X, zc, fc, sc, zk, fk, sk, zw, ms, es, vs, ps, pn, hs, ac, sts, d, ?_, ?_, R, H⟩
    · unfold f_X7_undo; rw [if_neg (fun e => e c)]
    · unfold f_X8_undo; rw [if_neg (fun e => e c2)]
  · have c2 : ¬ sts = 0 := by
      obtain ⟨k, hk, e1, e2, -⟩ := H
      rw [e2, ← e1]; exact c
    obtain ⟨u, d', ac', g1, g2, g3, g4⟩ := und (N := N) (L := L) (E := E) (C := C) (P := P) (W := W) (A := A) (dz := dz) (rt := rt) (st := st) (z := z) (T := T) (X := X) (zc := zc) (fc := fc) (sc := sc) (zk := zk) (fk := fk) (sk := sk) (zw := zw) (ms := ms) (es := es) (vs := vs) (ps := ps) (pn := pn) (ac := ac) hN H c
    refine ⟨u.1, u.2.1, u.2.2.1, u.2.2.2.1, u.2.2.2.2.1, u.2.2.2.2.2.1, u.2.2.2.2.2.2.1, u.2.2.2.2.2.2.2.1, u.2.2.2.2.2.2.2.2.1, u.2.2.2.2.2.2.2.2.2.1, u.2.2.2.2.2.2.2.2.2.2.1, u.2.2.2.2.2.2.2.2.2.2.2.1, u.2.2.2.2.2.2.2.2.2.2.2.2.1, u.2.2.2.2.2.2.2.2.2.2.2.2.2.1, u.2.2.2.2.2.2.2.2.2.2.2.2.2.2.1, u.2.2.2.2.2.2.2.2.2.2.2.2.2.2.2.1, u.2.2.2.2.2.2.2.2.2.2.2.2.2.2.2.2.1, u.2.2.2.2.2.2.2.2.2.2.2.2.2.2.2.2.2.1, u.2.2.2.2.2.2.2.2.2.2.2.2.2.2.2.2.2.2.1, u.2.2.2.2.2.2.2.2.2.2.2.2.2.2.2.2.2.2.2.1, u.2.2.2.2.2.2.2.2.2.2.2.2.2.2.2.2.2.2.2.2.1, u.2.2.2.2.2.2.2.2.2.2.2.2.2.2.2.2.2.2.2.2.2.1, u.2.2.2.2.2.2.2.2.2.2.2.2.2.2.2.2.2.2.2.2.2.2.1, u.2.2.2.2.2.2.2.2.2.2.2.2.2.2.2.2.2.2.2.2.2.2.2.1, u.2.2.2.2.2.2.2.2.2.2.2.2.2.2.2.2.2.2.2.2.2.2.2.2, u.1, ac', u.1, d', ?_, ?_, g3, g4⟩
    · unfold f_X7_undo
      rw [if_pos c, g1, ob_s]
    · unfold f_X8_undo
      rw [if_pos c2, g2]

theorem s_account {N : Nat} {L : Int32} {E : Int32} {C : Int32} {P : Int32} {W : Int32} {A : Int64} {dz : Int32} {rt : Int32} {st : Int32} {z : Int32} {T : Nat → Int32} {X : Nat → Int32} {zc : Int32} {fc : Nat → Int32} {sc : Nat → Int32} {zk : Int32} {fk : Nat → Int32} {sk : Nat → Int32} {zw : Int32} {ms : Nat → Int32} {es : Nat → Int32} {vs : Nat → Int32} {ps : Nat → Int32} {pn : Nat → Int32} {hs : Int32} {hB : Nat → BS} {sts : Int32} {d : Nat → Int32} {was : Nat → Int32} {ac : Int64} {acs : Nat → Int64}  (hN : 20000 ≤ N) (R : RB24 L E C P W A dz rt st z T X zc fc sc zk fk sk zw ms es vs ps pn d ac) (H : RH hs hB sts was acs) :
    ∃ (r : Int64), f_X7_account A = some r ∧ f_X8_account ac = some r := by
  obtain ⟨hL, -⟩ := R
  exact ⟨A, by unfold f_X7_account; rfl, by unfold f_X8_account; rw [hL.2.2.2.2.2.2.2.2.1]⟩

theorem s_curve {N : Nat} {L : Int32} {E : Int32} {C : Int32} {P : Int32} {W : Int32} {A : Int64} {dz : Int32} {rt : Int32} {st : Int32} {z : Int32} {T : Nat → Int32} {X : Nat → Int32} {zc : Int32} {fc : Nat → Int32} {sc : Nat → Int32} {zk : Int32} {fk : Nat → Int32} {sk : Nat → Int32} {zw : Int32} {ms : Nat → Int32} {es : Nat → Int32} {vs : Nat → Int32} {ps : Nat → Int32} {pn : Nat → Int32} {hs : Int32} {hB : Nat → BS} {sts : Int32} {d : Nat → Int32} {was : Nat → Int32} {ac : Int64} {acs : Nat → Int64} {p0 : Int32} {p1 : Int32} (hN : 20000 ≤ N) (R : RB24 L E C P W A dz rt st z T X zc fc sc zk fk sk zw ms es vs ps pn d ac) (H : RH hs hB sts was acs) :
    ∃ (r : Int32), f_X7_curve N zc fc sc p0 p1 = some r ∧ f_X8_curve N d p0 p1 = some r := by
  unfold f_X7_curve f_X8_curve
  by_cases c : p0 < 0 ∨ 1 < p0
  · exact ⟨-2000000001, by rw [e_out, if_pos c, ob_s, if_pos o1], by rw [e_in, if_pos c, ob_s, if_pos o3]⟩
  · by_cases c2 : p1 < 0 ∨ 1000 < p1
    · exact ⟨-2000000001, by rw [e_out, if_neg c, ob_s, if_neg o2, e_out, if_pos c2, ob_s, if_neg o1], by rw [e_in, if_neg c, ob_s, if_neg o1, e_in, if_pos c2, ob_s, if_pos o3]⟩
    · obtain ⟨x0, x1⟩ := out_n c
      obtain ⟨y0, y1⟩ := out_n c2
      rw [t_0] at x0 y0; rw [t_1] at x1; rw [t_1000] at y1
      by_cases h : p0 = 0
      · subst h
        obtain ⟨v, v1, v2, -⟩ := cv (N := N) (M := 8) (x := p1) (fac := 1) (c := 1) (by omega) (Nat.le_refl _) (by omega) R.2.2.1 t_1 (Or.inl rfl) y0 (by omega)
        exact ⟨v, by rw [e_out, if_neg c, ob_s, if_neg o2, e_out, if_neg c2, ob_s, if_pos o3, if_neg o2, v1, ob_s], by rw [e_in, if_neg c, ob_s, if_neg o1, e_in, if_neg c2, ob_s, if_neg o1, show (0 : Int32) + 1 = 1 from rfl, v2, ob_s]⟩
      · have e : p0 = 1 := t_eq.mpr (by rw [t_1]; have : p0.toInt ≠ 0 := fun q => h (t_eq.mpr (by rw [q, t_0])); omega)
        subst e
        obtain ⟨v, v1, v2, -⟩ := cv (N := N) (M := 8) (x := p1) (fac := 2) (c := 2) (by omega) (Nat.le_refl _) (by omega) R.2.2.1 t_2 (Or.inr rfl) y0 (by omega)
        exact ⟨v, by rw [e_out, if_neg c, ob_s, if_neg o2, e_out, if_neg c2, ob_s, if_pos o3, if_pos o1, v1, ob_s], by rw [e_in, if_neg c, ob_s, if_neg o1, e_in, if_neg c2, ob_s, if_neg o1, show (1 : Int32) + 1 = 2 from rfl, v2, ob_s]⟩

theorem s_readingAt {N : Nat} {L : Int32} {E : Int32} {C : Int32} {P : Int32} {W : Int32} {A : Int64} {dz : Int32} {rt : Int32} {st : Int32} {z : Int32} {T : Nat → Int32} {X : Nat → Int32} {zc : Int32} {fc : Nat → Int32} {sc : Nat → Int32} {zk : Int32} {fk : Nat → Int32} {sk : Nat → Int32} {zw : Int32} {ms : Nat → Int32} {es : Nat → Int32} {vs : Nat → Int32} {ps : Nat → Int32} {pn : Nat → Int32} {hs : Int32} {hB : Nat → BS} {sts : Int32} {d : Nat → Int32} {was : Nat → Int32} {ac : Int64} {acs : Nat → Int64} {p0 : Int32} (hN : 20000 ≤ N) (R : RB24 L E C P W A dz rt st z T X zc fc sc zk fk sk zw ms es vs ps pn d ac) (H : RH hs hB sts was acs) :
    ∃ (r : Int32), f_X7_readingAt N zk fk sk p0 = some r ∧ f_X8_readingAt N d p0 = some r := by
  unfold f_X7_readingAt f_X8_readingAt
  by_cases c : p0 < -1000 ∨ 30000 < p0
  · exact ⟨-2000000001, by rw [e_out, if_pos c, ob_s, if_neg o1], by rw [e_in, if_pos c, ob_s, if_pos o3]⟩
  · obtain ⟨v, v1, v2⟩ := rd (N := N) (x := p0) (by omega) R.2.2.2.1
    exact ⟨v, by rw [e_out, if_neg c, ob_s, if_pos o3, v1, ob_s], by rw [e_in, if_neg c, ob_s, if_neg o1, v2, ob_s]⟩

theorem s_set {N : Nat} {L : Int32} {E : Int32} {C : Int32} {P : Int32} {W : Int32} {A : Int64} {dz : Int32} {rt : Int32} {st : Int32} {z : Int32} {T : Nat → Int32} {X : Nat → Int32} {zc : Int32} {fc : Nat → Int32} {sc : Nat → Int32} {zk : Int32} {fk : Nat → Int32} {sk : Nat → Int32} {zw : Int32} {ms : Nat → Int32} {es : Nat → Int32} {vs : Nat → Int32} {ps : Nat → Int32} {pn : Nat → Int32} {hs : Int32} {hB : Nat → BS} {sts : Int32} {d : Nat → Int32} {was : Nat → Int32} {ac : Int64} {acs : Nat → Int64} {p0 : Int32} {p1 : Int32} (hN : 20000 ≤ N) (R : RB24 L E C P W A dz rt st z T X zc fc sc zk fk sk zw ms es vs ps pn d ac) (H : RH hs hB sts was acs) :
    ∃ (r : Int32) (dz' : Int32) (rt' : Int32) (st' : Int32) (hs' : Int32) (hB' : Nat → BS) (sts' : Int32) (d' : Nat → Int32) (was' : Nat → Int32) (acs' : Nat → Int64), f_X7_set L E C P W A dz rt st z T X zc fc sc zk fk sk zw ms es vs ps pn hs hB p0 p1 = some (r, dz', rt', st', hs', hB') ∧ f_X8_set N ac sts d was acs p0 p1 = some (r, sts', d', was', acs') ∧ RB24 L E C P W A dz' rt' st' z T X zc fc sc zk fk sk zw ms es vs ps pn d' ac ∧ RH hs' hB' sts' was' acs' := by
  obtain ⟨u, w, g1, g2, g3⟩ := rcd hN R H
  obtain ⟨hL, hT, hC, hK, hW⟩ := R
  obtain ⟨d0, d1, d2, d3, d4, d6, d7, d8, hA, s0, s1, z0, z1⟩ := hL
  by_cases c : p0 < 0 ∨ 2 < p0
  · refine ⟨-2000000001, dz, rt, st, hs, hB, sts, d, was, acs, ?_, ?_, ⟨⟨d0, d1, d2, d3, d4, d6, d7, d8, hA, s0, s1, z0, z1⟩, hT, hC, hK, hW⟩, H⟩
    · unfold f_X7_set; rw [e_out, if_pos c, ob_s, if_pos o1]
    · unfold f_X8_set; rw [e_in, if_pos c, ob_s, if_pos o3]
  · obtain ⟨x0, x1⟩ := out_n c
    rw [t_0] at x0; rw [t_2] at x1
    have kp : ∀ (j : Nat) (v : Int32), j = 6 ∨ j = 7 ∨ j = 8 → RT L W z T X (upd d j v) ∧ RC zc fc sc (upd d j v) ∧ RK zk fk sk (upd d j v) ∧ RW L zw ms es vs ps pn (upd d j v) := fun j v hj =>
      ⟨RT_keep hT (un (by omega)) (fun k hk => un (by omega)), RC_keep hC (fun k h1 h2 => un (by omega)), RK_keep hK (fun k h1 h2 => un (by omega)), RW_keep hW (fun k h1 h2 => un (by omega))⟩
    by_cases h0 : p0 = 0
    · subst h0
      by_cases c2 : p1 < 0 ∨ 200 < p1
      · refine ⟨-2000000001, dz, rt, st, hs, hB, sts, d, was, acs, ?_, ?_, ⟨⟨d0, d1, d2, d3, d4, d6, d7, d8, hA, s0, s1, z0, z1⟩, hT, hC, hK, hW⟩, H⟩
        · unfold f_X7_set f_X7_topOfSetting; rw [e_out, if_neg c, ob_s, if_neg o2, if_pos o3, ob_s, e_out, if_pos c2, ob_s, if_neg o1]
        · unfold f_X8_set; rw [e_in, if_neg c, ob_s, if_neg o1, if_neg o2, e_in, if_pos c2, ob_s, if_neg o2]
      · obtain ⟨y0, y1⟩ := out_n c2
        rw [t_0] at y0; rw [t_200] at y1
        refine ⟨dz, p1, rt, st, u.2, u.1, w.1, upd d 6 p1, w.2.1, w.2.2, ?_, ?_, ⟨⟨by rw [un (by omega), d0], by rw [un (by omega), d1], by rw [un (by omega), d2], by rw [un (by omega), d3], by rw [un (by omega), d4], us, by rw [un (by omega), d7], by rw [un (by omega), d8], hA, s0, s1, y0, y1⟩, kp 6 p1 (by omega)⟩, g3⟩
        · unfold f_X7_set f_X7_topOfSetting f_X3_exchangeSetting
          rw [e_out, if_neg c, ob_s, if_neg o2, if_pos o3, ob_s, e_out, if_neg c2, ob_s, if_pos o3, g1, ob_s, if_pos o3, ob_s]
        · unfold f_X8_set
          rw [e_in, if_neg c, ob_s, if_neg o1, if_neg o2, e_in, if_neg c2, ob_s, if_pos o1, g2, ob_s, show (6 : Int32) + 0 = nI 6 from rfl, gA_i _ (by omega) (by omega), cl_i (by omega), nm_s, gA_i _ (by omega) (by omega), nm_s, d6]
    · by_cases h1 : p0 = 1
      · subst h1
        by_cases c2 : p1 < 0 ∨ 100 < p1
        · refine ⟨-2000000001, dz, rt, st, hs, hB, sts, d, was, acs, ?_, ?_, ⟨⟨d0, d1, d2, d3, d4, d6, d7, d8, hA, s0, s1, z0, z1⟩, hT, hC, hK, hW⟩, H⟩
          · unfold f_X7_set f_X7_topOfSetting; rw [e_out, if_neg c, ob_s, if_neg o2, if_neg h0, if_pos rfl, ob_s, e_out, if_pos c2, ob_s, if_neg o1]
          · unfold f_X8_set; rw [e_in, if_neg c, ob_s, if_neg o1, if_pos h0, if_neg (fun e => e rfl), e_in, if_pos c2, ob_s, if_neg o2]
        · refine ⟨rt, dz, p1, st, u.2, u.1, w.1, upd d 7 p1, w.2.1, w.2.2, ?_, ?_, ⟨⟨by rw [un (by omega), d0], by rw [un (by omega), d1], by rw [un (by omega), d2], by rw [un (by omega), d3], by rw [un (by omega), d4], by rw [un (by omega), d6], us, by rw [un (by omega), d8], hA, s0, s1, z0, z1⟩, kp 7 p1 (by omega)⟩, g3⟩
          · unfold f_X7_set f_X7_topOfSetting f_X3_exchangeSetting
            rw [e_out, if_neg c, ob_s, if_neg o2, if_neg h0, if_pos rfl, ob_s, e_out, if_neg c2, ob_s, if_pos o3, g1, ob_s, if_neg h0, if_pos rfl, ob_s]
          · unfold f_X8_set
            rw [e_in, if_neg c, ob_s, if_neg o1, if_pos h0, if_neg (fun e => e rfl), e_in, if_neg c2, ob_s, if_pos o1, g2, ob_s, show (6 : Int32) + 1 = nI 7 from rfl, gA_i _ (by omega) (by omega), cl_i (by omega), nm_s, gA_i _ (by omega) (by omega), nm_s, d7]
      · have e : p0 = 2 := t_eq.mpr (by rw [t_2]; have : p0.toInt ≠ 0 := fun q => h0 (t_eq.mpr (by rw [q, t_0])); have : p0.toInt ≠ 1 := fun q => h1 (t_eq.mpr (by rw [q, t_1])); omega)
        subst e
        by_cases c2 : p1 < 0 ∨ 50 < p1
        · refine ⟨-2000000001, dz, rt, st, hs, hB, sts, d, was, acs, ?_, ?_, ⟨⟨d0, d1, d2, d3, d4, d6, d7, d8, hA, s0, s1, z0, z1⟩, hT, hC, hK, hW⟩, H⟩
          · unfold f_X7_set f_X7_topOfSetting; rw [e_out, if_neg c, ob_s, if_neg o2, if_neg h0, if_neg h1, ob_s, e_out, if_pos c2, ob_s, if_neg o1]
          · unfold f_X8_set; rw [e_in, if_neg c, ob_s, if_neg o1, if_pos h0, if_pos h1, e_in, if_pos c2, ob_s, if_neg o2]
        · obtain ⟨y0, y1⟩ := out_n c2
          rw [t_0] at y0; rw [show (50 : Int32).toInt = 50 from by decide] at y1
          refine ⟨st, dz, rt, p1, u.2, u.1, w.1, upd d 8 p1, w.2.1, w.2.2, ?_, ?_, ⟨⟨by rw [un (by omega), d0], by rw [un (by omega), d1], by rw [un (by omega), d2], by rw [un (by omega), d3], by rw [un (by omega), d4], by rw [un (by omega), d6], by rw [un (by omega), d7], us, hA, y0, y1, z0, z1⟩, kp 8 p1 (by omega)⟩, g3⟩
          · unfold f_X7_set f_X7_topOfSetting f_X3_exchangeSetting
            rw [e_out, if_neg c, ob_s, if_neg o2, if_neg h0, if_neg h1, ob_s, e_out, if_neg c2, ob_s, if_pos o3, g1, ob_s, if_neg h0, if_neg h1, ob_s]
          · unfold f_X8_set
            rw [e_in, if_neg c, ob_s, if_neg o1, if_pos h0, if_pos h1, e_in, if_neg c2, ob_s, if_pos o1, g2, ob_s, show (6 : Int32) + 2 = nI 8 from rfl, gA_i _ (by omega) (by omega), cl_i (by omega), nm_s, gA_i _ (by omega) (by omega), nm_s, d8]

