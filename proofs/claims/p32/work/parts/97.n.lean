/-! pure part N: the law's first calls, its answer -/
/-- a point is laid into the first curve -/
theorem stP {V F : Int → Int} {N : Nat} {C P W dz rt st zk zw : Int32} {A : Int64} {T X fc sc fk sk ms es vs ps pn : Nat → Int32} {hB : Nat → BS} {k : Nat} {p q : Int32} (hN : 3000 ≤ N) (hk : k ≤ 5) (B : BI V F 0 0 C P W A dz rt st (nI 0) T X (nI 2) fc sc zk fk sk zw ms es vs ps pn 0) (f0 : fc 0 = 0) (f1 : fc 1 = 1000) (s0 : sc 0 = 0) (s1 : sc 1 = 10000) (p0 : 1 ≤ p.toInt) (p1 : p.toInt ≤ 999) (q0 : 1 ≤ q.toInt) (q1 : q.toInt ≤ 9999) :
    ∃ (V' F' : Int → Int) (fc' sc' : Nat → Int32) (hB' : Nat → BS) (k' : Nat), f_X7_setPoint N 0 0 C P W A dz rt st (nI 0) T X (nI 2) fc sc zk fk sk zw ms es vs ps pn (nI k) hB p q = some (nI 3, nI 3, fc', sc', nI k', hB') ∧ k' ≤ 5 ∧ BI V' F' 0 0 C P W A dz rt st (nI 0) T X (nI 3) fc' sc' zk fk sk zw ms es vs ps pn 0 := by
  obtain ⟨hB', k', hr, HR⟩ := rcd (hB := hB) B hk
  obtain ⟨S, R, K, hw⟩ := B
  have f0' : (fc 0).toInt = 0 := by rw [f0]; exact t_0
  have f1' : (fc 1).toInt = 1000 := by rw [f1]; exact t_1000
  have s0' : (sc 0).toInt = 0 := by rw [s0]; exact t_0
  have s1' : (sc 1).toInt = 10000 := by rw [s1]; exact t_10000
  have sl : slot fc p 2 0 = 1 := by
    show (if fc 0 < p then (if fc 1 < p then 1 + 1 else 1) else 0) = 1
    rw [if_pos (by rw [t_lt, f0']; omega), if_neg (by rw [t_lt, f1']; omega)]
  have nt : ¬ thr fc p 2 := by
    unfold thr
    rw [sl]
    rintro ⟨-, h⟩
    rw [← h, f1'] at p1
    omega
  have o1a : f_X7_isOutside p 1 1000 = some 0 := by
    rw [e_out, if_neg]
    rintro (h | h)
    · rw [t_lt, t_1] at h; omega
    · rw [t_lt, t_1000] at h; omega
  have o2a : f_X7_isOutside q 1 20000 = some 0 := by
    rw [e_out, if_neg]
    rintro (h | h)
    · rw [t_lt, t_1] at h; omega
    · rw [t_lt, t_20000] at h; omega
  have ri := (e_rise (N := N) (M := 8) (n := 2) (f := fc) (s := sc) (p := p) (q := q) (by omega) (by omega) (by omega)).2 nt
  rw [sl, if_pos ⟨Or.inr (by rw [t_lt]; show (sc 0).toInt < q.toInt; omega), Or.inr (by rw [t_lt]; omega)⟩] at ri
  have ro := (e_room (N := N) (M := 8) (n := 2) (f := fc) (p := p) (by omega) (by omega) (by omega)).1 (Or.inl (by omega))
  obtain ⟨fc', sc', la, lb⟩ := (e_lay (N := N) (M := 8) (n := 2) (f := fc) (s := sc) (p := p) (q := q) (by omega) (by omega) (by omega)).2 nt (by omega)
  rw [sl] at lb
  have g0 : fc' 0 = fc 0 ∧ sc' 0 = sc 0 := by
    have := lb 0 (by omega)
    rw [ins_lt (by omega), ins_lt (by omega)] at this
    exact this
  have g1 : fc' 1 = p ∧ sc' 1 = q := by
    have := lb 1 (by omega)
    rw [ins_eq, ins_eq] at this
    exact this
  have g2 : fc' 2 = fc 1 ∧ sc' 2 = sc 1 := by
    have := lb 2 (by omega)
    rw [ins_gt (by omega), ins_gt (by omega)] at this
    exact this
  have ia : IncA 3 (fun i => (fc' i).toInt) := by
    intro i hi
    rcases (show i = 0 ∨ i = 1 by omega) with rfl | rfl
    · show (fc' 0).toInt < (fc' 1).toInt
      rw [g0.1, g1.1, f0']; omega
    · show (fc' 1).toInt < (fc' 2).toInt
      rw [g1.1, g2.1, f1']; omega
  have ib : IncA 3 (fun i => (sc' i).toInt) := by
    intro i hi
    rcases (show i = 0 ∨ i = 1 by omega) with rfl | rfl
    · show (sc' 0).toInt < (sc' 1).toInt
      rw [g0.2, g1.2, s0']; omega
    · show (sc' 1).toInt < (sc' 2).toInt
      rw [g1.2, g2.2, s1']; omega
  obtain ⟨V', F', R'⟩ := CU_ex (n := 3) (f := fc') (s := sc') (by omega) (by omega) (by rw [g0.1]; exact f0') (by rw [g0.2]; exact s0') (by show (fc' 2).toInt = 1000; rw [g2.1]; exact f1') (by show (sc' 2).toInt ≤ 20000; rw [g2.2, s1']; omega) ia ib
  obtain ⟨a1, a2, a3, a4, a5, a6, a7, a8, a9, a10, a11⟩ := S
  refine ⟨V', F', fc', sc', hB', k', ?_, HR.2.1, ⟨⟨a1, a2, a3, a4, a5, a6, a7, a8, fun i hi => absurd hi (by omega), ?_, a11⟩, R', K, hw⟩⟩
  · unfold f_X7_setPoint
    rw [o1a, ob_s, if_neg (fun e => e rfl), o2a, ob_s, if_pos rfl, show f_X3_isUnturnedAtZero 0 (nI 0) = some 1 from rfl, ob_s, if_neg (by decide), ri, ob_s, if_pos (by decide), ro, ob_s, if_pos (by decide), hr, ob_s, la, ob_s]
  · show (0 : Int32).toInt = V' (0 : Int32).toInt
    rw [t_0, (CU_VF R').1]
/-- the dead zone is set, with the pointer at the reach -/
theorem stS {V F : Int → Int} {L E C P W : Int32} {A : Int64} {dz rt st z : Int32} {T X : Nat → Int32} {zc : Int32} {fc sc : Nat → Int32} {zk : Int32} {fk sk : Nat → Int32} {zw : Int32} {ms es vs ps pn : Nat → Int32} {hB : Nat → BS} {k n : Nat} {v : Int32} (hk : k ≤ 5) (B : BI V F L E C P W A dz rt st z T X zc fc sc zk fk sk zw ms es vs ps pn n) (hp : E.toInt + C.toInt = P.toInt) (v0 : 0 ≤ v.toInt) (v1 : v.toInt ≤ 200) :
    ∃ (hB' : Nat → BS) (k' : Nat), f_X7_set L E C P W A dz rt st z T X zc fc sc zk fk sk zw ms es vs ps pn (nI k) hB 0 v = some (dz, v, rt, st, nI k', hB') ∧ k' ≤ 5 ∧ BI V F L E C P W A v rt st z T X zc fc sc zk fk sk zw ms es vs ps pn n := by
  obtain ⟨hB', k', hr, HR⟩ := rcd (hB := hB) B hk
  obtain ⟨S, R, K, hw⟩ := B
  have oa : f_X7_isOutside v 0 200 = some 0 := by
    rw [e_out, if_neg]
    rintro (h | h)
    · rw [t_lt, t_0] at h; omega
    · rw [t_lt, t_200] at h; omega
  obtain ⟨hn, hz, bT, bX, L0, L1, ch, hW, ex, eE, E0, E1, C0, C1, hrr, hs, z0, z1, p1, p2⟩ := S
  refine ⟨hB', k', ?_, HR.2.1, ⟨⟨hn, hz, bT, bX, L0, L1, ch, hW, ex, eE, E0, E1, C0, C1, hrr, hs, v0, v1, by omega, by omega⟩, R, K, hw⟩⟩
  unfold f_X7_set
  rw [show f_X7_isOutside 0 0 2 = some 0 from rfl, ob_s, if_neg (fun e => e rfl), show f_X7_topOfSetting 0 = some 200 from rfl, ob_s, oa, ob_s, if_pos rfl, hr, ob_s, show f_X3_exchangeSetting dz rt st 0 v = some (dz, v, rt, st) from rfl, ob_s]
/-- the law answers 1 -/
theorem law_true {N Lx : Nat} {xs T X fc sc fk sk ms es vs ps pn : Nat → Int32} {hB : Nat → BS} (hN : 3000 ≤ N) (f0 : fc 0 = 0) (f1 : fc 1 = 1000) (s0 : sc 0 = 0) (s1 : sc 1 = 10000) (K : SK (nI 2) fk sk) :
    f_L_law N Lx xs 0 0 0 0 0 0 5 10 2 (nI 0) T X (nI 2) fc sc (nI 2) fk sk 0 ms es vs ps pn (nI 0) 0 hB = some 1 := by
  have f0' : (fc 0).toInt = 0 := by rw [f0]; exact t_0
  have f1' : (fc 1).toInt = 1000 := by rw [f1]; exact t_1000
  have s0' : (sc 0).toInt = 0 := by rw [s0]; exact t_0
  have s1' : (sc 1).toInt = 10000 := by rw [s1]; exact t_10000
  obtain ⟨V, F, R⟩ := CU_ex (n := 2) (f := fc) (s := sc) (by omega) (by omega) f0' s0' f1' (by show (sc 1).toInt ≤ 20000; omega) (by
    intro i hi
    have : i = 0 := by omega
    subst this
    show (fc 0).toInt < (fc 1).toInt
    omega) (by
    intro i hi
    have : i = 0 := by omega
    subst this
    show (sc 0).toInt < (sc 1).toInt
    omega)
  have S : SP V F 0 0 0 0 0 5 10 2 (nI 0) T X 0 := by
    refine ⟨by omega, rfl, fun i hi => absurd hi (by omega), fun i hi => absurd hi (by omega), by decide, by decide, trivial, Or.inl ⟨rfl, rfl, t_0⟩, fun i hi => absurd hi (by omega), ?_, by decide, by decide, by decide, by decide, rfl, rfl, by decide, by decide, by decide, by decide⟩
    show (0 : Int32).toInt = V (0 : Int32).toInt
    rw [t_0, (CU_VF R).1]
  have B : BI V F 0 0 0 0 0 0 5 10 2 (nI 0) T X (nI 2) fc sc (nI 2) fk sk 0 ms es vs ps pn 0 := ⟨S, R, K, rfl⟩
  have t800 : (800 : Int32).toInt = 800 := by decide
  have t6000 : (6000 : Int32).toInt = 6000 := by decide
  have t100 : (100 : Int32).toInt = 100 := by decide
  have t2000 : (2000 : Int32).toInt = 2000 := by decide
  obtain ⟨m1, m2, m3⟩ := mod_t (c := 800) t800 (cell_nn Lx xs 0) (by omega)
  obtain ⟨n1, n2, n3⟩ := mod_t (c := 6000) t6000 (cell_nn Lx xs 1) (by omega)
  obtain ⟨k1, k2, k3⟩ := mod_t (c := 200) t_200 (cell_nn Lx xs 2) (by omega)
  obtain ⟨p, hp⟩ : ∃ p : Int32, p = 100 + (cellV Lx xs 0 - cellV Lx xs 0 / 800 * 800) := ⟨_, rfl⟩
  obtain ⟨q, hq⟩ : ∃ q : Int32, q = 2000 + (cellV Lx xs 1 - cellV Lx xs 1 / 6000 * 6000) := ⟨_, rfl⟩
  obtain ⟨v, hv⟩ : ∃ v : Int32, v = cellV Lx xs 2 - cellV Lx xs 2 / 200 * 200 := ⟨_, rfl⟩
  have pt : p.toInt = 100 + (cellV Lx xs 0).toInt % 800 := by rw [hp, t_add (by rw [m1, t100]; omega) (by rw [m1, t100]; omega), m1, t100]
  have qt : q.toInt = 2000 + (cellV Lx xs 1).toInt % 6000 := by rw [hq, t_add (by rw [n1, t2000]; omega) (by rw [n1, t2000]; omega), n1, t2000]
  rw [← hv] at k1
  obtain ⟨V', F', fc', sc', hB1, k1', g1, g2, g3⟩ := stP (hB := hB) (k := 0) (p := p) (q := q) hN (by omega) B f0 f1 s0 s1 (by omega) (by omega) (by omega) (by omega)
  obtain ⟨hB2, k2', r1, r2, r3⟩ := stS (hB := hB1) (v := v) g2 g3 (by decide) (by omega) (by omega)
  unfold f_L_law
  rw [hol hN S R K, ob_s, if_neg (by decide), gT_t _ (show ¬ (0 : Int32) < 0 by decide), gT_t _ (show ¬ (1 : Int32) < 0 by decide), ← hp, ← hq, g1, ob_s]
  dsimp only
  rw [if_neg (fun e => e rfl), gT_t _ (show ¬ (2 : Int32) < 0 by decide), ← hv, r1, ob_s]
  dsimp only
  rw [if_neg (fun e => e rfl)]
  exact lw77 hN 6 0 N 0 0 0 0 0 (nI 0) T X hB2 k2' rfl (by omega) r2 (by rw [t_0]; omega) r3
