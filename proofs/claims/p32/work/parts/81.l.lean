/-! pure part L: a load that goes away and comes back -/
theorem lg_self (r : Int64) : lg_cmp r r = 0 := by
  unfold lg_cmp
  have h : ¬ r > r := fun e => by
    have e2 : r.toInt < r.toInt := Int64.lt_iff_toInt_lt.mp e
    omega
  rw [if_neg h, if_pos rfl]
theorem acc0 {A : Int64} : f_X7_account A = some A := rfl
/-- the two last changes are taken back -/
theorem lp243 {V F : Int → Int} {N : Nat} {L E C P W : Int32} {A : Int64} {dz rt st z : Int32} {T X : Nat → Int32} {zc : Int32} {fc sc : Nat → Int32} {zk : Int32} {fk sk : Nat → Int32} {zw : Int32} {ms es vs ps pn : Nat → Int32} {hB : Nat → BS} {n n1 k : Nat} {tl L0 E0 L1 E1 : Int32} {A0 A1 : Int64} (hk : k ≤ 3) (H1 : HB V F n1 L1 E1 A1 (hB (k + 1))) (H0 : HB V F n L0 E0 A0 (hB k)) :
    ∃ u : BS, f_L_loop_b243 N tl L0 (nI n) E0 A0 1 L E C P W A dz rt st z T X zc fc sc zk fk sk zw ms es vs ps pn (nI (k + 2)) hB = some (1, u.1, u.2.1, u.2.2.1, u.2.2.2.1, u.2.2.2.2.1, u.2.2.2.2.2.1, u.2.2.2.2.2.2.1, u.2.2.2.2.2.2.2.1, u.2.2.2.2.2.2.2.2.1, u.2.2.2.2.2.2.2.2.2.1, u.2.2.2.2.2.2.2.2.2.2.1, u.2.2.2.2.2.2.2.2.2.2.2.1, u.2.2.2.2.2.2.2.2.2.2.2.2.1, u.2.2.2.2.2.2.2.2.2.2.2.2.2.1, u.2.2.2.2.2.2.2.2.2.2.2.2.2.2.1, u.2.2.2.2.2.2.2.2.2.2.2.2.2.2.2.1, u.2.2.2.2.2.2.2.2.2.2.2.2.2.2.2.2.1, u.2.2.2.2.2.2.2.2.2.2.2.2.2.2.2.2.2.1, u.2.2.2.2.2.2.2.2.2.2.2.2.2.2.2.2.2.2.1, u.2.2.2.2.2.2.2.2.2.2.2.2.2.2.2.2.2.2.2.1, u.2.2.2.2.2.2.2.2.2.2.2.2.2.2.2.2.2.2.2.2.1, u.2.2.2.2.2.2.2.2.2.2.2.2.2.2.2.2.2.2.2.2.2.1, u.2.2.2.2.2.2.2.2.2.2.2.2.2.2.2.2.2.2.2.2.2.2.1, u.2.2.2.2.2.2.2.2.2.2.2.2.2.2.2.2.2.2.2.2.2.2.2, nI k, hB) ∧ HB V F n L0 E0 A0 u := by
  obtain ⟨v, hv, -⟩ := unL (hB := hB) (k := k + 1) (L := L) (E := E) (C := C) (P := P) (W := W) (A := A) (dz := dz) (rt := rt) (st := st) (z := z) (T := T) (X := X) (zc := zc) (fc := fc) (sc := sc) (zk := zk) (fk := fk) (sk := sk) (zw := zw) (ms := ms) (es := es) (vs := vs) (ps := ps) (pn := pn) (by omega) H1
  obtain ⟨u, hu, Hu⟩ := unL (hB := hB) (k := k) (L := v.1) (E := v.2.1) (C := v.2.2.1) (P := v.2.2.2.1) (W := v.2.2.2.2.1) (A := v.2.2.2.2.2.1) (dz := v.2.2.2.2.2.2.1) (rt := v.2.2.2.2.2.2.2.1) (st := v.2.2.2.2.2.2.2.2.1) (z := v.2.2.2.2.2.2.2.2.2.1) (T := v.2.2.2.2.2.2.2.2.2.2.1) (X := v.2.2.2.2.2.2.2.2.2.2.2.1) (zc := v.2.2.2.2.2.2.2.2.2.2.2.2.1) (fc := v.2.2.2.2.2.2.2.2.2.2.2.2.2.1) (sc := v.2.2.2.2.2.2.2.2.2.2.2.2.2.2.1) (zk := v.2.2.2.2.2.2.2.2.2.2.2.2.2.2.2.1) (fk := v.2.2.2.2.2.2.2.2.2.2.2.2.2.2.2.2.1) (sk := v.2.2.2.2.2.2.2.2.2.2.2.2.2.2.2.2.2.1) (zw := v.2.2.2.2.2.2.2.2.2.2.2.2.2.2.2.2.2.2.1) (ms := v.2.2.2.2.2.2.2.2.2.2.2.2.2.2.2.2.2.2.2.1) (es := v.2.2.2.2.2.2.2.2.2.2.2.2.2.2.2.2.2.2.2.2.1) (vs := v.2.2.2.2.2.2.2.2.2.2.2.2.2.2.2.2.2.2.2.2.2.1) (ps := v.2.2.2.2.2.2.2.2.2.2.2.2.2.2.2.2.2.2.2.2.2.2.1) (pn := v.2.2.2.2.2.2.2.2.2.2.2.2.2.2.2.2.2.2.2.2.2.2.2) (by omega) H0
  obtain ⟨h1, h2, h3, B⟩ := id Hu
  have hz : u.2.2.2.2.2.2.2.2.2.1 = nI n := B.1.2.1
  refine ⟨u, ?_, Hu⟩
  unfold f_L_loop_b243
  rw [if_neg (by decide), hv, ob_s]
  dsimp only
  rw [if_neg (nI_pos (by omega)), hu, ob_s]
  dsimp only
  rw [if_neg (nI_pos (by omega)), cnt0, ob_s, if_neg (fun e => e h1), cnt5, ob_s, if_neg (fun e => e hz), cnt1, ob_s, if_neg (fun e => e h2), acc0, ob_s, if_neg (fun e => e (by rw [h3]; exact lg_self _))]
/-- back where it turned: the same extension -/
theorem lp199 {V F : Int → Int} {N : Nat} {L E C P W : Int32} {A : Int64} {dz rt st z : Int32} {T X : Nat → Int32} {zc : Int32} {fc sc : Nat → Int32} {zk : Int32} {fk sk : Nat → Int32} {zw : Int32} {ms es vs ps pn : Nat → Int32} {hB : Nat → BS} {n k : Nat} {tl x E1 P1 W1 z1 : Int32} {A1 : Int64} {T1 X1 : Nat → Int32} {D : Int} (hN : 3000 ≤ N) (hk1 : 1 ≤ k) (hk : k ≤ 5) (S0 : SP V F L E C P W dz rt st z T X n) (B : BI V F x E1 C P1 W1 A1 dz rt st z1 T1 X1 zc fc sc zk fk sk zw ms es vs ps pn (n + 1)) (H : HB V F n L E A (hB (k - 1)))
    (hW : W.toInt = D) (hD : D = 1 ∨ D = -1) (hW1 : W1.toInt = -D) (hx : 0 < D * (L.toInt - x.toInt)) (hT : T1 = upd T n L) (hX : X1 = upd X n E) :
    ∃ (b : BS) (k' : Nat) (hB' : Nat → BS), f_L_loop_b199 N tl L (nI n) E A 1 x E1 C P1 W1 A1 dz rt st z1 T1 X1 zc fc sc zk fk sk zw ms es vs ps pn (nI k) hB = some (1, b.1, b.2.1, b.2.2.1, b.2.2.2.1, b.2.2.2.2.1, b.2.2.2.2.2.1, b.2.2.2.2.2.2.1, b.2.2.2.2.2.2.2.1, b.2.2.2.2.2.2.2.2.1, b.2.2.2.2.2.2.2.2.2.1, b.2.2.2.2.2.2.2.2.2.2.1, b.2.2.2.2.2.2.2.2.2.2.2.1, b.2.2.2.2.2.2.2.2.2.2.2.2.1, b.2.2.2.2.2.2.2.2.2.2.2.2.2.1, b.2.2.2.2.2.2.2.2.2.2.2.2.2.2.1, b.2.2.2.2.2.2.2.2.2.2.2.2.2.2.2.1, b.2.2.2.2.2.2.2.2.2.2.2.2.2.2.2.2.1, b.2.2.2.2.2.2.2.2.2.2.2.2.2.2.2.2.2.1, b.2.2.2.2.2.2.2.2.2.2.2.2.2.2.2.2.2.2.1, b.2.2.2.2.2.2.2.2.2.2.2.2.2.2.2.2.2.2.2.1, b.2.2.2.2.2.2.2.2.2.2.2.2.2.2.2.2.2.2.2.2.1, b.2.2.2.2.2.2.2.2.2.2.2.2.2.2.2.2.2.2.2.2.2.1, b.2.2.2.2.2.2.2.2.2.2.2.2.2.2.2.2.2.2.2.2.2.2.1, b.2.2.2.2.2.2.2.2.2.2.2.2.2.2.2.2.2.2.2.2.2.2.2, nI k', hB') ∧ k' ≤ 5 ∧ HB V F n L E A b := by
  obtain ⟨hn, hz, bT, bX, L0, L1, ch, hWs, ex, eE, -⟩ := S0
  obtain ⟨r, E2, P2, W2, z2, A2, T2, X2, hB2, k2, n2, g1, g2, g3, g4, g5, g6⟩ := setL (x := L) (hB := hB) hN hk B L0 L1
  have hne : ¬ L = x := fun e => by rw [e] at hx; rw [Int.sub_self, Int.mul_zero] at hx; omega
  have mv : MVD x E1 W1 L E2 W2 T1 X1 T2 X2 (n + 1) n2 := by
    rcases g6 with h | h
    · exact absurd h.1 hne
    · exact h.2
  obtain ⟨D2, m1, c1, c2, c3, c4, c5, c6, c7, c8⟩ := mv
  have eD : D2 = D := by
    rcases hD with rfl | rfl <;> rcases c1 with h | h <;> omega
  subst eD
  obtain ⟨S2, R2, K2, w2⟩ := id g3
  obtain ⟨hn2, hz2, bT2, bX2, -, -, ch2, hWs2, ex2, eE2, -⟩ := S2
  rcases c3 with ⟨d1, d2, d3, d4⟩ | ⟨d1, -⟩
  · have tt : ∀ i, i < n → T2 i = T i ∧ X2 i = X i := fun i hi => by
      rw [d3, d4, hT, hX, un (by omega), un (by omega), un (by omega), un (by omega)]
      exact ⟨rfl, rfl⟩
    have tn : T2 n = L := by rw [d3, hT, un (by omega), us]
    have e2 : n2 = n := by
      by_cases a1 : n2 = n + 2
      · subst a1
        rw [c2] at ch2
        have q : 0 < D2 * ((T2 n).toInt - L.toInt) := ch2.2.1 n rfl
        rw [tn, Int.sub_self, Int.mul_zero] at q
        omega
      · by_cases a2 : n2 = n
        · exact a2
        · have q := c6 (by omega)
          have lt : n2 + 2 ≤ n := by omega
          rw [(tt n2 (by omega)).1] at q
          rw [hW] at ch
          have q2 : 0 < D2 * ((T n2).toInt - L.toInt) := CH_out n L.toInt D2 ch hD n2 lt (by omega)
          rcases hD with rfl | rfl <;> omega
    subst e2
    have eEE : E2 = E := by
      apply t_eq.mpr
      rw [eE2, eE]
      exact EV_cg (fun i hi => ⟨by show (T2 i).toInt = (T i).toInt; rw [(tt i hi).1], by show (X2 i).toInt = (X i).toInt; rw [(tt i hi).2]⟩)
    obtain ⟨r1, r2, r3, r4, r5⟩ := g5
    obtain ⟨k3, rfl⟩ : ∃ k3, k2 = k3 + 2 := ⟨k2 - 2, by omega⟩
    have r5 := r5 1 (by omega) (by omega)
    rw [show k3 + 2 - 1 - 1 = k3 by omega] at r5
    rw [← r5] at H
    obtain ⟨u, hu, Hu⟩ := lp243 (N := N) (tl := tl) (L := L) (E := E2) (C := C) (P := P2) (W := W2) (A := A2) (dz := dz) (rt := rt) (st := st) (z := z2) (T := T2) (X := X2) (zc := zc) (fc := fc) (sc := sc) (zk := zk) (fk := fk) (sk := sk) (zw := zw) (ms := ms) (es := es) (vs := vs) (ps := ps) (pn := pn) (k := k3) (by omega) r4 H
    refine ⟨u, k3, hB2, ?_, by omega, Hu⟩
    unfold f_L_loop_b199
    rw [if_neg (by decide), g1, ob_s]
    dsimp only
    rw [if_neg (by rw [t_lt, t_0]; omega), cnt1, ob_s, eEE, Int32.sub_self, if_neg (by decide), ob_s, Int32.sub_self, if_neg (by decide)]
    rw [eEE] at hu
    exact hu
  · exact absurd hW1 d1
/-- it goes away, inside -/
theorem lp137 {V F : Int → Int} {N : Nat} {L E C P W : Int32} {A : Int64} {dz rt st z : Int32} {T X : Nat → Int32} {zc : Int32} {fc sc : Nat → Int32} {zk : Int32} {fk sk : Nat → Int32} {zw : Int32} {ms es vs ps pn : Nat → Int32} {hB : Nat → BS} {n k : Nat} {tl x : Int32} {D : Int} (hN : 3000 ≤ N) (hk : k ≤ 5) (B : BI V F L E C P W A dz rt st z T X zc fc sc zk fk sk zw ms es vs ps pn n) (x0 : 0 ≤ x.toInt) (x1 : x.toInt ≤ 1000) (hW : W.toInt = D) (hD : D = 1 ∨ D = -1) (hx : 0 < D * (L.toInt - x.toInt)) (hin : ∀ m, n = m + 1 → 0 < D * (x.toInt - (T m).toInt)) :
    ∃ (b : BS) (k' : Nat) (hB' : Nat → BS), f_L_loop_b137 N tl L (nI n) E A x 1 L E C P W A dz rt st z T X zc fc sc zk fk sk zw ms es vs ps pn (nI k) hB = some (1, b.1, b.2.1, b.2.2.1, b.2.2.2.1, b.2.2.2.2.1, b.2.2.2.2.2.1, b.2.2.2.2.2.2.1, b.2.2.2.2.2.2.2.1, b.2.2.2.2.2.2.2.2.1, b.2.2.2.2.2.2.2.2.2.1, b.2.2.2.2.2.2.2.2.2.2.1, b.2.2.2.2.2.2.2.2.2.2.2.1, b.2.2.2.2.2.2.2.2.2.2.2.2.1, b.2.2.2.2.2.2.2.2.2.2.2.2.2.1, b.2.2.2.2.2.2.2.2.2.2.2.2.2.2.1, b.2.2.2.2.2.2.2.2.2.2.2.2.2.2.2.1, b.2.2.2.2.2.2.2.2.2.2.2.2.2.2.2.2.1, b.2.2.2.2.2.2.2.2.2.2.2.2.2.2.2.2.2.1, b.2.2.2.2.2.2.2.2.2.2.2.2.2.2.2.2.2.2.1, b.2.2.2.2.2.2.2.2.2.2.2.2.2.2.2.2.2.2.2.1, b.2.2.2.2.2.2.2.2.2.2.2.2.2.2.2.2.2.2.2.2.1, b.2.2.2.2.2.2.2.2.2.2.2.2.2.2.2.2.2.2.2.2.2.1, b.2.2.2.2.2.2.2.2.2.2.2.2.2.2.2.2.2.2.2.2.2.2.1, b.2.2.2.2.2.2.2.2.2.2.2.2.2.2.2.2.2.2.2.2.2.2.2, nI k', hB') ∧ k' ≤ 5 ∧ HB V F n L E A b := by
  obtain ⟨r, E1, P1, W1, z1, A1, T1, X1, hB1, k1, n1, g1, g2, g3, g4, g5, g6⟩ := setL (x := x) (hB := hB) hN hk B x0 x1
  obtain ⟨S, R, K, w⟩ := id B
  have hne : ¬ x = L := fun e => by rw [e] at hx; rw [Int.sub_self, Int.mul_zero] at hx; omega
  have mv : MVD L E W x E1 W1 T X T1 X1 n n1 := by
    rcases g6 with h | h
    · exact absurd h.1 hne
    · exact h.2
  obtain ⟨D2, m1, c1, c2, c3, c4, c5, c6, c7, c8⟩ := mv
  have eD : D2 = -D := by
    rcases hD with rfl | rfl <;> rcases c1 with h | h <;> omega
  subst eD
  rcases c3 with ⟨d1, d2, d3, d4⟩ | ⟨d1, -⟩
  · have e1 : n1 = n + 1 := by
      rw [← d2]
      refine c7 (fun m hm => ?_)
      have q := hin m (by omega)
      rw [d3, un (by omega)]
      rcases hD with rfl | rfl <;> omega
    subst e1
    have tn : T1 n = L := by rw [d3, us]
    have xn : X1 n = E := by rw [d4, us]
    obtain ⟨S1, R1, K1, w1⟩ := id g3
    have hz1 : z1 = nI (n + 1) := S1.2.1
    have hn1 : n + 1 ≤ 1000 := S1.1
    obtain ⟨r1, r2, r3, r4, r5⟩ := id g5
    obtain ⟨b, k', hB', q1, q2, q3⟩ := lp199 (tl := tl) (hB := hB1) (k := k1) (D := D) hN r1 r2 S g3 r4 hW hD c2 hx d3 d4
    refine ⟨b, k', hB', ?_, q2, q3⟩
    unfold f_L_loop_b137
    rw [if_pos (by decide), g1, ob_s]
    dsimp only
    rw [if_neg (by rw [t_lt, t_0]; omega), cnt5, ob_s, hz1, p_1, if_neg (fun e => e rfl), trn0 (by omega) (by omega), ob_s, if_neg (fun e => e tn), trn1 (by omega) (by omega), ob_s, if_neg (fun e => e xn), ← hz1, hol hN S1 R1 K1, ob_s, if_neg (by decide)]
    exact q1
  · exact absurd (by rw [hW]; omega) d1
theorem lp137n {N : Nat} {L E C P W : Int32} {A : Int64} {dz rt st z : Int32} {T X : Nat → Int32} {zc : Int32} {fc sc : Nat → Int32} {zk : Int32} {fk sk : Nat → Int32} {zw : Int32} {ms es vs ps pn : Nat → Int32} {hB : Nat → BS} {tl x2 x3 x5 x9 hs : Int32} {x6 : Int64} : f_L_loop_b137 N tl x2 x3 x5 x6 x9 0 L E C P W A dz rt st z T X zc fc sc zk fk sk zw ms es vs ps pn hs hB = some (1, L, E, C, P, W, A, dz, rt, st, z, T, X, zc, fc, sc, zk, fk, sk, zw, ms, es, vs, ps, pn, hs, hB) := by
  unfold f_L_loop_b137
  rw [if_neg (fun e => e rfl)]
/-- away and back, or not at all -/
theorem lp86 {V F : Int → Int} {N : Nat} {L E C P W : Int32} {A : Int64} {dz rt st z : Int32} {T X : Nat → Int32} {zc : Int32} {fc sc : Nat → Int32} {zk : Int32} {fk sk : Nat → Int32} {zw : Int32} {ms es vs ps pn : Nat → Int32} {hB : Nat → BS} {n k : Nat} {tl x s0 : Int32} (hN : 3000 ≤ N) (hk : k ≤ 5) (B : BI V F L E C P W A dz rt st z T X zc fc sc zk fk sk zw ms es vs ps pn n) (hs : ∀ m, n = m + 1 → s0 = T m) (hx : W.toInt = 1 → x.toInt < L.toInt) (hx2 : W.toInt = -1 → L.toInt < x.toInt) :
    ∃ (b : BS) (k' : Nat) (hB' : Nat → BS), f_L_loop_b86 N tl L (nI n) W E A x s0 L E C P W A dz rt st z T X zc fc sc zk fk sk zw ms es vs ps pn (nI k) hB = some (1, b.1, b.2.1, b.2.2.1, b.2.2.2.1, b.2.2.2.2.1, b.2.2.2.2.2.1, b.2.2.2.2.2.2.1, b.2.2.2.2.2.2.2.1, b.2.2.2.2.2.2.2.2.1, b.2.2.2.2.2.2.2.2.2.1, b.2.2.2.2.2.2.2.2.2.2.1, b.2.2.2.2.2.2.2.2.2.2.2.1, b.2.2.2.2.2.2.2.2.2.2.2.2.1, b.2.2.2.2.2.2.2.2.2.2.2.2.2.1, b.2.2.2.2.2.2.2.2.2.2.2.2.2.2.1, b.2.2.2.2.2.2.2.2.2.2.2.2.2.2.2.1, b.2.2.2.2.2.2.2.2.2.2.2.2.2.2.2.2.1, b.2.2.2.2.2.2.2.2.2.2.2.2.2.2.2.2.2.1, b.2.2.2.2.2.2.2.2.2.2.2.2.2.2.2.2.2.2.1, b.2.2.2.2.2.2.2.2.2.2.2.2.2.2.2.2.2.2.2.1, b.2.2.2.2.2.2.2.2.2.2.2.2.2.2.2.2.2.2.2.2.1, b.2.2.2.2.2.2.2.2.2.2.2.2.2.2.2.2.2.2.2.2.2.1, b.2.2.2.2.2.2.2.2.2.2.2.2.2.2.2.2.2.2.2.2.2.2.1, b.2.2.2.2.2.2.2.2.2.2.2.2.2.2.2.2.2.2.2.2.2.2.2, nI k', hB') ∧ k' ≤ 5 ∧ HB V F n L E A b := by
  have no : ∃ (b : BS) (k' : Nat) (hB' : Nat → BS), f_L_loop_b136 N tl L (nI n) E A x L E C P W A dz rt st z T X zc fc sc zk fk sk zw ms es vs ps pn (nI k) hB = some (1, b.1, b.2.1, b.2.2.1, b.2.2.2.1, b.2.2.2.2.1, b.2.2.2.2.2.1, b.2.2.2.2.2.2.1, b.2.2.2.2.2.2.2.1, b.2.2.2.2.2.2.2.2.1, b.2.2.2.2.2.2.2.2.2.1, b.2.2.2.2.2.2.2.2.2.2.1, b.2.2.2.2.2.2.2.2.2.2.2.1, b.2.2.2.2.2.2.2.2.2.2.2.2.1, b.2.2.2.2.2.2.2.2.2.2.2.2.2.1, b.2.2.2.2.2.2.2.2.2.2.2.2.2.2.1, b.2.2.2.2.2.2.2.2.2.2.2.2.2.2.2.1, b.2.2.2.2.2.2.2.2.2.2.2.2.2.2.2.2.1, b.2.2.2.2.2.2.2.2.2.2.2.2.2.2.2.2.2.1, b.2.2.2.2.2.2.2.2.2.2.2.2.2.2.2.2.2.2.1, b.2.2.2.2.2.2.2.2.2.2.2.2.2.2.2.2.2.2.2.1, b.2.2.2.2.2.2.2.2.2.2.2.2.2.2.2.2.2.2.2.2.1, b.2.2.2.2.2.2.2.2.2.2.2.2.2.2.2.2.2.2.2.2.2.1, b.2.2.2.2.2.2.2.2.2.2.2.2.2.2.2.2.2.2.2.2.2.2.1, b.2.2.2.2.2.2.2.2.2.2.2.2.2.2.2.2.2.2.2.2.2.2.2, nI k', hB') ∧ k' ≤ 5 ∧ HB V F n L E A b := by
    refine ⟨(L, E, C, P, W, A, dz, rt, st, z, T, X, zc, fc, sc, zk, fk, sk, zw, ms, es, vs, ps, pn), k, hB, ?_, hk, rfl, rfl, rfl, B⟩
    unfold f_L_loop_b136
    exact lp137n
  obtain ⟨S, R, K, w⟩ := id B
  obtain ⟨hn, hz, bT, bX, L0, L1, ch, hWs, -⟩ := S
  unfold f_L_loop_b86
  by_cases h1 : W = 0
  · rw [if_pos h1]; exact no
  rw [if_neg h1]
  by_cases h2 : x < 0
  · rw [if_pos h2]; exact no
  rw [if_neg h2]
  by_cases h3 : (1000 : Int32) < x
  · rw [if_pos h3]; exact no
  rw [if_neg h3]
  rw [t_lt, t_0] at h2
  rw [t_lt, t_1000] at h3
  have hWn : W.toInt = sgn n := by
    rcases hWs with h | h
    · exact absurd h.1 h1
    · exact h
  have yes : ∀ D : Int, W.toInt = D → (D = 1 ∨ D = -1) → 0 < D * (L.toInt - x.toInt) → (∀ m, n = m + 1 → 0 < D * (x.toInt - (T m).toInt)) → ∃ (b : BS) (k' : Nat) (hB' : Nat → BS), f_L_loop_b132 N tl L (nI n) E A x L E C P W A dz rt st z T X zc fc sc zk fk sk zw ms es vs ps pn (nI k) hB = some (1, b.1, b.2.1, b.2.2.1, b.2.2.2.1, b.2.2.2.2.1, b.2.2.2.2.2.1, b.2.2.2.2.2.2.1, b.2.2.2.2.2.2.2.1, b.2.2.2.2.2.2.2.2.1, b.2.2.2.2.2.2.2.2.2.1, b.2.2.2.2.2.2.2.2.2.2.1, b.2.2.2.2.2.2.2.2.2.2.2.1, b.2.2.2.2.2.2.2.2.2.2.2.2.1, b.2.2.2.2.2.2.2.2.2.2.2.2.2.1, b.2.2.2.2.2.2.2.2.2.2.2.2.2.2.1, b.2.2.2.2.2.2.2.2.2.2.2.2.2.2.2.1, b.2.2.2.2.2.2.2.2.2.2.2.2.2.2.2.2.1, b.2.2.2.2.2.2.2.2.2.2.2.2.2.2.2.2.2.1, b.2.2.2.2.2.2.2.2.2.2.2.2.2.2.2.2.2.2.1, b.2.2.2.2.2.2.2.2.2.2.2.2.2.2.2.2.2.2.2.1, b.2.2.2.2.2.2.2.2.2.2.2.2.2.2.2.2.2.2.2.2.1, b.2.2.2.2.2.2.2.2.2.2.2.2.2.2.2.2.2.2.2.2.2.1, b.2.2.2.2.2.2.2.2.2.2.2.2.2.2.2.2.2.2.2.2.2.2.1, b.2.2.2.2.2.2.2.2.2.2.2.2.2.2.2.2.2.2.2.2.2.2.2, nI k', hB') ∧ k' ≤ 5 ∧ HB V F n L E A b := by
    intro D e1 e2 e3 e4
    unfold f_L_loop_b132
    exact lp137 hN hk B (by omega) (by omega) e1 e2 e3 e4
  by_cases h4 : W ≤ 0
  · rw [if_pos h4]
    rw [t_le, t_0] at h4
    have eW : W.toInt = -1 := by rcases sgn_pm n with e | e <;> omega
    by_cases h5 : s0 ≤ x
    · rw [if_pos h5]; exact no
    · rw [if_neg h5]
      rw [t_le] at h5
      have q := hx2 eW
      exact yes (-1) eW (Or.inr rfl) (by omega) (fun m hm => by rw [← hs m hm]; omega)
  · rw [if_neg h4]
    rw [t_le, t_0] at h4
    have eW : W.toInt = 1 := by rcases sgn_pm n with e | e <;> omega
    have q := hx eW
    by_cases h5 : nI n = 0
    · rw [if_pos h5]
      have : n = 0 := (nI_eq (by omega) (by omega)).mp (h5.trans z_0)
      exact yes 1 eW (Or.inl rfl) (by omega) (fun m hm => by omega)
    · rw [if_neg h5]
      by_cases h6 : x ≤ s0
      · rw [if_pos h6]; exact no
      · rw [if_neg h6]
        rw [t_le] at h6
        exact yes 1 eW (Or.inl rfl) (by omega) (fun m hm => by rw [← hs m hm]; omega)
theorem t_60 : (60 : Int32).toInt = 60 := by decide
/-- loop: it answers 1, and all is as it was -/
theorem lop {V F : Int → Int} {N : Nat} {L E C P W : Int32} {A : Int64} {dz rt st z : Int32} {T X : Nat → Int32} {zc : Int32} {fc sc : Nat → Int32} {zk : Int32} {fk sk : Nat → Int32} {zw : Int32} {ms es vs ps pn : Nat → Int32} {hB : Nat → BS} {n k : Nat} {tl y : Int32} (hN : 3000 ≤ N) (hk : k ≤ 5) (B : BI V F L E C P W A dz rt st z T X zc fc sc zk fk sk zw ms es vs ps pn n) (y0 : 0 ≤ y.toInt) :
    ∃ (b : BS) (k' : Nat) (hB' : Nat → BS), f_L_loop N L E C P W A dz rt st z T X zc fc sc zk fk sk zw ms es vs ps pn (nI k) tl hB y = some (1, b.1, b.2.1, b.2.2.1, b.2.2.2.1, b.2.2.2.2.1, b.2.2.2.2.2.1, b.2.2.2.2.2.2.1, b.2.2.2.2.2.2.2.1, b.2.2.2.2.2.2.2.2.1, b.2.2.2.2.2.2.2.2.2.1, b.2.2.2.2.2.2.2.2.2.2.1, b.2.2.2.2.2.2.2.2.2.2.2.1, b.2.2.2.2.2.2.2.2.2.2.2.2.1, b.2.2.2.2.2.2.2.2.2.2.2.2.2.1, b.2.2.2.2.2.2.2.2.2.2.2.2.2.2.1, b.2.2.2.2.2.2.2.2.2.2.2.2.2.2.2.1, b.2.2.2.2.2.2.2.2.2.2.2.2.2.2.2.2.1, b.2.2.2.2.2.2.2.2.2.2.2.2.2.2.2.2.2.1, b.2.2.2.2.2.2.2.2.2.2.2.2.2.2.2.2.2.2.1, b.2.2.2.2.2.2.2.2.2.2.2.2.2.2.2.2.2.2.2.1, b.2.2.2.2.2.2.2.2.2.2.2.2.2.2.2.2.2.2.2.2.1, b.2.2.2.2.2.2.2.2.2.2.2.2.2.2.2.2.2.2.2.2.2.1, b.2.2.2.2.2.2.2.2.2.2.2.2.2.2.2.2.2.2.2.2.2.2.1, b.2.2.2.2.2.2.2.2.2.2.2.2.2.2.2.2.2.2.2.2.2.2.2, nI k', hB') ∧ k' ≤ 5 ∧ HB V F n L E A b := by
  obtain ⟨S, R, K, w⟩ := id B
  obtain ⟨hn, hz, bT, bX, L0, L1, ch, hWs, -⟩ := id S
  have yl := y.toInt_lt
  have e1 : (y / 60).toInt = y.toInt / 60 := by rw [lg_idiv_nonneg y0 (by rw [t_60]; omega), t_60]
  have e2 : (y / 60 * 60).toInt = y.toInt / 60 * 60 := by rw [t_mul (by rw [e1, t_60]; omega) (by rw [e1, t_60]; omega), e1, t_60]
  have e3 : (y - y / 60 * 60).toInt = y.toInt - y.toInt / 60 * 60 := by rw [t_sub (by rw [e2]; omega) (by rw [e2]; omega), e2]
  have e4 : (1 + (y - y / 60 * 60)).toInt = 1 + (y.toInt - y.toInt / 60 * 60) := by rw [t_add (by rw [e3, t_1]; omega) (by rw [e3, t_1]; omega), e3, t_1]
  obtain ⟨by_, hby⟩ : ∃ b : Int32, b = 1 + (y - y / 60 * 60) := ⟨_, rfl⟩
  rw [← hby] at e4
  have b57 : ∀ x : Int32, (W.toInt = 1 → x.toInt < L.toInt) → (W.toInt = -1 → L.toInt < x.toInt) → ∃ (b : BS) (k' : Nat) (hB' : Nat → BS), f_L_loop_b57 N tl L z W E A x L E C P W A dz rt st z T X zc fc sc zk fk sk zw ms es vs ps pn (nI k) hB = some (1, b.1, b.2.1, b.2.2.1, b.2.2.2.1, b.2.2.2.2.1, b.2.2.2.2.2.1, b.2.2.2.2.2.2.1, b.2.2.2.2.2.2.2.1, b.2.2.2.2.2.2.2.2.1, b.2.2.2.2.2.2.2.2.2.1, b.2.2.2.2.2.2.2.2.2.2.1, b.2.2.2.2.2.2.2.2.2.2.2.1, b.2.2.2.2.2.2.2.2.2.2.2.2.1, b.2.2.2.2.2.2.2.2.2.2.2.2.2.1, b.2.2.2.2.2.2.2.2.2.2.2.2.2.2.1, b.2.2.2.2.2.2.2.2.2.2.2.2.2.2.2.1, b.2.2.2.2.2.2.2.2.2.2.2.2.2.2.2.2.1, b.2.2.2.2.2.2.2.2.2.2.2.2.2.2.2.2.2.1, b.2.2.2.2.2.2.2.2.2.2.2.2.2.2.2.2.2.2.1, b.2.2.2.2.2.2.2.2.2.2.2.2.2.2.2.2.2.2.2.1, b.2.2.2.2.2.2.2.2.2.2.2.2.2.2.2.2.2.2.2.2.1, b.2.2.2.2.2.2.2.2.2.2.2.2.2.2.2.2.2.2.2.2.2.1, b.2.2.2.2.2.2.2.2.2.2.2.2.2.2.2.2.2.2.2.2.2.2.1, b.2.2.2.2.2.2.2.2.2.2.2.2.2.2.2.2.2.2.2.2.2.2.2, nI k', hB') ∧ k' ≤ 5 ∧ HB V F n L E A b := by
    intro x a1 a2
    unfold f_L_loop_b57
    rw [hz]
    cases n with
    | zero =>
      rw [if_neg (fun e => e rfl)]
      by_cases c : W < 0
      · rw [if_pos c, ← hz]
        have g := lp86 (tl := tl) (hB := hB) (s0 := 2000) hN hk B (fun m hm => by omega) a1 a2
        rw [← hz] at g
        exact g
      · rw [if_neg c, ← hz]
        have g := lp86 (tl := tl) (hB := hB) (s0 := -1) hN hk B (fun m hm => by omega) a1 a2
        rw [← hz] at g
        exact g
    | succ m =>
      rw [if_pos (nI_ne0 (by omega) (by omega)), m_1, trn0 (by omega) (by omega), ob_s]
      have g := lp86 (tl := tl) (hB := hB) (s0 := T m) hN hk B (fun q hq => by
        have : q = m := by omega
        rw [this]) a1 a2
      rw [hz] at g
      exact g
  unfold f_L_loop
  rw [cnt0, ob_s, cnt5, ob_s, cnt6, ob_s, cnt1, ob_s, acc0, ob_s, nm_s, ← hby]
  by_cases c : W < 0
  · rw [if_pos c]
    rw [t_lt, t_0] at c
    have q : (L + by_).toInt = L.toInt + by_.toInt := t_add (by omega) (by omega)
    exact b57 (L + by_) (fun h => by omega) (fun h => by omega)
  · rw [if_neg c]
    rw [t_lt, t_0] at c
    have q : (L - by_).toInt = L.toInt - by_.toInt := t_sub (by omega) (by omega)
    exact b57 (L - by_) (fun h => by omega) (fun h => by omega)
