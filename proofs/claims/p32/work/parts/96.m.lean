/-! pure part M: the law on its script -/
theorem appr_in_eq {u c k : Int} (h : u = c) : appr u c k = (if c + k ≤ u then c + k else u) := by unfold appr; rw [if_pos (by omega)]
theorem and_nn (a : Int32) : 0 ≤ (a &&& 2147483647).toInt := by
  have h1 : (a &&& 2147483647).toBitVec.toNat ≤ 2147483647 := by
    show (a.toBitVec &&& 2147483647#32).toNat ≤ 2147483647
    rw [BitVec.toNat_and]
    have e : (2147483647#32).toNat = 2147483647 := by decide
    have := @Nat.and_le_right a.toBitVec.toNat (2147483647#32).toNat
    omega
  have h2 : (a &&& 2147483647).toInt = ((a &&& 2147483647).toBitVec.toNat : Int) := BitVec.toInt_eq_toNat_of_lt (by omega)
  omega
theorem cell_nn (Lx : Nat) (xs : Nat → Int32) (k : Int32) : 0 ≤ (cellV Lx xs k).toInt := and_nn _
theorem mod_t {x c : Int32} {m : Int} (hc : c.toInt = m) (h0 : 0 ≤ x.toInt) (m0 : 0 < m) : (x - x / c * c).toInt = x.toInt % m ∧ 0 ≤ x.toInt % m ∧ x.toInt % m < m := by
  have xl := x.toInt_lt
  have e1 : (x / c).toInt = x.toInt / m := by rw [lg_idiv_nonneg h0 (by rw [hc]; exact m0), hc]
  have h1 := Int.emod_nonneg x.toInt (show m ≠ 0 by omega)
  have h2 := Int.emod_lt_of_pos x.toInt m0
  have h3 : x.toInt / m * m = x.toInt - x.toInt % m := by
    have := Int.emod_add_mul_ediv x.toInt m
    rw [Int.mul_comm] at this
    omega
  have h4 : x.toInt % m ≤ x.toInt := by
    have := Int.ediv_nonneg h0 (Int.le_of_lt m0)
    have := Int.mul_nonneg this (Int.le_of_lt m0)
    omega
  have e2 : (x / c * c).toInt = x.toInt - x.toInt % m := by rw [t_mul (by rw [e1, hc, h3]; omega) (by rw [e1, hc, h3]; omega), e1, hc, h3]
  refine ⟨?_, h1, h2⟩
  rw [t_sub (by rw [e2]; omega) (by rw [e2]; omega), e2]
  omega
/-- at the greatest load nothing is remembered -/
theorem top0 {V F : Int → Int} {L E C P W dz rt st z : Int32} {T X : Nat → Int32} {n : Nat} (S : SP V F L E C P W dz rt st z T X n) (h : L.toInt = 1000) : n = 0 ∧ W.toInt = 1 := by
  obtain ⟨hn, hz, bT, bX, L0, L1, ch, hW, -⟩ := S
  have hWs : W.toInt = sgn n := by
    rcases hW with q | q
    · omega
    · exact q
  rw [hWs] at ch
  match n, hWs, ch, bT with
  | 0, hWs, _, _ => exact ⟨rfl, hWs⟩
  | 1, _, ch, bT =>
    have b := bT 0 (by omega)
    have c1 : 0 < -1 * (L.toInt - (T 0).toInt) := ch.1
    omega
  | m + 2, _, ch, bT =>
    exfalso
    obtain ⟨c1, c2, -⟩ := ch
    have c1 : 0 < sgn (m + 2) * (L.toInt - (T (m + 1)).toInt) := c1
    have c2 : 0 < sgn (m + 2) * ((T m).toInt - L.toInt) := c2 m rfl
    have b := bT m (by omega)
    have b1 := bT (m + 1) (by omega)
    rcases sgn_pm (m + 2) with e | e <;> rw [e] at c1 c2 <;> omega
/-- the law's last row -/
theorem lw577 {V F : Int → Int} {N : Nat} {L E C P W : Int32} {A : Int64} {dz rt st z : Int32} {T X : Nat → Int32} {zc : Int32} {fc sc : Nat → Int32} {zk : Int32} {fk sk : Nat → Int32} {zw : Int32} {ms es vs ps pn : Nat → Int32} {hB : Nat → BS} {n n1 k : Nat} {tl L0 L1 E0 E1 : Int32} {A0 A1 : Int64} (hN : 3000 ≤ N) (hk : k ≤ 3) (H1 : HB V F n1 L1 E1 A1 (hB (k + 1))) (H0 : HB V F n L0 E0 A0 (hB k)) (hL : L0 = 1000) :
    f_L_law_b577 N tl 1 L E C P W A dz rt st z T X zc fc sc zk fk sk zw ms es vs ps pn (nI (k + 2)) hB = some 1 := by
  obtain ⟨v, hv, -⟩ := unL (hB := hB) (k := k + 1) (L := L) (E := E) (C := C) (P := P) (W := W) (A := A) (dz := dz) (rt := rt) (st := st) (z := z) (T := T) (X := X) (zc := zc) (fc := fc) (sc := sc) (zk := zk) (fk := fk) (sk := sk) (zw := zw) (ms := ms) (es := es) (vs := vs) (ps := ps) (pn := pn) (by omega) H1
  obtain ⟨u, hu, Hu⟩ := unL (hB := hB) (k := k) (L := v.1) (E := v.2.1) (C := v.2.2.1) (P := v.2.2.2.1) (W := v.2.2.2.2.1) (A := v.2.2.2.2.2.1) (dz := v.2.2.2.2.2.2.1) (rt := v.2.2.2.2.2.2.2.1) (st := v.2.2.2.2.2.2.2.2.1) (z := v.2.2.2.2.2.2.2.2.2.1) (T := v.2.2.2.2.2.2.2.2.2.2.1) (X := v.2.2.2.2.2.2.2.2.2.2.2.1) (zc := v.2.2.2.2.2.2.2.2.2.2.2.2.1) (fc := v.2.2.2.2.2.2.2.2.2.2.2.2.2.1) (sc := v.2.2.2.2.2.2.2.2.2.2.2.2.2.2.1) (zk := v.2.2.2.2.2.2.2.2.2.2.2.2.2.2.2.1) (fk := v.2.2.2.2.2.2.2.2.2.2.2.2.2.2.2.2.1) (sk := v.2.2.2.2.2.2.2.2.2.2.2.2.2.2.2.2.2.1) (zw := v.2.2.2.2.2.2.2.2.2.2.2.2.2.2.2.2.2.2.1) (ms := v.2.2.2.2.2.2.2.2.2.2.2.2.2.2.2.2.2.2.2.1) (es := v.2.2.2.2.2.2.2.2.2.2.2.2.2.2.2.2.2.2.2.2.1) (vs := v.2.2.2.2.2.2.2.2.2.2.2.2.2.2.2.2.2.2.2.2.2.1) (ps := v.2.2.2.2.2.2.2.2.2.2.2.2.2.2.2.2.2.2.2.2.2.2.1) (pn := v.2.2.2.2.2.2.2.2.2.2.2.2.2.2.2.2.2.2.2.2.2.2.2) (by omega) H0
  obtain ⟨h1, h2, h3, S, R, K, w⟩ := Hu
  unfold f_L_law_b577
  rw [if_neg (by decide), hv, ob_s]
  dsimp only
  rw [if_neg (nI_pos (by omega)), hu, ob_s]
  dsimp only
  rw [if_neg (nI_pos (by omega)), cnt0, ob_s, if_neg (fun e => e (h1.trans hL)), hol hN S R K, ob_s, if_neg (by decide)]
/-- the law's end: to the top, to 0, zero, back -/
theorem lw476 {V F : Int → Int} {N : Nat} {L E C P W : Int32} {A : Int64} {dz rt st z : Int32} {T X : Nat → Int32} {zc : Int32} {fc sc : Nat → Int32} {zk : Int32} {fk sk : Nat → Int32} {zw : Int32} {ms es vs ps pn : Nat → Int32} {hB : Nat → BS} {n k : Nat} {tl : Int32} (hN : 3000 ≤ N) (hk : k ≤ 5) (B : BI V F L E C P W A dz rt st z T X zc fc sc zk fk sk zw ms es vs ps pn n) : f_L_law_b476 N tl 1 L E C P W A dz rt st z T X zc fc sc zk fk sk zw ms es vs ps pn (nI k) hB = some 1 := by
  obtain ⟨r1, E1, P1, W1, z1, A1, T1, X1, hB1, k1, n1, g1, g2, g3, g4, g5, g6⟩ := setL (x := 1000) (hB := hB) hN hk B (by decide) (by decide)
  obtain ⟨S1, R1, K1, w1⟩ := id g3
  obtain ⟨e1, eW⟩ := top0 S1 t_1000
  subst e1
  have hz1 : z1 = nI 0 := S1.2.1
  obtain ⟨a1, a2, a3, a4, a5⟩ := id g5
  obtain ⟨r2, E2, P2, W2, z2, A2, T2, X2, hB2, k2, n2, q1, q2, q3, q4, q5, q6⟩ := setL (x := 0) (hB := hB1) hN a2 g3 (by decide) (by decide)
  have mv : MVD 1000 E1 W1 0 E2 W2 T1 X1 T2 X2 0 n2 := by
    rcases q6 with h | h
    · exact absurd h.1 (by decide)
    · exact h.2
  obtain ⟨D2, m1, c1, c2, c3, c4, c5, c6, c7, c8⟩ := mv
  rw [t_1000, t_0] at c1
  have eD : D2 = -1 := by omega
  subst eD
  have en : n2 = 1 := by
    rcases c3 with ⟨d1, d2, -⟩ | ⟨d1, -⟩
    · omega
    · exact absurd (by rw [eW]; rfl) d1
  subst en
  obtain ⟨S2, R2, K2, w2⟩ := id q3
  have hz2 : z2 = nI 1 := S2.2.1
  obtain ⟨b1, b2, b3, b4, b5⟩ := id q5
  obtain ⟨hB3, k3, s1, s2, s3⟩ := zrL (hB := hB2) b2 q3 rfl
  obtain ⟨d1, d2, d3, d4, d5⟩ := s3
  obtain ⟨k4, rfl⟩ : ∃ k4, k3 = k4 + 2 := ⟨k3 - 2, by omega⟩
  have d5 := d5 1 (by omega) (by omega)
  rw [show k4 + 2 - 1 - 1 = k4 by omega] at d5
  rw [← d5] at b4
  have fin := lw577 (N := N) (tl := tl) (hB := hB3) (k := k4) (L := 0) (E := 0) (C := 0) (P := 0) (W := 0) (A := 0) (dz := dz) (rt := rt) (st := st) (z := 0) (T := T2) (X := X2) (zc := zc) (fc := fc) (sc := sc) (zk := zk) (fk := fk) (sk := sk) (zw := zw) (ms := ms) (es := es) (vs := vs) (ps := ps) (pn := pn) hN (by omega) d4 b4 rfl
  unfold f_L_law_b476
  rw [if_neg (by decide), g1, ob_s]
  dsimp only
  rw [if_neg (by rw [t_lt, t_0]; omega), cnt1, ob_s, cvL hN S1 R1 rfl rfl, ob_s, if_neg (fun e => e rfl), cnt5, ob_s, if_neg (fun e => e hz1), q1, ob_s]
  dsimp only
  rw [if_neg (by rw [t_lt, t_0]; omega), cnt5, ob_s, if_neg (fun e => e hz2), s1, ob_s]
  dsimp only
  rw [if_neg (fun e => e hz2), acc0, ob_s, if_neg (fun e => e (lg_self 0)), cnt1, ob_s, if_neg (fun e => e rfl), cnt2, ob_s, if_neg (fun e => e rfl), cnt3, ob_s, if_neg (fun e => e rfl)]
  exact fin
/-- the creep has come as near as it should -/
theorem lw409 {V F : Int → Int} {N : Nat} {L E C P W : Int32} {A : Int64} {dz rt st z : Int32} {T X : Nat → Int32} {zc : Int32} {fc sc : Nat → Int32} {zk : Int32} {fk sk : Nat → Int32} {zw : Int32} {ms es vs ps pn : Nat → Int32} {hB : Nat → BS} {n : Nat} {tl hs x3 x4 x12 x15 s0 : Int32} {m w h : Int} {rc : Int32 → Int32 → Int32 → Int32 → Int32 → Int32 → Int32 → Int32 → Int64 → Int32 → Int32 → Int32 → Int32 → (Nat → Int32) → (Nat → Int32) → Int32 → (Nat → Int32) → (Nat → Int32) → Int32 → (Nat → Int32) → (Nat → Int32) → Int32 → (Nat → Int32) → (Nat → Int32) → (Nat → Int32) → (Nat → Int32) → (Nat → Int32) → Int32 → (Nat → BS) → Option Int32} (hN : 3000 ≤ N) (B : BI V F L E C P W A dz rt st z T X zc fc sc zk fk sk zw ms es vs ps pn n) (hrc : rc 1 x3 (x4 + 1) L E C P W A dz rt st z T X zc fc sc zk fk sk zw ms es vs ps pn hs hB = some 1)
    (hm : x15.toInt = m) (hw : s0.toInt = w) (hh : x12.toInt = h) (m0 : 0 ≤ m) (w1 : w ≤ 1000) (h0 : 0 ≤ h) (h1 : h ≤ 200) (c1 : m ≤ w) (c2 : w - m ≤ 2 * h) (c3 : m = 0 ∨ w - m = 2 * h) : f_L_law_b409 rc N tl x3 x4 x12 x15 s0 L E C P W A dz rt st z T X zc fc sc zk fk sk zw ms es vs ps pn hs hB = some 1 := by
  obtain ⟨S, R, K, wz⟩ := B
  have hst : st = 2 := S.2.2.2.2.2.2.2.2.2.2.2.2.2.2.2.1
  have e1 : (x12 * st).toInt = h * 2 := by rw [hst, t_mul (by rw [hh, t_2]; omega) (by rw [hh, t_2]; omega), hh, t_2]
  have e2 : (s0 - x15).toInt = w - m := by rw [t_sub (by omega) (by omega), hw, hm]
  unfold f_L_law_b409
  rw [if_neg (by rw [t_lt]; omega), cnt15, ob_s, if_neg (by rw [t_lt, e1, e2]; omega)]
  by_cases c : x15 = 0
  · rw [if_pos c, hol hN S R K, ob_s, if_neg (by decide), nm_s]
    exact hrc
  · have hm0 : m ≠ 0 := fun e => c (t_eq.mpr (by rw [hm, t_0]; exact e))
    rw [if_neg c, ob_s, if_neg (fun e => e (t_eq.mpr (by rw [e1, e2]; omega))), hol hN S R K, ob_s, if_neg (by decide), nm_s]
    exact hrc
theorem t_5b : (5 : Int32).toInt = 5 := by decide
/-- hours, where the cell says so -/
theorem lw314 {V F : Int → Int} {N : Nat} {L E C P W : Int32} {A : Int64} {dz rt st z : Int32} {T X : Nat → Int32} {zc : Int32} {fc sc : Nat → Int32} {zk : Int32} {fk sk : Nat → Int32} {zw : Int32} {ms es vs ps pn : Nat → Int32} {hB : Nat → BS} {n k : Nat} {tl x3 x4 x5 : Int32} {rc : Int32 → Int32 → Int32 → Int32 → Int32 → Int32 → Int32 → Int32 → Int64 → Int32 → Int32 → Int32 → Int32 → (Nat → Int32) → (Nat → Int32) → Int32 → (Nat → Int32) → (Nat → Int32) → Int32 → (Nat → Int32) → (Nat → Int32) → Int32 → (Nat → Int32) → (Nat → Int32) → (Nat → Int32) → (Nat → Int32) → (Nat → Int32) → Int32 → (Nat → BS) → Option Int32} (hN : 3000 ≤ N) (hk : k ≤ 5) (B : BI V F L E C P W A dz rt st z T X zc fc sc zk fk sk zw ms es vs ps pn n) (y0 : 0 ≤ x5.toInt)
    (hrc : ∀ (C P : Int32) (hB : Nat → BS) (k : Nat), k ≤ 5 → BI V F L E C P W A dz rt st z T X zc fc sc zk fk sk zw ms es vs ps pn n → rc 1 x3 (x4 + 1) L E C P W A dz rt st z T X zc fc sc zk fk sk zw ms es vs ps pn (nI k) hB = some 1) : f_L_law_b314 rc N tl x3 x4 x5 1 L E C P W A dz rt st z T X zc fc sc zk fk sk zw ms es vs ps pn (nI k) hB = some 1 := by
  obtain ⟨S, R, K, wz⟩ := id B
  obtain ⟨hn, hz, bT, bX, L0, L1, ch, hW, ex, eE, E0, E1, C0, C1, hr, hs, z0, z1, p1, p2⟩ := id S
  unfold f_L_law_b314
  rw [if_neg (by decide)]
  by_cases c : ¬ x5 - x5 / 5 * 5 = 0
  · rw [if_pos c, nm_s]
    exact hrc C P hB k hk B
  · rw [if_neg c]
    obtain ⟨m1, m2, m3⟩ := mod_t (c := 100) t_100 y0 (by omega)
    have eh : (1 + (x5 - x5 / 100 * 100)).toInt = 1 + x5.toInt % 100 := by rw [t_add (by rw [m1, t_1]; omega) (by rw [m1, t_1]; omega), m1, t_1]
    obtain ⟨h, hh1, hh2, hh3⟩ : ∃ h : Nat, 1 ≤ h ∧ h ≤ 100 ∧ 1 + (x5 - x5 / 100 * 100) = nI h := ⟨(1 + x5.toInt % 100).toNat, by omega, by omega, nI_of_t (by rw [eh]; omega)⟩
    obtain ⟨C', P', hB', k', g1, g2, g3, g4⟩ := hrL (hB := hB) hN hk B hh1 (by omega)
    obtain ⟨d1, d2, d3⟩ := e_due L0 L1
    obtain ⟨a1, a2, -⟩ := g4
    have hC' := appr_in (k := 2 * (h : Int)) (by omega) d2 d3 C0 C1
    rw [← g3] at hC'
    have th : (nI h).toInt = (h : Int) := t_nI (by omega)
    have done : ∀ (x15 s0 : Int32) (m w : Int), x15.toInt = m → s0.toInt = w → 0 ≤ m → w ≤ 1000 → m ≤ w → w - m ≤ 2 * (h : Int) → (m = 0 ∨ w - m = 2 * (h : Int)) → f_L_law_b409 rc N tl x3 x4 (nI h) x15 s0 L E C' P' W A dz rt st z T X zc fc sc zk fk sk zw ms es vs ps pn (nI k') hB' = some 1 :=
      fun x15 s0 m w q1 q2 q3 q4 q5 q6 q7 => lw409 hN g2 (hrc C' P' hB' k' a2 g2) q1 q2 th q3 q4 (by omega) (by omega) q5 q6 q7
    have two : ∀ (x15 : Int32) (m : Int), x15.toInt = m → (m = L.toInt * 10 / 100 - C'.toInt ∧ C'.toInt ≤ L.toInt * 10 / 100 ∨ m = C'.toInt - L.toInt * 10 / 100 ∧ L.toInt * 10 / 100 ≤ C'.toInt) → f_L_law_b387 rc N tl x3 x4 C (nI h) (L * 10 / 100) x15 L E C' P' W A dz rt st z T X zc fc sc zk fk sk zw ms es vs ps pn (nI k') hB' = some 1 := by
      intro x15 m q1 q2
      unfold f_L_law_b387
      by_cases b : L * 10 / 100 ≤ C
      · rw [if_pos b]
        rw [t_le, d1] at b
        have ew : (C - L * 10 / 100).toInt = C.toInt - L.toInt * 10 / 100 := by rw [t_sub (by rw [d1]; omega) (by rw [d1]; omega), d1]
        refine done _ _ m _ q1 ew ?_ ?_ ?_ ?_ ?_
        all_goals
          by_cases b2 : L.toInt * 10 / 100 = C.toInt
          · rw [appr_in_eq b2] at g3
            omega
          · by_cases b3 : L.toInt * 10 / 100 ≤ C.toInt - 2 * (h : Int)
            · rw [appr_c (by omega) b3] at g3
              omega
            · rw [appr_d (by omega) (by omega)] at g3
              omega
      · rw [if_neg b]
        rw [t_le, d1] at b
        have ew : (L * 10 / 100 - C).toInt = L.toInt * 10 / 100 - C.toInt := by rw [t_sub (by rw [d1]; omega) (by rw [d1]; omega), d1]
        refine done _ _ m _ q1 ew ?_ ?_ ?_ ?_ ?_
        all_goals
          by_cases b3 : C.toInt + 2 * (h : Int) ≤ L.toInt * 10 / 100
          · rw [appr_a (by omega) b3] at g3
            omega
          · rw [appr_b (by omega) (by omega)] at g3
            omega
    rw [cnt2, ob_s, nm_s, cnt0, ob_s, cnt14, ob_s, nm_s, hh3, g1, ob_s, hr]
    dsimp only
    by_cases b : L * 10 / 100 ≤ C'
    · rw [if_pos b]
      rw [t_le, d1] at b
      have em : (C' - L * 10 / 100).toInt = C'.toInt - L.toInt * 10 / 100 := by rw [t_sub (by rw [d1]; omega) (by rw [d1]; omega), d1]
      have t := two (C' - L * 10 / 100) _ em (Or.inr ⟨rfl, b⟩)
      rw [hr] at t
      exact t
    · rw [if_neg b]
      rw [t_le, d1] at b
      have em : (L * 10 / 100 - C').toInt = L.toInt * 10 / 100 - C'.toInt := by rw [t_sub (by rw [d1]; omega) (by rw [d1]; omega), d1]
      have t := two (L * 10 / 100 - C') _ em (Or.inl ⟨rfl, by omega⟩)
      rw [hr] at t
      exact t
/-- the account, what holds checks, the loop, hours -/
theorem lw262 {V F : Int → Int} {N : Nat} {L E C P W : Int32} {A : Int64} {dz rt st z : Int32} {T X : Nat → Int32} {zc : Int32} {fc sc : Nat → Int32} {zk : Int32} {fk sk : Nat → Int32} {zw : Int32} {ms es vs ps pn : Nat → Int32} {hB : Nat → BS} {n k : Nat} {tl x3 x4 x5 x6 x7 x8 : Int32} {x9 : Int64} {rc : Int32 → Int32 → Int32 → Int32 → Int32 → Int32 → Int32 → Int32 → Int64 → Int32 → Int32 → Int32 → Int32 → (Nat → Int32) → (Nat → Int32) → Int32 → (Nat → Int32) → (Nat → Int32) → Int32 → (Nat → Int32) → (Nat → Int32) → Int32 → (Nat → Int32) → (Nat → Int32) → (Nat → Int32) → (Nat → Int32) → (Nat → Int32) → Int32 → (Nat → BS) → Option Int32} (hN : 3000 ≤ N) (hk : k ≤ 5) (B : BI V F L E C P W A dz rt st z T X zc fc sc zk fk sk zw ms es vs ps pn n) (y0 : 0 ≤ x5.toInt) (hA : A = x9 + (x8 + x6).toInt64 * (E - x7).toInt64)
    (hrc : ∀ (L E C P W : Int32) (A : Int64) (dz rt st z : Int32) (T X : Nat → Int32) (zc : Int32) (fc sc : Nat → Int32) (zk : Int32) (fk sk : Nat → Int32) (zw : Int32) (ms es vs ps pn : Nat → Int32) (hB : Nat → BS) (k n : Nat), k ≤ 5 → BI V F L E C P W A dz rt st z T X zc fc sc zk fk sk zw ms es vs ps pn n → rc 1 x3 (x4 + 1) L E C P W A dz rt st z T X zc fc sc zk fk sk zw ms es vs ps pn (nI k) hB = some 1) : f_L_law_b262 rc N tl x3 x4 x5 x6 x7 x8 x9 L E C P W A dz rt st z T X zc fc sc zk fk sk zw ms es vs ps pn (nI k) hB = some 1 := by
  obtain ⟨S, R, K, wz⟩ := id B
  have t1001 : (1001 : Int32).toInt = 1001 := by decide
  obtain ⟨b, k', hB', g1, g2, g3⟩ := lop (tl := tl) (hB := hB) (y := x5 / 1001) hN hk B (by rw [lg_idiv_nonneg y0 (by rw [t1001]; omega), t1001]; omega)
  obtain ⟨h1, h2, h3, B2⟩ := g3
  unfold f_L_law_b262
  rw [acc0, ob_s, cnt1, ob_s, ← hA, if_neg (fun e => e (lg_self A)), hol hN S R K, ob_s, if_neg (by decide), g1, ob_s]
  dsimp only
  rw [if_neg (by decide)]
  exact lw314 hN g2 B2 y0 (fun C P hB k hk B => hrc b.1 b.2.1 C P b.2.2.2.2.1 b.2.2.2.2.2.1 b.2.2.2.2.2.2.1 b.2.2.2.2.2.2.2.1 b.2.2.2.2.2.2.2.2.1 b.2.2.2.2.2.2.2.2.2.1 b.2.2.2.2.2.2.2.2.2.2.1 b.2.2.2.2.2.2.2.2.2.2.2.1 b.2.2.2.2.2.2.2.2.2.2.2.2.1 b.2.2.2.2.2.2.2.2.2.2.2.2.2.1 b.2.2.2.2.2.2.2.2.2.2.2.2.2.2.1 b.2.2.2.2.2.2.2.2.2.2.2.2.2.2.2.1 b.2.2.2.2.2.2.2.2.2.2.2.2.2.2.2.2.1 b.2.2.2.2.2.2.2.2.2.2.2.2.2.2.2.2.2.1 b.2.2.2.2.2.2.2.2.2.2.2.2.2.2.2.2.2.2.1 b.2.2.2.2.2.2.2.2.2.2.2.2.2.2.2.2.2.2.2.1 b.2.2.2.2.2.2.2.2.2.2.2.2.2.2.2.2.2.2.2.2.1 b.2.2.2.2.2.2.2.2.2.2.2.2.2.2.2.2.2.2.2.2.2.1 b.2.2.2.2.2.2.2.2.2.2.2.2.2.2.2.2.2.2.2.2.2.2.1 b.2.2.2.2.2.2.2.2.2.2.2.2.2.2.2.2.2.2.2.2.2.2.2 hB k n hk B)
theorem lw243 {V F : Int → Int} {N : Nat} {L E C P W : Int32} {A : Int64} {dz rt st z : Int32} {T X : Nat → Int32} {zc : Int32} {fc sc : Nat → Int32} {zk : Int32} {fk sk : Nat → Int32} {zw : Int32} {ms es vs ps pn : Nat → Int32} {hB : Nat → BS} {n k : Nat} {tl x3 x4 x5 x6 x7 x8 : Int32} {x9 : Int64} {rc : Int32 → Int32 → Int32 → Int32 → Int32 → Int32 → Int32 → Int32 → Int64 → Int32 → Int32 → Int32 → Int32 → (Nat → Int32) → (Nat → Int32) → Int32 → (Nat → Int32) → (Nat → Int32) → Int32 → (Nat → Int32) → (Nat → Int32) → Int32 → (Nat → Int32) → (Nat → Int32) → (Nat → Int32) → (Nat → Int32) → (Nat → Int32) → Int32 → (Nat → BS) → Option Int32} (hN : 3000 ≤ N) (hk : k ≤ 5) (B : BI V F L E C P W A dz rt st z T X zc fc sc zk fk sk zw ms es vs ps pn n) (y0 : 0 ≤ x5.toInt) (hA : A = x9 + (x8 + x6).toInt64 * (E - x7).toInt64)
    (hx7 : -40000 ≤ x7.toInt ∧ x7.toInt ≤ 20000) (hdn : x6.toInt < x8.toInt → E.toInt ≤ x7.toInt)
    (hrc : ∀ (L E C P W : Int32) (A : Int64) (dz rt st z : Int32) (T X : Nat → Int32) (zc : Int32) (fc sc : Nat → Int32) (zk : Int32) (fk sk : Nat → Int32) (zw : Int32) (ms es vs ps pn : Nat → Int32) (hB : Nat → BS) (k n : Nat), k ≤ 5 → BI V F L E C P W A dz rt st z T X zc fc sc zk fk sk zw ms es vs ps pn n → rc 1 x3 (x4 + 1) L E C P W A dz rt st z T X zc fc sc zk fk sk zw ms es vs ps pn (nI k) hB = some 1) : f_L_law_b243 rc N tl x3 x4 x5 x6 x7 x8 x9 L E C P W A dz rt st z T X zc fc sc zk fk sk zw ms es vs ps pn (nI k) hB = some 1 := by
  unfold f_L_law_b243
  by_cases c : x8 ≤ x6
  · rw [if_pos c]
    exact lw262 hN hk B y0 hA hrc
  · rw [if_neg c]
    rw [t_le] at c
    have e : (x7 + 1).toInt = x7.toInt + 1 := by rw [t_add (by rw [t_1]; omega) (by rw [t_1]; omega), t_1]
    have q := hdn (by omega)
    rw [cnt1, ob_s, if_neg (by rw [t_lt, e]; omega)]
    exact lw262 hN hk B y0 hA hrc
/-- the law's second loop -/
theorem lw155 {V F : Int → Int} {N Lx : Nat} {xs : Nat → Int32} {tl : Int32} (hN : 3000 ≤ N) : ∀ (j i f : Nat) (x3 : Int32) (L E C P W : Int32) (A : Int64) (dz rt st z : Int32) (T X : Nat → Int32) (zc : Int32) (fc sc : Nat → Int32) (zk : Int32) (fk sk : Nat → Int32) (zw : Int32) (ms es vs ps pn : Nat → Int32) (hB : Nat → BS) (k n : Nat), i + j = 24 → j < f → k ≤ 5 → BI V F L E C P W A dz rt st z T X zc fc sc zk fk sk zw ms es vs ps pn n → f_L_law_b155 N Lx xs tl f 1 x3 (nI i) L E C P W A dz rt st z T X zc fc sc zk fk sk zw ms es vs ps pn (nI k) hB = some 1 := by
  intro j
  induction j with
  | zero =>
    intro i f x3 L E C P W A dz rt st z T X zc fc sc zk fk sk zw ms es vs ps pn hB k n hi hf hk B
    obtain ⟨f, rfl⟩ : ∃ f', f = f' + 1 := ⟨f - 1, by omega⟩
    rw [f_L_law_b155, if_pos (show (24 : Int32) ≤ nI i from nI_le (a := 24) (by omega) (by omega))]
    exact lw476 hN hk B
  | succ j ih =>
    intro i f x3 L E C P W A dz rt st z T X zc fc sc zk fk sk zw ms es vs ps pn hB k n hi hf hk B
    obtain ⟨f, rfl⟩ : ∃ f', f = f' + 1 := ⟨f - 1, by omega⟩
    have t1001 : (1001 : Int32).toInt = 1001 := by decide
    obtain ⟨y, hy⟩ : ∃ y : Int32, y = cellV Lx xs (9 + nI i) := ⟨_, rfl⟩
    have y0 : 0 ≤ y.toInt := by rw [hy]; exact cell_nn _ _ _
    obtain ⟨m1, m2, m3⟩ := mod_t (c := 1001) t1001 y0 (by omega)
    have ex : ¬ (9 : Int32) + nI i < 0 := by rw [show (9 : Int32) + nI i = nI (9 + i) from nI_add 9 i]; exact nI_pos (by omega)
    obtain ⟨x, hx⟩ : ∃ x : Int32, x = y - y / 1001 * 1001 := ⟨_, rfl⟩
    rw [← hx] at m1
    obtain ⟨r, E', P', W', z', A', T', X', hB', k', n', g1, g2, g3, g4, g5, g6⟩ := setL (x := x) (hB := hB) hN hk B (by omega) (by omega)
    obtain ⟨S, R, K, wz⟩ := id B
    have E0 : -40000 ≤ E.toInt := S.2.2.2.2.2.2.2.2.2.2.1
    have E1 : E.toInt ≤ 20000 := S.2.2.2.2.2.2.2.2.2.2.2.1
    have a2 := g5.2.1
    have up : L.toInt < x.toInt → E.toInt ≤ E'.toInt := by
      intro q
      rcases g6 with h | ⟨-, D, m, c1, c2, c3, c4, c5, c6, c7, c8⟩
      · rw [h.1] at q; omega
      · rcases c1 with d | d
        · rw [d.1] at c8; omega
        · omega
    have dn : x.toInt < L.toInt → E'.toInt ≤ E.toInt := by
      intro q
      rcases g6 with h | ⟨-, D, m, c1, c2, c3, c4, c5, c6, c7, c8⟩
      · rw [h.1] at q; omega
      · rcases c1 with d | d
        · omega
        · rw [d.1] at c8; omega
    have go := lw243 (hB := hB') (tl := tl) (x3 := x3) (x4 := nI i) (rc := f_L_law_b155 N Lx xs tl f) hN a2 g3 y0 g4 ⟨E0, E1⟩ dn (fun L E C P W A dz rt st z T X zc fc sc zk fk sk zw ms es vs ps pn hB k n hk B => by
      rw [p_1]
      exact ih (i + 1) f x3 L E C P W A dz rt st z T X zc fc sc zk fk sk zw ms es vs ps pn hB k n (by omega) (by omega) hk B)
    rw [f_L_law_b155, if_neg (show ¬ (24 : Int32) ≤ nI i from nI_ge (a := i) (b := 24) (by omega) (by omega)), if_neg (by decide), nm_s, gT_t _ ex, ← hy, nm_s, ← hx, nm_s, cnt1, ob_s, cnt0, ob_s, acc0, ob_s, g1, ob_s]
    dsimp only
    rw [if_neg (by rw [t_lt, t_0]; omega), cnt0, ob_s, if_neg (fun e => e rfl)]
    by_cases c : x ≤ L
    · rw [if_pos c]
      exact go
    · rw [if_neg c]
      rw [t_le] at c
      have e : (E - 1).toInt = E.toInt - 1 := by rw [t_sub (by rw [t_1]; omega) (by rw [t_1]; omega), t_1]
      have q := up (by omega)
      rw [cnt1, ob_s, if_neg (by rw [t_lt, e]; omega)]
      exact go
theorem t_150 : (150 : Int32).toInt = 150 := by decide
/-- the law's first loop: from 0 up it is the curve -/
theorem lw77 {V F : Int → Int} {N Lx : Nat} {xs : Nat → Int32} {tl C dz rt st zc zk zw : Int32} {fc sc fk sk ms es vs ps pn : Nat → Int32} (hN : 3000 ≤ N) : ∀ (j i f : Nat) (L E P W : Int32) (A : Int64) (z : Int32) (T X : Nat → Int32) (hB : Nat → BS) (k : Nat), i + j = 6 → j < f → k ≤ 5 → L.toInt ≤ 149 * (i : Int) → BI V F L E C P W A dz rt st z T X zc fc sc zk fk sk zw ms es vs ps pn 0 → f_L_law_b77 N Lx xs tl C dz rt st zc fc sc zk fk sk zw ms es vs ps pn f 1 L (nI i) L E P W A z T X (nI k) hB = some 1 := by
  intro j
  induction j with
  | zero =>
    intro i f L E P W A z T X hB k hi hf hk hL B
    obtain ⟨f, rfl⟩ : ∃ f', f = f' + 1 := ⟨f - 1, by omega⟩
    rw [f_L_law_b77, if_pos (show (6 : Int32) ≤ nI i from nI_le (a := 6) (by omega) (by omega))]
    exact lw155 hN 24 0 N L L E C P W A dz rt st z T X zc fc sc zk fk sk zw ms es vs ps pn hB k 0 rfl (by omega) hk B
  | succ j ih =>
    intro i f L E P W A z T X hB k hi hf hk hL B
    obtain ⟨f, rfl⟩ : ∃ f', f = f' + 1 := ⟨f - 1, by omega⟩
    obtain ⟨S, R, K, wz⟩ := id B
    have L0 : 0 ≤ L.toInt := S.2.2.2.2.1
    have hW : W = 0 ∧ 0 = 0 ∧ L.toInt = 0 ∨ W.toInt = sgn 0 := S.2.2.2.2.2.2.2.1
    obtain ⟨y, hy⟩ : ∃ y : Int32, y = cellV Lx xs (3 + nI i) := ⟨_, rfl⟩
    have y0 : 0 ≤ y.toInt := by rw [hy]; exact cell_nn _ _ _
    obtain ⟨m1, m2, m3⟩ := mod_t (c := 150) t_150 y0 (by omega)
    have ex : ¬ (3 : Int32) + nI i < 0 := by rw [show (3 : Int32) + nI i = nI (3 + i) from nI_add 3 i]; exact nI_pos (by omega)
    obtain ⟨x, hx⟩ : ∃ x : Int32, x = L + (y - y / 150 * 150) := ⟨_, rfl⟩
    have xt : x.toInt = L.toInt + y.toInt % 150 := by rw [hx, t_add (by rw [m1]; omega) (by rw [m1]; omega), m1]
    obtain ⟨r, E', P', W', z', A', T', X', hB', k', n', g1, g2, g3, g4, g5, g6⟩ := setL (x := x) (hB := hB) hN hk B (by omega) (by omega)
    have en : n' = 0 := by
      rcases g6 with h | ⟨hne, D, m, c1, c2, c3, c4, c5, c6, c7, c8⟩
      · exact h.2.1
      · have hlt : L.toInt < x.toInt := by
          have : x.toInt ≠ L.toInt := fun e => hne (t_eq.mpr e)
          omega
        have eD : D = 1 := by rcases c1 with d | d <;> omega
        subst eD
        rcases c3 with ⟨d1, -⟩ | ⟨d1, d2, -⟩
        · rcases hW with h | h
          · rw [h.1, t_0] at d1; omega
          · rw [h] at d1; exact absurd d1 (by decide)
        · omega
    subst en
    obtain ⟨S', R', K', wz'⟩ := id g3
    have hz' : z' = nI 0 := S'.2.1
    rw [f_L_law_b77, if_neg (show ¬ (6 : Int32) ≤ nI i from nI_ge (a := i) (b := 6) (by omega) (by omega)), if_neg (by decide), nm_s, gT_t _ ex, ← hy, ← hx, nm_s, g1, ob_s]
    dsimp only
    rw [if_neg (by rw [t_lt, t_0]; omega), cnt1, ob_s, cvL hN S' R' rfl rfl, ob_s, if_neg (fun e => e rfl), cnt5, ob_s, if_neg (fun e => e hz'), hol hN S' R' K', ob_s, if_neg (by decide), nm_s, p_1]
    exact ih (i + 1) f x E' P' W' A' z' T' X' hB' k' (by omega) (by omega) g5.2.1 (by omega) g3
