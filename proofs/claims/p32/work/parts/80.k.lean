/-! pure part K: the calls that change something -/
theorem mass0 {N : Nat} {ms pn : Nat → Int32} (hN : 0 < N) : f_X6_massOnPan N 0 ms pn = some 0 := by
  obtain ⟨N, rfl⟩ : ∃ N', N = N' + 1 := ⟨N - 1, by omega⟩
  unfold f_X6_massOnPan
  rw [f_X6_massOnPan_b4, if_pos (by decide)]
theorem err0 : f_X7_errorOf 0 = some 0 := rfl
/-- what a load that goes to another one does to the turning points -/
def MVD (L E W x E' W' : Int32) (T X T' X' : Nat → Int32) (n n' : Nat) : Prop :=
  ∃ (D : Int) (n1 : Nat), (D = 1 ∧ L.toInt < x.toInt ∨ D = -1 ∧ x.toInt < L.toInt) ∧ W'.toInt = D ∧ ((W.toInt = -D ∧ n1 = n + 1 ∧ T' = upd T n L ∧ X' = upd X n E) ∨ (W.toInt ≠ -D ∧ n1 = n ∧ T' = T ∧ X' = X)) ∧
    n' ≤ n1 ∧ n' % 2 = n1 % 2 ∧ (n' < n1 → 0 ≤ D * (x.toInt - (T' n').toInt)) ∧ ((∀ m, n1 = m + 2 → D * (x.toInt - (T' m).toInt) < 0) → n' = n1) ∧ 0 ≤ D * (E'.toInt - E.toInt)
theorem l_mul0 (a : Int64) (E : Int32) : a * (E - E).toInt64 = 0 := by
  rw [Int32.sub_self]
  show a * (0 : Int64) = 0
  exact Int64.mul_zero
/-- the load is set -/
theorem setL {V F : Int → Int} {N : Nat} {L E C P W : Int32} {A : Int64} {dz rt st z : Int32} {T X : Nat → Int32} {zc : Int32} {fc sc : Nat → Int32} {zk : Int32} {fk sk : Nat → Int32} {zw : Int32} {ms es vs ps pn : Nat → Int32} {hB : Nat → BS} {n k : Nat} {x : Int32} (hN : 3000 ≤ N) (hk : k ≤ 5) (B : BI V F L E C P W A dz rt st z T X zc fc sc zk fk sk zw ms es vs ps pn n) (x0 : 0 ≤ x.toInt) (x1 : x.toInt ≤ 1000) :
    ∃ (r E' P' W' z' : Int32) (A' : Int64) (T' X' : Nat → Int32) (hB' : Nat → BS) (k' n' : Nat), f_X7_setLoad N L E C P W A dz rt st z T X zc fc sc zk fk sk zw ms es vs ps pn (nI k) hB x = some (r, x, E', P', W', A', z', T', X', nI k', hB') ∧ 0 ≤ r.toInt ∧
      BI V F x E' C P' W' A' dz rt st z' T' X' zc fc sc zk fk sk zw ms es vs ps pn n' ∧ A' = A + (L + x).toInt64 * (E' - E).toInt64 ∧ RCD V F n L E A k hB k' hB' ∧
      ((x = L ∧ n' = n ∧ E' = E ∧ W' = W ∧ T' = T ∧ X' = X) ∨ (¬ x = L ∧ MVD L E W x E' W' T X T' X' n n')) := by
  obtain ⟨hB', k', hr, HR⟩ := rcd (hB := hB) B hk
  obtain ⟨S, R, K, hw⟩ := B
  have hm : f_X0_refusalOfLoad N zw ms pn x = some 0 := by
    unfold f_X0_refusalOfLoad
    rw [hw, mass0 (by omega), ob_s, if_pos (by rw [t_le, t_0]; exact x0)]
  have ho : f_X7_isOutside x 0 1000 = some 0 := by
    rw [e_out, if_neg]
    rintro (h | h)
    · rw [t_lt, t_0] at h; omega
    · rw [t_lt, t_1000] at h; omega
  by_cases c : x = L
  · obtain ⟨hn, hz, bT, bX, L0, L1, ch, hW, ex, eE, E0, E1, C0, C1, hrr, hs, z0, z1, p1, p2⟩ := id S
    obtain ⟨r, w, q1, q2, q3, q4⟩ := rdb (N := N) (P := P) (by omega) K (by omega)
    subst c
    refine ⟨r, E, P, W, z, A, T, X, hB', k', n, ?_, q2, ⟨S, R, K, hw⟩, by rw [l_mul0, Int64.add_zero], HR, Or.inl ⟨rfl, rfl, rfl, rfl, rfl, rfl⟩⟩
    unfold f_X7_setLoad
    rw [ho, ob_s, if_pos rfl, hm, ob_s, err0, ob_s, if_pos rfl, hr, ob_s, chg_no, ob_s, q1, ob_s]
  · obtain ⟨D, n1, n', T1, X1, E', P', W', z', g1, g2, g3, g4, g5, g6, g7, g8, g9, g10⟩ := chg (A := A) hN S R x0 x1 c
    obtain ⟨hn, hz, bT, bX, L0, L1, ch, hW, ex, eE, E0, E1, C0, C1, hrr, hs, z0, z1, p1, p2⟩ := id g2
    obtain ⟨r, w, q1, q2, q3, q4⟩ := rdb (N := N) (P := P') (by omega) K (by omega)
    refine ⟨r, E', P', W', z', _, T1, X1, hB', k', n', ?_, q2, ⟨g2, R, K, hw⟩, rfl, HR, Or.inr ⟨c, D, n1, g3, g4, g5, g6, g7, g8, g9, g10⟩⟩
    unfold f_X7_setLoad
    rw [ho, ob_s, if_pos rfl, hm, ob_s, err0, ob_s, if_pos rfl, hr, ob_s, g1, ob_s, q1, ob_s]
/-- hours go by -/
theorem hrL {V F : Int → Int} {N : Nat} {L E C P W : Int32} {A : Int64} {dz rt st z : Int32} {T X : Nat → Int32} {zc : Int32} {fc sc : Nat → Int32} {zk : Int32} {fk sk : Nat → Int32} {zw : Int32} {ms es vs ps pn : Nat → Int32} {hB : Nat → BS} {n k : Nat} {h : Nat} (hN : 3000 ≤ N) (hk : k ≤ 5) (B : BI V F L E C P W A dz rt st z T X zc fc sc zk fk sk zw ms es vs ps pn n) (h0 : 1 ≤ h) (h1 : h ≤ 200) :
    ∃ (C' P' : Int32) (hB' : Nat → BS) (k' : Nat), f_X7_hours N L E C P W A dz rt st z T X zc fc sc zk fk sk zw ms es vs ps pn (nI k) hB (nI h) = some (C', C', P', nI k', hB') ∧
      BI V F L E C' P' W A dz rt st z T X zc fc sc zk fk sk zw ms es vs ps pn n ∧ C'.toInt = appr (L.toInt * 10 / 100) C.toInt (2 * (h : Int)) ∧ RCD V F n L E A k hB k' hB' := by
  obtain ⟨hB', k', hr, HR⟩ := rcd (hB := hB) B hk
  obtain ⟨S, R, K, hw⟩ := B
  have ho : f_X7_isOutside (nI h) 1 200 = some 0 := by
    rw [e_out, if_neg]
    rintro (h | h)
    · rw [t_lt, t_1, t_nI (by omega)] at h; omega
    · rw [t_lt, t_200, t_nI (by omega)] at h; omega
  obtain ⟨C', P', g1, g2, g3⟩ := hrs hN S h1
  refine ⟨C', P', hB', k', ?_, ⟨g2, R, K, hw⟩, g3, HR⟩
  unfold f_X7_hours
  rw [ho, ob_s, if_pos rfl, hr, ob_s, g1, ob_s]
/-- zero -/
theorem zrL {V F : Int → Int} {L E C P W : Int32} {A : Int64} {dz rt st z : Int32} {T X : Nat → Int32} {zc : Int32} {fc sc : Nat → Int32} {zk : Int32} {fk sk : Nat → Int32} {zw : Int32} {ms es vs ps pn : Nat → Int32} {hB : Nat → BS} {n k : Nat} (hk : k ≤ 5) (B : BI V F L E C P W A dz rt st z T X zc fc sc zk fk sk zw ms es vs ps pn n) (h0 : L = 0) :
    ∃ (hB' : Nat → BS) (k' : Nat), f_X7_zero L E C P W A dz rt st z T X zc fc sc zk fk sk zw ms es vs ps pn (nI k) hB = some (z, 0, 0, 0, 0, 0, 0, nI k', hB') ∧
      BI V F L 0 0 0 0 0 dz rt st 0 T X zc fc sc zk fk sk zw ms es vs ps pn 0 ∧ RCD V F n L E A k hB k' hB' := by
  obtain ⟨hB', k', hr, HR⟩ := rcd (hB := hB) B hk
  obtain ⟨S, R, K, hw⟩ := B
  obtain ⟨hn, rfl, bT, bX, L0, L1, ch, hW, ex, eE, E0, E1, C0, C1, hrr, hs, z0, z1, p1, p2⟩ := S
  have hV := CU_VF R
  refine ⟨hB', k', ?_, ⟨⟨by omega, rfl, fun i hi => absurd hi (by omega), fun i hi => absurd hi (by omega), L0, L1, trivial, Or.inl ⟨rfl, rfl, by rw [h0]; exact t_0⟩, fun i hi => absurd hi (by omega), ?_, by rw [t_0]; omega, by rw [t_0]; omega, by rw [t_0]; omega, by rw [t_0]; omega, hrr, hs, z0, z1, by rw [t_0]; omega, by rw [t_0]; omega⟩, R, K, hw⟩, HR⟩
  · unfold f_X7_zero f_X0_refusalOfZero f_X3_rest f_X3_reach
    rw [if_neg (fun e => e h0), ob_s, err0, ob_s, if_pos rfl, hr, ob_s, show (0 : Int32) = nI 0 from rfl, e_shrink (by omega) (by omega), ob_s, ob_s]
    rfl
  · show (0 : Int32).toInt = V L.toInt
    rw [h0, t_0, hV.1]
/-- the latest state comes back -/
theorem unL {V F : Int → Int} {L E C P W : Int32} {A : Int64} {dz rt st z : Int32} {T X : Nat → Int32} {zc : Int32} {fc sc : Nat → Int32} {zk : Int32} {fk sk : Nat → Int32} {zw : Int32} {ms es vs ps pn : Nat → Int32} {hB : Nat → BS} {n k : Nat} {L0 E0 : Int32} {A0 : Int64} (hk : k ≤ 4) (H : HB V F n L0 E0 A0 (hB k)) :
    ∃ u : BS, f_X7_undo L E C P W A dz rt st z T X zc fc sc zk fk sk zw ms es vs ps pn (nI (k + 1)) hB = some (nI k, u.1, u.2.1, u.2.2.1, u.2.2.2.1, u.2.2.2.2.1, u.2.2.2.2.2.1, u.2.2.2.2.2.2.1, u.2.2.2.2.2.2.2.1, u.2.2.2.2.2.2.2.2.1, u.2.2.2.2.2.2.2.2.2.1, u.2.2.2.2.2.2.2.2.2.2.1, u.2.2.2.2.2.2.2.2.2.2.2.1, u.2.2.2.2.2.2.2.2.2.2.2.2.1, u.2.2.2.2.2.2.2.2.2.2.2.2.2.1, u.2.2.2.2.2.2.2.2.2.2.2.2.2.2.1, u.2.2.2.2.2.2.2.2.2.2.2.2.2.2.2.1, u.2.2.2.2.2.2.2.2.2.2.2.2.2.2.2.2.1, u.2.2.2.2.2.2.2.2.2.2.2.2.2.2.2.2.2.1, u.2.2.2.2.2.2.2.2.2.2.2.2.2.2.2.2.2.2.1, u.2.2.2.2.2.2.2.2.2.2.2.2.2.2.2.2.2.2.2.1, u.2.2.2.2.2.2.2.2.2.2.2.2.2.2.2.2.2.2.2.2.1, u.2.2.2.2.2.2.2.2.2.2.2.2.2.2.2.2.2.2.2.2.2.1, u.2.2.2.2.2.2.2.2.2.2.2.2.2.2.2.2.2.2.2.2.2.2.1, u.2.2.2.2.2.2.2.2.2.2.2.2.2.2.2.2.2.2.2.2.2.2.2, nI k) ∧ HB V F n L0 E0 A0 u := by
  obtain ⟨u, hu, H2⟩ := rst (L := L) (E := E) (C := C) (P := P) (W := W) (A := A) (dz := dz) (rt := rt) (st := st) (z := z) (T := T) (X := X) (zc := zc) (fc := fc) (sc := sc) (zk := zk) (fk := fk) (sk := sk) (zw := zw) (ms := ms) (es := es) (vs := vs) (ps := ps) (pn := pn) hk H
  refine ⟨u, ?_, H2⟩
  unfold f_X7_undo
  rw [if_pos (nI_ne0 (by omega) (by omega)), hu, ob_s]
/-- V of a load -/
theorem cvL {V F : Int → Int} {N : Nat} {L E C P W dz rt st z zc x : Int32} {T X fc sc : Nat → Int32} {n : Nat} (hN : 3000 ≤ N) (S : SP V F L E C P W dz rt st z T X n) (R : CU V F zc fc sc) (hn : n = 0) (hx : x = L) : f_X7_curve N zc fc sc 0 x = some E := by
  obtain ⟨-, -, bT, bX, L0, L1, ch, hW, ex, eE, -⟩ := S
  subst hn
  subst hx
  obtain ⟨v, hv, hv2⟩ := cuV (N := N) (by omega) R L0 L1
  have eE : E.toInt = V x.toInt := eE
  have e : v = E := t_eq.mpr (by rw [hv2, eE])
  have ho : f_X7_isOutside x 0 1000 = some 0 := by
    rw [e_out, if_neg]
    rintro (h | h)
    · rw [t_lt, t_0] at h; omega
    · rw [t_lt, t_1000] at h; omega
  unfold f_X7_curve
  rw [show f_X7_isOutside 0 0 1 = some 0 from rfl, ob_s, if_neg (fun e => e rfl), ho, ob_s, if_pos rfl, if_neg (fun e => e rfl), hv, ob_s, e]
