/-! pure part E: the load goes to another one -/
def SP (V F : Int → Int) (L E C P W dz rt st z : Int32) (T X : Nat → Int32) (n : Nat) : Prop :=
  n ≤ 1000 ∧ z = nI n ∧ (∀ i, i < n → 0 ≤ (T i).toInt ∧ (T i).toInt ≤ 1000) ∧ (∀ i, i < n → -40000 ≤ (X i).toInt ∧ (X i).toInt ≤ 20000) ∧ 0 ≤ L.toInt ∧ L.toInt ≤ 1000 ∧ CH (fun i => (T i).toInt) n L.toInt W.toInt ∧ (W = 0 ∧ n = 0 ∧ L.toInt = 0 ∨ W.toInt = sgn n) ∧
  EX V F (fun i => (T i).toInt) (fun i => (X i).toInt) n ∧ E.toInt = EV V F (fun i => (T i).toInt) (fun i => (X i).toInt) (sgn n) n L.toInt ∧ -40000 ≤ E.toInt ∧ E.toInt ≤ 20000 ∧
  0 ≤ C.toInt ∧ C.toInt ≤ 100 ∧ rt = 10 ∧ st = 2 ∧ 0 ≤ dz.toInt ∧ dz.toInt ≤ 200 ∧ E.toInt + C.toInt - P.toInt ≤ dz.toInt ∧ P.toInt - (E.toInt + C.toInt) ≤ dz.toInt
theorem drag_ok {r P dz : Int32} (r0 : -100000 ≤ r.toInt) (r1 : r.toInt ≤ 100000) (p0 : -100000 ≤ P.toInt) (p1 : P.toInt ≤ 100000) (d0 : 0 ≤ dz.toInt) (d1 : dz.toInt ≤ 200) : r.toInt - (drag r P dz).toInt ≤ dz.toInt ∧ (drag r P dz).toInt - r.toInt ≤ dz.toInt := by
  have e1 : (P + dz).toInt = P.toInt + dz.toInt := t_add (by omega) (by omega)
  have e2 : (P - dz).toInt = P.toInt - dz.toInt := t_sub (by omega) (by omega)
  unfold drag
  by_cases h1 : r ≤ P + dz
  · rw [if_pos h1]
    by_cases h2 : P - dz ≤ r
    · rw [if_pos h2]
      rw [t_le, e1] at h1
      rw [t_le, e2] at h2
      omega
    · rw [if_neg h2, t_add (by omega) (by omega)]
      omega
  · rw [if_neg h1, t_sub (by omega) (by omega)]
    omega
theorem chg_core {V F : Int → Int} {N n : Nat} {L E C P W dz rt st x dir zc : Int32} {D : Int} {A : Int64} {T X fc sc : Nat → Int32}
    (hN : 3000 ≤ N) (hD : dir.toInt = D) (hw : D = 1 ∨ D = -1) (S : SP V F L E C P W dz rt st (nI n) T X n) (R : CU V F zc fc sc)
    (x0 : 0 ≤ x.toInt) (x1 : x.toInt ≤ 1000) (hx : 0 < D * (x.toInt - L.toInt)) :
    ∃ (n1 n' : Nat) (T1 X1 : Nat → Int32) (E' P' : Int32),
      f_X3_changeLoad_b28 N 1001 8 C dz zc fc sc x (E + C) dir L E P W A (nI n) T X = some (x, E', P', dir, A + (L + x).toInt64 * (E' - E).toInt64, nI n', T1, X1) ∧ SP V F x E' C P' dir dz rt st (nI n') T1 X1 n' ∧
      ((W.toInt = -D ∧ n1 = n + 1 ∧ T1 = upd T n L ∧ X1 = upd X n E) ∨ (W.toInt ≠ -D ∧ n1 = n ∧ T1 = T ∧ X1 = X)) ∧
      n' ≤ n1 ∧ n' % 2 = n1 % 2 ∧ (n' < n1 → 0 ≤ D * (x.toInt - (T1 n').toInt)) ∧ ((∀ m, n1 = m + 2 → D * (x.toInt - (T1 m).toInt) < 0) → n' = n1) ∧ 0 ≤ D * (E'.toInt - E.toInt) := by
  obtain ⟨hn, -, bT, bX, L0, L1, ch, hW, ex, eE, E0, E1, C0, C1, hr, hs, z0, z1, p1, p2⟩ := S
  have hV := CU_VF R
  have eW : W = -dir ↔ W.toInt = -D := by
    rw [t_eq, t_neg (by rw [hD]; rcases hw with rfl | rfl <;> omega), hD]
  have tn : ∃ (n1 : Nat) (T1 X1 : Nat → Int32), n1 ≤ 1001 ∧ f_X3_turnTo 1001 L E W (nI n) T X dir = some (dir, nI n1, T1, X1) ∧ sgn n1 = D ∧
      ((W.toInt = -D ∧ n1 = n + 1 ∧ T1 = upd T n L ∧ X1 = upd X n E) ∨ (W.toInt ≠ -D ∧ n1 = n ∧ T1 = T ∧ X1 = X)) ∧
      (∀ i, i < n1 → 0 ≤ (T1 i).toInt ∧ (T1 i).toInt ≤ 1000) ∧ (∀ i, i < n1 → -40000 ≤ (X1 i).toInt ∧ (X1 i).toInt ≤ 20000) ∧
      EX V F (fun i => (T1 i).toInt) (fun i => (X1 i).toInt) n1 ∧ CG (fun i => (T1 i).toInt) n1 x.toInt D ∧ E.toInt = EV V F (fun i => (T1 i).toInt) (fun i => (X1 i).toInt) D n1 L.toInt ∧
      (∀ m, n1 = m + 1 → 0 ≤ D * (L.toInt - (T1 m).toInt)) ∧ (∀ m, n1 = m + 2 → 0 ≤ D * ((T1 m).toInt - L.toInt)) := by
    by_cases h : W.toInt = -D
    · have hsn : sgn n = -D := by
        rcases hW with h1 | h1
        · rw [h1.1, t_0] at h; omega
        · rw [← h1]; exact h
      have cg : ∀ i, i < n → (fun i => (upd T n L i).toInt) i = (fun i => (T i).toInt) i ∧ (fun i => (upd X n E i).toInt) i = (fun i => (X i).toInt) i := fun i hi => ⟨by show (upd T n L i).toInt = (T i).toInt; rw [un (by omega)], by show (upd X n E i).toInt = (X i).toInt; rw [un (by omega)]⟩
      refine ⟨n + 1, upd T n L, upd X n E, by omega, ?_, by rw [sgn_s, hsn]; omega, Or.inl ⟨h, rfl, rfl, rfl⟩, ?_, ?_, ?_, ?_, ?_, ?_, ?_⟩
      · unfold f_X3_turnTo f_X2_append
        rw [if_neg (fun e => e (eW.mpr h)), oN, if_neg (nI_ge (show n < 1001 by omega) (by omega)), gA_i _ (show n < 1001 by omega) (by omega), nm_s, gA_i _ (show n < 1001 by omega) (by omega), nm_s, nm_s, cl_i (by omega), p_1, ob_s]
      · intro i hi
        by_cases e : i = n
        · rw [e, us]; exact ⟨L0, L1⟩
        · rw [un e]; exact bT i (by omega)
      · intro i hi
        by_cases e : i = n
        · rw [e, us]; exact ⟨E0, E1⟩
        · rw [un e]; exact bX i (by omega)
      · intro i hi
        by_cases e : i = n
        · subst e
          show (upd X i E i).toInt = EV V F (fun j => (upd T i L j).toInt) (fun j => (upd X i E j).toInt) (sgn i) i (upd T i L i).toInt
          rw [us, us, EV_cg cg]
          exact eE
        · exact EX_cg cg ex i (by omega)
      · intro m hm
        have : m = n := by omega
        subst this
        show 0 < D * (x.toInt - (upd T m L m).toInt) ∧ CH (fun i => (upd T m L i).toInt) m (upd T m L m).toInt (-D)
        rw [us]
        refine ⟨hx, ?_⟩
        rw [h] at ch
        exact CH_congr m _ _ (fun i hi => (cg i hi).1.symm) ch
      · have e := EV_turn (V := V) (F := F) (T := fun i => (upd T n L i).toInt) (X := fun i => (upd X n E i).toInt) (D := D) (m := n) hV
        have e : EV V F (fun i => (upd T n L i).toInt) (fun i => (upd X n E i).toInt) D (n + 1) (upd T n L n).toInt = (upd X n E n).toInt := e
        rw [us, us] at e
        exact e.symm
      · intro m hm
        have : m = n := by omega
        subst this
        rw [us, Int.sub_self, Int.mul_zero]
        exact Int.le_refl 0
      · intro m hm
        have : n = m + 1 := by omega
        subst this
        rw [un (by omega)]
        have c1 : 0 < W.toInt * (L.toInt - (T m).toInt) := ch.1
        rw [h] at c1
        rcases hw with rfl | rfl <;> omega
    · have hsn : sgn n = D := by
        rcases hW with h1 | h1
        · rw [h1.2.1]
          rcases hw with rfl | rfl
          · rfl
          · rw [h1.2.2] at hx; omega
        · rw [h1] at h
          rcases sgn_pm n with e | e <;> rcases hw with rfl | rfl <;> omega
      have hWD : n = 0 ∨ W.toInt = D := by
        rcases hW with h1 | h1
        · exact Or.inl h1.2.1
        · exact Or.inr (by rw [h1, hsn])
      refine ⟨n, T, X, by omega, ?_, hsn, Or.inr ⟨h, rfl, rfl, rfl⟩, bT, bX, ex, ?_, by rw [← hsn]; exact eE, ?_, ?_⟩
      · unfold f_X3_turnTo
        rw [if_pos (fun e => h (eW.mp e))]
      · intro m hm
        subst hm
        rcases hWD with h1 | h1
        · omega
        · rw [h1] at ch
          obtain ⟨c1, -, c3⟩ := ch
          refine ⟨?_, c3⟩
          have c1 : 0 < D * (L.toInt - (T m).toInt) := c1
          show 0 < D * (x.toInt - (T m).toInt)
          rcases hw with rfl | rfl <;> omega
      · intro m hm
        subst hm
        rcases hWD with h1 | h1
        · omega
        · rw [h1] at ch
          exact Int.le_of_lt ch.1
      · intro m hm
        subst hm
        rcases hWD with h1 | h1
        · omega
        · rw [h1] at ch
          exact Int.le_of_lt (ch.2.1 m rfl)
  obtain ⟨n1, T1, X1, k2, t1, hsn, tc, gb, gx, gex, cg, gE, q1, q2⟩ := tn
  obtain ⟨n', r1, rp, r3, r7, r8, r9, r10, r11⟩ := e_forget (M := 1001) (T := T1) (by omega) hD hw hV x0 x1 n1 k2 k2 hsn N (by omega) gb gex cg
  obtain ⟨E', e1, e2⟩ := e_ext (N := N) (M := 1001) (n := n') (T := T1) (X := X1) (by omega) (by omega) (by omega) hD hw x0 x1 (fun i hi => gb i (by omega)) (fun i hi => gx i (by omega)) r7 R
  have hle := CH_le hw (fun i hi => gb i (by omega)) x0 x1 r8
  have hsn' : sgn n' = D := by rw [sgn_cg rp]; exact hsn
  have bd := EV_bd (T := fun i => (T1 i).toInt) (X := fun i => (X1 i).toInt) hV hsn' (fun i hi => gb i (by omega)) (fun i hi => gx i (by omega)) (EX_le r1 gex) x0 x1 r8
  rw [← e2] at bd
  have mono := r11 L.toInt L0 L1 (Int.le_of_lt hx) q1 q2
  rw [← gE, ← e2] at mono
  refine ⟨n1, n', T1, X1, E', (if E' + C = E + C then P else drag (E' + C) P dz), ?_, ?_, tc, r1, rp, r9, r10, mono⟩
  · unfold f_X3_changeLoad_b28
    rw [t1, ob_s]
    unfold f_X3_forgetPassedTurns
    rw [r3, ob_s, e1, ob_s, nm_s, e_drag, ob_s]
  · have eR : (E' + C).toInt = E'.toInt + C.toInt := t_add (by omega) (by omega)
    have pp : E'.toInt + C.toInt - (if E' + C = E + C then P else drag (E' + C) P dz).toInt ≤ dz.toInt ∧ (if E' + C = E + C then P else drag (E' + C) P dz).toInt - (E'.toInt + C.toInt) ≤ dz.toInt := by
      by_cases c : E' + C = E + C
      · rw [if_pos c]
        have e : E' = E := add_can.mp c
        rw [e]
        exact ⟨p1, p2⟩
      · rw [if_neg c]
        have d := drag_ok (r := E' + C) (P := P) (dz := dz) (by rw [eR]; omega) (by rw [eR]; omega) (by omega) (by omega) z0 z1
        rw [eR] at d
        exact d
    exact ⟨hle, rfl, fun i hi => gb i (by omega), fun i hi => gx i (by omega), x0, x1, by rw [hD]; exact r8, Or.inr (by rw [hD, hsn']), EX_le r1 gex, by rw [hsn']; exact e2, bd.1, bd.2, C0, C1, hr, hs, z0, z1, pp.1, pp.2⟩
theorem chg {V F : Int → Int} {N n : Nat} {L E C P W dz rt st z zc x : Int32} {A : Int64} {T X fc sc : Nat → Int32} (hN : 3000 ≤ N) (S : SP V F L E C P W dz rt st z T X n) (R : CU V F zc fc sc) (x0 : 0 ≤ x.toInt) (x1 : x.toInt ≤ 1000) (hne : ¬ x = L) :
    ∃ (D : Int) (n1 n' : Nat) (T1 X1 : Nat → Int32) (E' P' W' z' : Int32),
      f_X3_changeLoad N 1001 8 L E C P W A dz z T X zc fc sc x = some (x, E', P', W', A + (L + x).toInt64 * (E' - E).toInt64, z', T1, X1) ∧ SP V F x E' C P' W' dz rt st z' T1 X1 n' ∧
      (D = 1 ∧ L.toInt < x.toInt ∨ D = -1 ∧ x.toInt < L.toInt) ∧ W'.toInt = D ∧ ((W.toInt = -D ∧ n1 = n + 1 ∧ T1 = upd T n L ∧ X1 = upd X n E) ∨ (W.toInt ≠ -D ∧ n1 = n ∧ T1 = T ∧ X1 = X)) ∧
      n' ≤ n1 ∧ n' % 2 = n1 % 2 ∧ (n' < n1 → 0 ≤ D * (x.toInt - (T1 n').toInt)) ∧ ((∀ m, n1 = m + 2 → D * (x.toInt - (T1 m).toInt) < 0) → n' = n1) ∧ 0 ≤ D * (E'.toInt - E.toInt) := by
  have hz := S.2.1
  subst hz
  have hx : x.toInt ≠ L.toInt := fun e => hne (t_eq.mpr e)
  unfold f_X3_changeLoad f_X3_reach
  rw [if_pos hne, ob_s]
  by_cases c : x ≤ L
  · rw [if_pos c]
    rw [t_le] at c
    obtain ⟨n1, n', T1, X1, E', P', h1, h2, h3, h4, h5, h6, h7, h8⟩ := chg_core (A := A) (dir := -1) (D := -1) (x := x) hN t_m1 (Or.inr rfl) S R x0 x1 (by omega)
    exact ⟨-1, n1, n', T1, X1, E', P', -1, nI n', h1, h2, Or.inr ⟨rfl, by omega⟩, t_m1, h3, h4, h5, h6, h7, h8⟩
  · rw [if_neg c]
    rw [t_le] at c
    obtain ⟨n1, n', T1, X1, E', P', h1, h2, h3, h4, h5, h6, h7, h8⟩ := chg_core (A := A) (dir := 1) (D := 1) (x := x) hN t_1 (Or.inl rfl) S R x0 x1 (by omega)
    exact ⟨1, n1, n', T1, X1, E', P', 1, nI n', h1, h2, Or.inl ⟨rfl, by omega⟩, t_1, h3, h4, h5, h6, h7, h8⟩
theorem chg_no {N M K : Nat} {L E C P W dz z zc : Int32} {A : Int64} {T X fc sc : Nat → Int32} : f_X3_changeLoad N M K L E C P W A dz z T X zc fc sc L = some (L, E, P, W, A, z, T, X) := by
  unfold f_X3_changeLoad
  rw [if_neg (fun e => e rfl)]
