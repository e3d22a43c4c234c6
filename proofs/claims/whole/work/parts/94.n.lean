/-! pure part N: a calibrating run -/
theorem drag_bd {r P dz : Int32} (h0 : 0 ≤ dz.toInt) (h1 : dz.toInt ≤ 200) (r0 : -100000 ≤ r.toInt) (r1 : r.toInt ≤ 100000) (p0 : -100000 ≤ P.toInt) (p1 : P.toInt ≤ 100000) : r.toInt - 200 ≤ (drag r P dz).toInt ∧ (drag r P dz).toInt ≤ r.toInt + 200 := by
  have e1 : (P + dz).toInt = P.toInt + dz.toInt := t_add (by omega) (by omega)
  have e2 : (P - dz).toInt = P.toInt - dz.toInt := t_sub (by omega) (by omega)
  have e3 : (r + dz).toInt = r.toInt + dz.toInt := t_add (by omega) (by omega)
  have e4 : (r - dz).toInt = r.toInt - dz.toInt := t_sub (by omega) (by omega)
  unfold drag
  by_cases c1 : r ≤ P + dz
  · rw [if_pos c1]
    rw [t_le, e1] at c1
    by_cases c2 : P - dz ≤ r
    · rw [if_pos c2]
      rw [t_le, e2] at c2
      omega
    · rw [if_neg c2, e3]; omega
  · rw [if_neg c1, e4]; omega
/-- a spring on trial -/
def US (zc : Int32) (fc sc b : Nat → Int32) (dz : Int32) (nz : Nat) (L E P W : Int32) (A ac : Int64) (T X d : Nat → Int32) : Prop :=
  d 0 = L ∧ d 1 = E ∧ d 2 = 0 ∧ d 3 = P ∧ d 4 = W ∧ d 5 = nI nz ∧ d 6 = dz ∧ ac = A ∧ (∀ i, i < nz → d (82 + i) = T i) ∧ (∀ i, i < nz → d (1084 + i) = X i) ∧ RC zc fc sc d ∧ (∀ k, 6 ≤ k → k < 82 → d k = b k) ∧
  0 ≤ dz.toInt ∧ dz.toInt ≤ 200 ∧ E.toInt - 200 ≤ P.toInt ∧ P.toInt ≤ E.toInt + 200
theorem r_pt {E E' P P' dz : Int32} (h0 : 0 ≤ dz.toInt) (h1 : dz.toInt ≤ 200) (e0 : -40000 ≤ E.toInt) (e1 : E.toInt ≤ 20000) (f0 : -40000 ≤ E'.toInt) (f1 : E'.toInt ≤ 20000) (p0 : E.toInt - 200 ≤ P.toInt) (p1 : P.toInt ≤ E.toInt + 200) (hP : P' = (if E' + 0 = E + 0 then P else drag (E' + 0) P dz)) :
    E'.toInt - 200 ≤ P'.toInt ∧ P'.toInt ≤ E'.toInt + 200 := by
  rw [hP, Int32.add_zero, Int32.add_zero]
  by_cases c : E' = E
  · rw [if_pos c, c]; exact ⟨p0, p1⟩
  · rw [if_neg c]
    exact drag_bd h0 h1 (by omega) (by omega) (by omega) (by omega)
theorem r_up {N : Nat} {zc dz L E P W x : Int32} {A ac : Int64} {fc sc b T X d : Nat → Int32} (hN : 3000 ≤ N) (S : US zc fc sc b dz 0 L E P W A ac T X d) (hW : W = 0 ∨ W = 1) (e0 : 0 ≤ E.toInt) (e1 : E.toInt ≤ 20000) (L0 : 0 ≤ L.toInt) (hx : L.toInt < x.toInt) (x1 : x.toInt ≤ 1000) :
    ∃ (E' P' : Int32) (A' : Int64) (d' : Nat → Int32), f_X3_changeLoad N 1 8 L E 0 P W A dz (nI 0) T X zc fc sc x = some (x, E', P', 1, A', nI 0, T, X) ∧ f_X8_goes N ac d x = some (A', d') ∧ US zc fc sc b dz 0 x E' P' 1 A' A' T X d' ∧ 0 ≤ E'.toInt ∧ E'.toInt ≤ 20000 := by
  obtain ⟨d0, d1, d2, d3, d4, d5, d6, rfl, dT, dX, R, bb, z0, z1, p0, p1⟩ := S
  have hne : ¬ x = L := fun e => by rw [e] at hx; omega
  have hle : ¬ x ≤ L := fun e => by rw [t_le] at e; omega
  obtain ⟨E', P', n', n1, T1, X1, d', g1, g2, g3, g4, g5, g6, g7, g8, g9, g10, g11, g12, g13, g14, g15, ga, gb, gp, gc, gE, gF, gP⟩ := chg_core (N := N) (M := 1) (n := 0) (A := ac) (C := 0) (dir := 1) (D := 1) (x := x) (L := L) (E := E) (P := P) (W := W) (dz := dz) (T := T) (X := X) (fc := fc) (sc := sc) (zc := zc) (d := d) hN (by omega) (by omega) (by omega) (fun _ => by omega) t_1 (Or.inl rfl) d0 d1 d2 d3 d4 d6 d5 (fun i hi => by omega) (fun i hi => by omega) (fun i hi => by omega) L0 (by omega) (by omega) x1 (by omega) trivial (by rcases hW with h | h <;> simp [h]) R
  have hm : ¬ W = -1 := by rcases hW with h | h <;> rw [h] <;> decide
  rcases gc with ⟨q, -⟩ | ⟨-, q1, q2, q3⟩
  · exact absurd q hm
  · subst q1; subst q2; subst q3
    have hn' : n' = 0 := by omega
    subst hn'
    have hE := gE rfl
    have hp := r_pt z0 z1 (by omega) (by omega) (by omega) (by omega) p0 p1 gP
    refine ⟨E', P', ac + (L + x).toInt64 * (E' - E).toInt64, d', ?_, ?_, ⟨g3, g4, g5, g6, g7, g8, by rw [g15 6 (by omega) (by omega), d6], rfl, fun i hi => by omega, fun i hi => by omega, RC_keep R (fun k h1 h2 => g15 k (by omega) (by omega)), fun k h1 h2 => by rw [g15 k h1 h2, bb k h1 h2], z0, z1, hp.1, hp.2⟩, hE⟩
    · unfold f_X3_changeLoad f_X3_reach
      rw [if_pos hne, ob_s, if_neg hle]
      exact g1
    · unfold f_X8_goes
      rw [d0, if_pos hne, if_neg hle]
      exact g2
/-- which way the spring on trial goes down -/
def DN (nz : Nat) (L E W : Int32) (T X : Nat → Int32) : Prop := (W = 1 ∧ nz = 0 ∧ 0 ≤ E.toInt) ∨ (W = -1 ∧ nz = 1 ∧ 0 ≤ (X 0).toInt ∧ (X 0).toInt ≤ 20000 ∧ 0 ≤ (T 0).toInt ∧ (T 0).toInt ≤ 1000 ∧ L.toInt < (T 0).toInt)
theorem r_dn {N nz : Nat} {zc dz L E P W x : Int32} {A ac : Int64} {fc sc b T X d : Nat → Int32} (hN : 3000 ≤ N) (S : US zc fc sc b dz nz L E P W A ac T X d) (hD : DN nz L E W T X) (e0 : -40000 ≤ E.toInt) (e1 : E.toInt ≤ 20000) (L1 : L.toInt ≤ 1000) (x0 : 0 ≤ x.toInt) (hx : x.toInt < L.toInt) :
    ∃ (E' P' : Int32) (A' : Int64) (T' X' d' : Nat → Int32), f_X3_changeLoad N 1 8 L E 0 P W A dz (nI nz) T X zc fc sc x = some (x, E', P', -1, A', nI 1, T', X') ∧ f_X8_goes N ac d x = some (A', d') ∧ US zc fc sc b dz 1 x E' P' (-1) A' A' T' X' d' ∧ DN 1 x E' (-1) T' X' ∧ -40000 ≤ E'.toInt ∧ E'.toInt ≤ 20000 := by
  obtain ⟨d0, d1, d2, d3, d4, d5, d6, rfl, dT, dX, R, bb, z0, z1, p0, p1⟩ := S
  have hne : ¬ x = L := fun e => by rw [e] at hx; omega
  have hle : x ≤ L := by rw [t_le]; omega
  have hn1 : nz ≤ 1 := by rcases hD with ⟨-, h, -⟩ | ⟨-, h, -⟩ <;> omega
  obtain ⟨E', P', n', n1, T1, X1, d', g1, g2, g3, g4, g5, g6, g7, g8, g9, g10, g11, g12, g13, g14, g15, ga, gb, gp, gc, gE, gF, gP⟩ := chg_core (N := N) (M := 1) (n := nz) (A := ac) (C := 0) (dir := -1) (D := -1) (x := x) (L := L) (E := E) (P := P) (W := W) (dz := dz) (T := T) (X := X) (fc := fc) (sc := sc) (zc := zc) (d := d) hN (by omega) (by omega) (by omega) (fun h => by
      rcases hD with ⟨-, h2, -⟩ | ⟨h2, -⟩
      · omega
      · rw [h2] at h; exact absurd h (by decide)) t_m1 (Or.inr rfl) d0 d1 d2 d3 d4 d6 d5 dT dX (fun i hi => by
      rcases hD with ⟨-, h2, -⟩ | ⟨-, h2, -, -, h3, h4, -⟩
      · omega
      · have : i = 0 := by omega
        subst this; exact ⟨h3, h4⟩) (by omega) L1 x0 (by omega) (by omega) (by
      rcases hD with ⟨-, h2, -⟩ | ⟨h1, h2, -, -, h3, h4, h5⟩
      · subst h2; trivial
      · subst h2; subst h1
        refine ⟨?_, fun m (hm : 0 = m + 1) => absurd hm (by omega), trivial⟩
        show 0 < (-1 : Int32).toInt * (L.toInt - (T 0).toInt)
        rw [t_m1]; omega) (by rcases hD with ⟨h, -⟩ | ⟨h, -⟩ <;> simp [h]) R
  have fin : n1 = 1 → 0 ≤ (X1 0).toInt → (X1 0).toInt ≤ 20000 → 0 ≤ (T1 0).toInt → (T1 0).toInt ≤ 1000 → x.toInt < (T1 0).toInt → ∃ (E' P' : Int32) (A' : Int64) (T' X' d' : Nat → Int32), f_X3_changeLoad N 1 8 L E 0 P W ac dz (nI nz) T X zc fc sc x = some (x, E', P', -1, A', nI 1, T', X') ∧ f_X8_goes N ac d x = some (A', d') ∧ US zc fc sc b dz 1 x E' P' (-1) A' A' T' X' d' ∧ DN 1 x E' (-1) T' X' ∧ -40000 ≤ E'.toInt ∧ E'.toInt ≤ 20000 := by
    intro hn a0 a1 t0 t1 tx
    have hn' : n' = 1 := by omega
    subst hn'
    obtain ⟨F, F0, F1, hF⟩ := gF 0 rfl
    have em : ((-1 : Int32) * F).toInt = -F.toInt := by rw [t_dir t_m1 (Or.inr rfl) (by omega)]; omega
    have eE : E'.toInt = (X1 0).toInt - F.toInt := by rw [hF, t_add (by rw [em]; omega) (by rw [em]; omega), em]; omega
    have hp := r_pt z0 z1 e0 e1 (by omega) (by omega) p0 p1 gP
    refine ⟨E', P', ac + (L + x).toInt64 * (E' - E).toInt64, T1, X1, d', ?_, ?_, ⟨g3, g4, g5, g6, g7, g8, by rw [g15 6 (by omega) (by omega), d6], rfl, g9, g10, RC_keep R (fun k h1 h2 => g15 k (by omega) (by omega)), fun k h1 h2 => by rw [g15 k h1 h2, bb k h1 h2], z0, z1, hp.1, hp.2⟩, Or.inr ⟨rfl, rfl, a0, a1, t0, t1, tx⟩, by omega, by omega⟩
    · unfold f_X3_changeLoad f_X3_reach
      rw [if_pos hne, ob_s, if_pos hle]
      exact g1
    · unfold f_X8_goes
      rw [d0, if_pos hne, if_pos hle]
      exact g2
  rcases gc with ⟨q, q1, q2, q3⟩ | ⟨q, q1, q2, q3⟩
  · rcases hD with ⟨h1, h2, h3⟩ | ⟨h1, -⟩
    · subst h2; subst q2; subst q3
      exact fin (by omega) (by rw [us]; exact h3) (by rw [us]; exact e1) (by rw [us]; omega) (by rw [us]; exact L1) (by rw [us]; exact hx)
    · rw [h1] at q; exact absurd q (by decide)
  · rcases hD with ⟨h1, -⟩ | ⟨h1, h2, h3, h4, h5, h6, h7⟩
    · exact absurd (by rw [h1]; decide) q
    · subst q2; subst q3
      exact fin (by omega) h3 h4 h5 h6 (by omega)
def vsm (s : Nat) (g : Nat → Int32) : Nat → Int32
  | 0 => 0
  | i + 1 => if bt s i = 1 then vsm s g i + g i else vsm s g i
theorem e6_told {n i : Nat} {m e : Nat → Int32} (hn : n ≤ 8) (hi : i < n) : f_X6_told (nI n) m e (nI i) = some (m i + e i) := by
  unfold f_X6_told f_X6_has
  rw [if_neg (nI_pos (by omega)), if_neg (nI_ge hi (by omega)), ob_s, if_neg (by decide), gA_i _ (by omega) (by omega), gA_i _ (by omega) (by omega), cl_i (by omega)]
theorem e_up {N n s : Nat} {zc dz : Int32} {x2 : Int64} {fc sc b T X ms es vs ps aside g : Nat → Int32} (hN : 3000 ≤ N) (hn : n ≤ 8) (hs : s < 256) (b41 : b 41 = nI n) (bm : ∀ i, i < 8 → b (42 + i) = ms i) (be : ∀ i, i < 8 → b (50 + i) = es i) (hm : ∀ i, i < n → 1 ≤ (ms i).toInt ∧ (ms i).toInt ≤ 500)
    (hc : pcb s n ≤ 5) (hsum : ssm s ms n ≤ 1000) (hg : ∀ i, i < n → f_X6_totalVariance N (nI n) vs ps (nI i) = some (g i)) : ∀ (j i kk kk2 : Nat) (L E P W : Int32) (A ac : Int64) (up td d pl tl : Nat → Int32), i + j = n → j < kk → j < kk2 → L.toInt = ssm s ms i →
    US zc fc sc b dz 0 L E P W A ac T X d → (pcb s i = 0 ∧ W = 0 ∨ W = 1) → 0 ≤ E.toInt → E.toInt ≤ 20000 → (∀ y, y ≤ pcb s i → up y = pl y ∧ td y = tl y ∧ -200 ≤ (up y).toInt ∧ (up y).toInt ≤ 20200) → up (pcb s i) = P →
    ∃ (L' E' P' W' : Int32) (A' : Int64) (up' td' d' pl' tl' : Nat → Int32) (kk3 : Nat), f_X5_putAllOn_b32 N 1 8 0 dz zc fc sc (nI n) ms es vs ps (nI s) kk (nI i) (nI (pcb s i)) (vsm s g i) L E P W A (nI 0) T X up td = some (nI (pcb s n), vsm s g n, L', E', P', W', A', nI 0, T, X, up', td') ∧
      f_X8_calibrates_b63 N (nI s) x2 aside kk2 (nI (pcb s i)) (nI i) ac d pl tl = f_X8_calibrates_b63 N (nI s) x2 aside (kk3 + 1) (nI (pcb s n)) (nI n) A' d' pl' tl' ∧ L'.toInt = ssm s ms n ∧
      US zc fc sc b dz 0 L' E' P' W' A' A' T X d' ∧ (pcb s n = 0 ∧ W' = 0 ∨ W' = 1) ∧ 0 ≤ E'.toInt ∧ E'.toInt ≤ 20000 ∧ (∀ y, y ≤ pcb s n → up' y = pl' y ∧ td' y = tl' y ∧ -200 ≤ (up' y).toInt ∧ (up' y).toInt ≤ 20200) ∧ up' (pcb s n) = P' := by
  intro j
  induction j with
  | zero =>
    intro i kk kk2 L E P W A ac up td d pl tl hi h1 h2 hL S hW e0 e1 hup hP
    obtain ⟨kk, rfl⟩ : ∃ k', kk = k' + 1 := ⟨kk - 1, by omega⟩
    obtain ⟨kk2, rfl⟩ : ∃ k', kk2 = k' + 1 := ⟨kk2 - 1, by omega⟩
    have e : i = n := by omega
    subst e
    have ea : ac = A := S.2.2.2.2.2.2.2.1
    subst ea
    refine ⟨L, E, P, W, ac, up, td, d, pl, tl, kk2, ?_, rfl, hL, S, hW, e0, e1, hup, hP⟩
    rw [f_X5_putAllOn_b32, if_pos (nI_le (by omega) (by omega))]
  | succ j ih =>
    intro i kk kk2 L E P W A ac up td d pl tl hi h1 h2 hL S hW e0 e1 hup hP
    obtain ⟨kk, rfl⟩ : ∃ k', kk = k' + 1 := ⟨kk - 1, by omega⟩
    obtain ⟨kk2, rfl⟩ : ∃ k', kk2 = k' + 1 := ⟨kk2 - 1, by omega⟩
    have hb := S.2.2.2.2.2.2.2.2.2.2.2.1
    have d41 : d 41 = nI n := by rw [hb 41 (by omega) (by omega), b41]
    rw [f_X5_putAllOn_b32, f_X8_calibrates_b63, d41, if_neg (nI_ge (by omega) (by omega)), if_neg (nI_ge (by omega) (by omega)), e_bit hs (by omega), ob_s, bits_t s hs i (by omega)]
    have es1 : ssm s ms (i + 1) = ssm s ms i + (if bt s i = 1 then (ms i).toInt else 0) := rfl
    have ep1 : pcb s (i + 1) = pcb s i + bt s i := rfl
    have ev1 : vsm s g (i + 1) = (if bt s i = 1 then vsm s g i + g i else vsm s g i) := rfl
    rcases bt_01 s i with h | h
    · rw [h] at es1 ep1 ev1 ⊢
      rw [if_neg (by decide)] at es1 ev1
      rw [if_pos (by decide), if_pos (by decide), p_1, nm_s, nm_s]
      have hr := ih (i + 1) kk kk2 L E P W A ac up td d pl tl (by omega) (by omega) (by omega) (by rw [es1, hL]; omega) S (by rw [ep1]; exact hW) e0 e1 (by rw [ep1]; exact hup) (by rw [ep1]; exact hP)
      rw [ep1, ev1] at hr
      exact hr
    · rw [h] at es1 ep1 ev1 ⊢
      rw [if_pos rfl] at es1 ev1
      have hmi := hm i (by omega)
      have hsb := ssm_b (s := s) hm i (by omega)
      have hsl := ssm_le (s := s) (i := i + 1) hm (by omega)
      have hpl := pcb_le (s := s) (i := i + 1) (n := n) (by omega)
      have eL : (L + ms i).toInt = L.toInt + (ms i).toInt := t_add (by omega) (by omega)
      obtain ⟨E', P', A', d', r1, r2, r3, r4, r5⟩ := r_up (x := L + ms i) hN S (by rcases hW with ⟨-, h⟩ | h; exact Or.inl h; exact Or.inr h) e0 e1 (by omega) (by rw [eL]; omega) (by rw [eL]; omega)
      have hb' := r3.2.2.2.2.2.2.2.2.2.2.2.1
      have d3' : d' 3 = P' := r3.2.2.2.1
      have hpp := r3.2.2.2.2.2.2.2.2.2.2.2.2.2.2
      have d0 : d 0 = L := S.1
      rw [if_neg (show ¬ nI 1 = 0 by decide), if_neg (show ¬ ¬ nI 1 = 1 from fun e => e rfl), if_neg (show ¬ (5 : Int32) ≤ nI (pcb s i) from (show ¬ nI 5 ≤ nI (pcb s i) from nI_ge (by omega) (by omega))), e6_mass hn (by omega), ob_s, r1, ob_s, hg i (by omega), ob_s, nm_s, gA_i (i := pcb s i) (n := 6) _ (by omega) (by omega), e6_told hn (by omega), ob_s, k_42, gA_i (i := 42 + i) _ (by omega) (by omega), cl_i (n := 42 + i) (by omega), hb (42 + i) (by omega) (by omega), bm i (by omega), d0, r2, ob_s]
      simp only [nm_s]
      rw [p_1, p_1, m_1, gA_i (i := pcb s i + 1) (n := 6) _ (by omega) (by omega), gA_i (i := pcb s i + 1) (n := 6) _ (by omega) (by omega), cl_i (n := pcb s i + 1) (by omega), cl_i (n := pcb s i) (by omega), gA_i (i := pcb s i + 1) (n := 12) _ (by omega) (by omega), gA_i (i := pcb s i) (n := 6) _ (by omega) (by omega), gA_i (i := 42 + i) _ (by omega) (by omega), k_50, gA_i (i := 50 + i) _ (by omega) (by omega), cl_i (n := 50 + i) (by omega), gA_i (i := pcb s i + 1) (n := 6) _ (by omega) (by omega), hb' (42 + i) (by omega) (by omega), hb' (50 + i) (by omega) (by omega), bm i (by omega), be i (by omega), d3']
      have hr := ih (i + 1) kk kk2 (L + ms i) E' P' 1 A' A' (upd up (pcb s i + 1) P') (upd td (pcb s i + 1) (td (pcb s i) + (ms i + es i))) d' (upd pl (pcb s i + 1) P') (upd tl (pcb s i + 1) (tl (pcb s i) + ms i + es i)) (by omega) (by omega) (by omega) (by rw [es1, eL, hL]) r3 (Or.inr rfl) r4 r5 (fun y hy => by
        rw [ep1] at hy
        by_cases c : y = pcb s i + 1
        · subst c
          rw [us, us, us, us]
          exact ⟨rfl, by rw [(hup (pcb s i) (Nat.le_refl _)).2.1, Int32.add_assoc], by omega, by omega⟩
        · rw [un c, un c, un c, un c]
          exact hup y (by omega)) (by rw [ep1, us])
      rw [ep1, ev1] at hr
      exact hr
