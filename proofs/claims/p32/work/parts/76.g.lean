/-! pure part G: the scale, the second way -/
def SK (zk : Int32) (fk sk : Nat → Int32) : Prop := zk = nI 2 ∧ fk 0 = 0 ∧ fk 1 = 10000 ∧ sk 0 = 0 ∧ sk 1 = 1000
theorem t_10000 : (10000 : Int32).toInt = 10000 := by decide
theorem rd_lo {N : Nat} {zk x : Int32} {fk sk : Nat → Int32} (K : SK zk fk sk) (h : x.toInt ≤ 0) : f_X2_valueAt N 6 zk fk sk x 1 = some (sk 0) := by
  obtain ⟨rfl, f0, f1, s0, s1⟩ := K
  have f0' : (fk 0).toInt = 0 := by rw [f0]; exact t_0
  unfold f_X2_valueAt
  rw [z_0, e_first (by omega) (show 2 ≤ 6 by omega) (by omega), ob_s, mul_one32, if_neg (by rw [t_lt, f0']; omega), e_second (by omega) (show 2 ≤ 6 by omega) (by omega), ob_s, mul_one32]
theorem rd_hi {N : Nat} {zk x : Int32} {fk sk : Nat → Int32} (hN : 8 < N) (K : SK zk fk sk) (h : 10000 < x.toInt) : f_X2_valueAt N 6 zk fk sk x 1 = some (sk 1) := by
  obtain ⟨rfl, f0, f1, s0, s1⟩ := K
  have f0' : (fk 0).toInt = 0 := by rw [f0]; exact t_0
  have f1' : (fk 1).toInt = 10000 := by rw [f1]; exact t_10000
  obtain ⟨N, rfl⟩ : ∃ N', N = N' + 2 := ⟨N - 2, by omega⟩
  unfold f_X2_valueAt
  rw [z_0, e_first (by omega) (show 2 ≤ 6 by omega) (by omega), ob_s, mul_one32, if_pos (by rw [t_lt, f0']; omega)]
  show f_X2_valueAt_b21 6 (nI 2) fk sk x 1 (N + 1 + 1) (nI 1) = some (sk 1)
  rw [f_X2_valueAt_b21, if_neg (nI_ge (by omega) (by omega)), gA_i _ (by omega) (by omega), cl_i (by omega), mul_one32, if_pos (by rw [t_lt, f1']; omega), nm_s, p_1, f_X2_valueAt_b21, if_pos (nI_le (by omega) (by omega)), m_1, e_second (by omega) (show 2 ≤ 6 by omega) (by omega), ob_s, mul_one32]
theorem rd_mid {N : Nat} {zk x : Int32} {fk sk : Nat → Int32} (hN : 8 < N) (K : SK zk fk sk) (h0 : 0 ≤ x.toInt) (h1 : x.toInt ≤ 10000) : ∃ r : Int32, f_X2_valueAt N 6 zk fk sk x 1 = some r ∧ 0 ≤ r.toInt := by
  obtain ⟨rfl, f0, f1, s0, s1⟩ := K
  have f0' : (fk 0).toInt = 0 := by rw [f0]; exact t_0
  have f1' : (fk 1).toInt = 10000 := by rw [f1]; exact t_10000
  have s0' : (sk 0).toInt = 0 := by rw [s0]; exact t_0
  have s1' : (sk 1).toInt = 1000 := by rw [s1]; exact t_1000
  have c2 : ∀ i : Nat, i < 2 → i = 0 ∨ i = 1 := fun i hi => by omega
  have ia : IncA 2 (fun i => (fk i).toInt) := by
    intro i hi
    have : i = 0 := by omega
    subst this
    show (fk 0).toInt < (fk 1).toInt
    omega
  have ib : IncA 2 (fun i => (sk i).toInt) := by
    intro i hi
    have : i = 0 := by omega
    subst this
    show (sk 0).toInt < (sk 1).toInt
    omega
  obtain ⟨v, hv, hv2⟩ := e_value (N := N) (M := 6) (n := 2) (f := fk) (s := sk) (x := x) (fac := 1) (a := fun i => (fk i).toInt) (b := fun i => (sk i).toInt) (by omega) (by omega) (by omega) (by omega)
    (fun i hi => by rcases c2 i hi with rfl | rfl <;> exact ⟨by rw [mul_one32], by omega, by omega⟩) (fun i hi => by rcases c2 i hi with rfl | rfl <;> exact ⟨by rw [mul_one32], by omega, by omega⟩) ia ib (by show (fk 0).toInt ≤ x.toInt; omega) (by show x.toInt ≤ (fk 1).toInt; omega)
  have h := (IsV_in ia ib hv2).1
  have h : (sk 0).toInt ≤ v.toInt := h
  exact ⟨v, hv, by omega⟩
/-- a place has its reading; below the least place that may be asked for it is that of the least -/
theorem rdb {N : Nat} {zk P : Int32} {fk sk : Nat → Int32} (hN : 8 < N) (K : SK zk fk sk) (hP : P.toInt ≤ 30000) :
    ∃ r w : Int32, f_X0_reading N 6 P zk fk sk = some r ∧ 0 ≤ r.toInt ∧ f_L_bound P (-1000) 30000 = some w ∧ f_X7_readingAt N zk fk sk w = some r := by
  have hK := K
  have s0' : (sk 0).toInt = 0 := by rw [K.2.2.2.1]; exact t_0
  have s1' : (sk 1).toInt = 1000 := by rw [K.2.2.2.2]; exact t_1000
  have va : ∃ r : Int32, f_X2_valueAt N 6 zk fk sk P 1 = some r ∧ 0 ≤ r.toInt := by
    by_cases h : P.toInt ≤ 0
    · exact ⟨_, rd_lo K h, by omega⟩
    · by_cases h1 : P.toInt ≤ 10000
      · exact rd_mid hN K (by omega) h1
      · exact ⟨_, rd_hi hN K (by omega), by omega⟩
  obtain ⟨r, hr, h0⟩ := va
  have hrd : f_X0_reading N 6 P zk fk sk = some r := by unfold f_X0_reading; rw [hr, ob_s]
  by_cases h : -1000 ≤ P.toInt
  · refine ⟨r, P, hrd, h0, ?_, ?_⟩
    · unfold f_L_bound
      rw [if_pos (by rw [t_le, t_m1000]; exact h), if_pos (by rw [t_le, t_30000]; exact hP)]
    · unfold f_X7_readingAt
      rw [e_out, if_neg (by rw [t_lt, t_lt, t_m1000, t_30000]; omega), ob_s, if_pos rfl, hr, ob_s]
  · refine ⟨r, -1000, hrd, h0, ?_, ?_⟩
    · unfold f_L_bound
      rw [if_neg (by rw [t_le, t_m1000]; exact h)]
    · unfold f_X7_readingAt
      rw [e_out, if_neg (by decide), ob_s, if_pos rfl, rd_lo K (by rw [t_m1000]; omega), ob_s, ← hr, rd_lo K (by omega)]
/-- each of the turning points, seen as a load with those before it -/
theorem CH_sub {T : Nat → Int} : ∀ (n : Nat) (L w : Int), CH T n L w → w = sgn n → ∀ k, k < n → CH T k (T k) (sgn k) := by
  intro n
  induction n with
  | zero => intro L w _ _ k hk; omega
  | succ n ih =>
    intro L w h hw k hk
    obtain ⟨-, -, h3⟩ := h
    have e : -w = sgn n := by rw [hw, sgn_s]; omega
    rw [e] at h3
    by_cases c : k = n
    · rw [c]; exact h3
    · exact ih _ _ h3 rfl k (by omega)
theorem e_abs {a b : Int32} {D : Int} (hD : D = 1 ∨ D = -1) (a0 : 0 ≤ a.toInt) (a1 : a.toInt ≤ 1000) (b0 : 0 ≤ b.toInt) (b1 : b.toInt ≤ 1000) (h : 0 < D * (a.toInt - b.toInt)) : (if 0 ≤ (a - b) then (a - b) else 0 - (a - b)).toInt = D * (a.toInt - b.toInt) := by
  have e : (a - b).toInt = a.toInt - b.toInt := t_sub (by omega) (by omega)
  rcases hD with rfl | rfl
  · rw [if_pos (by rw [t_le, e, t_0]; omega), e]; omega
  · rw [if_neg (by rw [t_le, e, t_0]; omega), t_sub (by rw [e, t_0]; omega) (by rw [e, t_0]; omega), e, t_0]; omega
/-- one leg of the second way -/
theorem e_leg {V F : Int → Int} {N : Nat} {a b x1 x2 y zc : Int32} {D : Int} {fc sc : Nat → Int32} (hN : 8 < N) (R : CU V F zc fc sc) (hD : D = 1 ∨ D = -1) (h2 : x2.toInt = D) (a0 : 0 ≤ a.toInt) (a1 : a.toInt ≤ 1000) (b0 : 0 ≤ b.toInt) (b1 : b.toInt ≤ 1000) (h : 0 < D * (a.toInt - b.toInt))
    (x0 : -40000 ≤ x1.toInt) (x3 : x1.toInt ≤ 20000) (hy : y.toInt = x1.toInt + D * F (D * (a.toInt - b.toInt))) :
    ∃ u : Int32, f_X2_valueAt N 8 zc fc sc (if 0 ≤ (a - b) then (a - b) else 0 - (a - b)) 2 = some u ∧ x1 + x2 * u = y ∧ (-x2).toInt = -D := by
  have ea := e_abs hD a0 a1 b0 b1 h
  have hle : D * (a.toInt - b.toInt) ≤ 1000 := by rcases hD with rfl | rfl <;> omega
  obtain ⟨u, hu, hu2⟩ := cuF (N := N) (x := (if 0 ≤ (a - b) then (a - b) else 0 - (a - b))) hN R (by rw [ea]; omega) (by rw [ea]; exact hle)
  rw [ea] at hu2
  have vf := VF_F (CU_VF R) (a := D * (a.toInt - b.toInt)) (by omega) hle
  have em : (x2 * u).toInt = D * u.toInt := t_dir h2 hD (by omega)
  refine ⟨u, hu, t_eq.mpr ?_, by rw [t_neg (by rw [h2]; rcases hD with rfl | rfl <;> omega), h2]⟩
  rw [t_add (by rw [em, hu2]; rcases hD with rfl | rfl <;> omega) (by rw [em, hu2]; rcases hD with rfl | rfl <;> omega), em, hu2, hy]
theorem agn_loop {V F : Int → Int} {N n : Nat} {L E zc : Int32} {T X fc sc : Nat → Int32} (hN : 3000 ≤ N) (R : CU V F zc fc sc) (hn : n ≤ 1000) (bT : ∀ i, i < n → 0 ≤ (T i).toInt ∧ (T i).toInt ≤ 1000) (bX : ∀ i, i < n → -40000 ≤ (X i).toInt ∧ (X i).toInt ≤ 20000)
    (L0 : 0 ≤ L.toInt) (L1 : L.toInt ≤ 1000) (ch : CH (fun i => (T i).toInt) n L.toInt (sgn n)) (ex : EX V F (fun i => (T i).toInt) (fun i => (X i).toInt) n) (eE : E.toInt = EV V F (fun i => (T i).toInt) (fun i => (X i).toInt) (sgn n) n L.toInt) :
    ∀ (j i k : Nat) (x2 : Int32), i + 1 + j = n → j + 1 < k → x2.toInt = sgn (i + 1) → f_X3_extensionFromTurns_b44 N 1001 8 L (nI n) T zc fc sc k (X i) x2 (nI (i + 1)) = some E := by
  intro j
  induction j with
  | zero =>
    intro i k x2 hi hk h2
    obtain ⟨k, rfl⟩ : ∃ k', k = k' + 2 := ⟨k - 2, by omega⟩
    have hin : n = i + 1 := by omega
    subst hin
    have b := bT i (by omega)
    have bx := bX i (by omega)
    have c1 : 0 < sgn (i + 1) * (L.toInt - (T i).toInt) := ch.1
    obtain ⟨u, hu, hy, -⟩ := e_leg (N := N) (y := E) (x1 := X i) (by omega) R (sgn_pm (i + 1)) h2 L0 L1 b.1 b.2 c1 bx.1 bx.2 eE
    rw [f_X3_extensionFromTurns_b44, if_neg (nI_nlt (Nat.le_refl _) (by omega)), if_pos (nI_le (Nat.le_refl _) (by omega)), m_1, e_first (by omega) (by omega) (by omega), ob_s, hu, ob_s, nm_s, nm_s, nm_s, p_1, f_X3_extensionFromTurns_b44, if_pos (nI_lt (by omega) (by omega)), hy]
  | succ j ih =>
    intro i k x2 hi hk h2
    obtain ⟨k, rfl⟩ : ∃ k', k = k' + 1 := ⟨k - 1, by omega⟩
    have b := bT i (by omega)
    have b1 := bT (i + 1) (by omega)
    have bx := bX i (by omega)
    have cs := CH_sub _ _ _ ch rfl (i + 1) (by omega)
    have c1 : 0 < sgn (i + 1) * ((T (i + 1)).toInt - (T i).toInt) := cs.1
    have e1 := ex (i + 1) (by omega)
    obtain ⟨u, hu, hy, hs⟩ := e_leg (N := N) (y := X (i + 1)) (x1 := X i) (by omega) R (sgn_pm (i + 1)) h2 b1.1 b1.2 b.1 b.2 c1 bx.1 bx.2 e1
    rw [f_X3_extensionFromTurns_b44, if_neg (nI_nlt (by omega) (by omega)), if_neg (nI_ge (by omega) (by omega)), e_first (by omega) (by omega) (by omega), ob_s, m_1, e_first (by omega) (by omega) (by omega), ob_s, hu, ob_s, nm_s, nm_s, nm_s, p_1, hy]
    exact ih (i + 1) k _ (by omega) (by omega) (by rw [hs, ← sgn_s])
theorem agn {V F : Int → Int} {N n : Nat} {L E C P W dz rt st z zc : Int32} {T X fc sc : Nat → Int32} (hN : 3000 ≤ N) (S : SP V F L E C P W dz rt st z T X n) (R : CU V F zc fc sc) : f_X7_again N L z T zc fc sc = some E := by
  obtain ⟨hn, rfl, bT, bX, L0, L1, ch, hW, ex, eE, -⟩ := S
  unfold f_X7_again f_X3_extensionFromTurns
  cases n with
  | zero =>
    obtain ⟨v, hv, hv2⟩ := cuV (N := N) (by omega) R L0 L1
    have eE : E.toInt = V L.toInt := eE
    have e : v = E := t_eq.mpr (by rw [hv2, eE])
    rw [if_neg (show ¬ ¬ nI 0 = 0 from fun h => h rfl), hv, ob_s, ob_s, e]
  | succ m =>
    have b := bT 0 (by omega)
    have hWs : W.toInt = sgn (m + 1) := by
      rcases hW with h | h
      · exact absurd h.2.1 (by omega)
      · exact h
    rw [hWs] at ch
    obtain ⟨v, hv, hv2⟩ := cuV (N := N) (x := T 0) (by omega) R b.1 b.2
    have e0 : (X 0).toInt = V (T 0).toInt := ex 0 (by omega)
    have e : v = X 0 := t_eq.mpr (by rw [hv2, e0])
    have g := agn_loop hN R hn bT bX L0 L1 ch ex eE m 0 N (-1) (by omega) (by omega) (by rw [t_m1]; rfl)
    rw [if_pos (nI_ne0 (by omega) (by omega)), show (0 : Int32) = nI 0 from rfl, e_first (by omega) (by omega) (by omega), ob_s, hv, ob_s, e]
    have g : f_X3_extensionFromTurns_b44 N 1001 8 L (nI (m + 1)) T zc fc sc N (X 0) (-1) 1 = some E := g
    rw [g, ob_s]
theorem rem2 {i : Nat} (hi : i < 1000000) : nI i - nI i / 2 * 2 = nI (i % 2) := by
  have e1 : (nI i).toInt = (i : Int) := t_nI (by omega)
  have e2 : (nI i / 2).toInt = (i : Int) / 2 := by rw [lg_idiv_nonneg (by rw [e1]; omega) (by rw [t_2]; omega), e1, t_2]
  have e3 : (nI i / 2 * 2).toInt = (i : Int) / 2 * 2 := by rw [t_mul (by rw [e2, t_2]; omega) (by rw [e2, t_2]; omega), e2, t_2]
  apply t_eq.mpr
  rw [t_sub (by rw [e1, e3]; omega) (by rw [e1, e3]; omega), e1, e3, t_nI (by omega)]
  omega
theorem trn0 {n i : Nat} {T X : Nat → Int32} (hi : i < n) (hn : n ≤ 1001) : f_X7_turning (nI n) T X (nI i) 0 = some (T i) := by
  unfold f_X7_turning
  rw [if_neg (nI_pos (by omega)), e_out, if_neg (by decide), ob_s, if_pos rfl, e_found hn (by omega) (nI_pos (by omega)), if_pos (nI_lt hi (by omega)), if_neg (fun e => e rfl), cl_i (by omega), ob_s]
theorem trn1 {n i : Nat} {T X : Nat → Int32} (hi : i < n) (hn : n ≤ 1001) : f_X7_turning (nI n) T X (nI i) 1 = some (X i) := by
  unfold f_X7_turning
  rw [if_neg (nI_pos (by omega)), e_out, if_neg (by decide), ob_s, if_pos rfl, e_found hn (by omega) (nI_pos (by omega)), if_pos (nI_lt hi (by omega)), if_pos (by decide), cl_i (by omega), ob_s]
theorem cnt0 {N : Nat} {L E C P W dz rt st z zc zk zw hs tl : Int32} {fk sk pn : Nat → Int32} : f_X7_count N L E C P W dz rt st z zc zk fk sk zw pn hs tl 0 = some L := by
  unfold f_X7_count
  rw [if_pos rfl]
theorem cnt1 {N : Nat} {L E C P W dz rt st z zc zk zw hs tl : Int32} {fk sk pn : Nat → Int32} : f_X7_count N L E C P W dz rt st z zc zk fk sk zw pn hs tl 1 = some E := by
  unfold f_X7_count
  rw [if_neg (by decide), if_pos rfl]
theorem cnt2 {N : Nat} {L E C P W dz rt st z zc zk zw hs tl : Int32} {fk sk pn : Nat → Int32} : f_X7_count N L E C P W dz rt st z zc zk fk sk zw pn hs tl 2 = some C := by
  unfold f_X7_count
  rw [if_neg (by decide), if_neg (by decide), if_pos rfl]
theorem cnt3 {N : Nat} {L E C P W dz rt st z zc zk zw hs tl : Int32} {fk sk pn : Nat → Int32} : f_X7_count N L E C P W dz rt st z zc zk fk sk zw pn hs tl 3 = some P := by
  unfold f_X7_count
  rw [if_neg (by decide), if_neg (by decide), if_neg (by decide), if_pos rfl]
theorem cnt5 {N : Nat} {L E C P W dz rt st z zc zk zw hs tl : Int32} {fk sk pn : Nat → Int32} : f_X7_count N L E C P W dz rt st z zc zk fk sk zw pn hs tl 5 = some z := by
  unfold f_X7_count
  rw [if_neg (by decide), if_neg (by decide), if_neg (by decide), if_neg (by decide), if_neg (by decide), if_pos rfl]
theorem cnt6 {N : Nat} {L E C P W dz rt st z zc zk zw hs tl : Int32} {fk sk pn : Nat → Int32} : f_X7_count N L E C P W dz rt st z zc zk fk sk zw pn hs tl 6 = some W := by
  unfold f_X7_count
  rw [if_neg (by decide), if_neg (by decide), if_neg (by decide), if_neg (by decide), if_neg (by decide), if_neg (by decide), if_pos rfl]
theorem cnt14 {N : Nat} {L E C P W dz rt st z zc zk zw hs tl : Int32} {fk sk pn : Nat → Int32} : f_X7_count N L E C P W dz rt st z zc zk fk sk zw pn hs tl 14 = some rt := by
  unfold f_X7_count
  rw [if_neg (by decide), if_neg (by decide), if_neg (by decide), if_neg (by decide), if_neg (by decide), if_neg (by decide), if_neg (by decide), if_neg (by decide), if_neg (by decide), if_neg (by decide), if_neg (by decide), if_neg (by decide), if_neg (by decide), if_neg (by decide), if_pos rfl]
theorem cnt15 {N : Nat} {L E C P W dz rt st z zc zk zw hs tl : Int32} {fk sk pn : Nat → Int32} : f_X7_count N L E C P W dz rt st z zc zk fk sk zw pn hs tl 15 = some st := by
  unfold f_X7_count
  rw [if_neg (by decide), if_neg (by decide), if_neg (by decide), if_neg (by decide), if_neg (by decide), if_neg (by decide), if_neg (by decide), if_neg (by decide), if_neg (by decide), if_neg (by decide), if_neg (by decide), if_neg (by decide), if_neg (by decide), if_neg (by decide), if_neg (by decide), if_pos rfl]
theorem cnt4 {N : Nat} {L E C P W dz rt st z zc zk zw hs tl : Int32} {fk sk pn : Nat → Int32} {r : Int32} (h : f_X0_reading N 6 P zk fk sk = some r) : f_X7_count N L E C P W dz rt st z zc zk fk sk zw pn hs tl 4 = some r := by
  unfold f_X7_count
  rw [if_neg (by decide), if_neg (by decide), if_neg (by decide), if_neg (by decide), if_pos rfl, h, ob_s]
