/-! pure part D: the extension as a function of the branch -/
theorem sgn_s (n : Nat) : sgn (n + 1) = - sgn n := by
  rcases Nat.mod_two_eq_zero_or_one n with e | e
  · rw [sgn_0 e, sgn_1 (by omega)]
  · rw [sgn_1 e, sgn_0 (by omega)]; rfl
theorem sgn_ss (n : Nat) : sgn (n + 2) = sgn n := by
  rw [sgn_s, sgn_s]; omega
theorem sgn_pm (n : Nat) : sgn n = 1 ∨ sgn n = -1 := by
  rcases Nat.mod_two_eq_zero_or_one n with e | e
  · exact Or.inl (sgn_0 e)
  · exact Or.inr (sgn_1 e)
theorem sgn_cg {n m : Nat} (h : n % 2 = m % 2) : sgn n = sgn m := by
  unfold sgn
  rw [h]
def EV (V F : Int → Int) (T X : Nat → Int) (D : Int) : Nat → Int → Int
  | 0, x => V x
  | m + 1, x => X m + D * F (D * (x - T m))
def EX (V F : Int → Int) (T X : Nat → Int) (n : Nat) : Prop := ∀ i, i < n → X i = EV V F T X (sgn i) i (T i)
theorem EV_cg {V F : Int → Int} {T X T' X' : Nat → Int} {D x : Int} {n : Nat} (h : ∀ i, i < n → T' i = T i ∧ X' i = X i) : EV V F T' X' D n x = EV V F T X D n x := by
  cases n with
  | zero => rfl
  | succ m =>
    have e := h m (by omega)
    show X' m + D * F (D * (x - T' m)) = X m + D * F (D * (x - T m))
    rw [e.1, e.2]
theorem EX_cg {V F : Int → Int} {T X T' X' : Nat → Int} {n : Nat} (h : ∀ i, i < n → T' i = T i ∧ X' i = X i) (e : EX V F T X n) : EX V F T' X' n := by
  intro i hi
  have g := e i hi
  have g2 := h i hi
  rw [g2.2, g2.1, EV_cg (fun j hj => h j (by omega))]
  exact g
theorem EX_le {V F : Int → Int} {T X : Nat → Int} {n m : Nat} (h : m ≤ n) (e : EX V F T X n) : EX V F T X m := fun i hi => e i (by omega)
/-- on one branch the extension goes the way that the load goes -/
theorem EV_step {V F : Int → Int} {T X : Nat → Int} {D x y : Int} {n : Nat} (hV : VF V F) (hD : sgn n = D) (bT : ∀ i, i < n → 0 ≤ T i ∧ T i ≤ 1000) (y0 : 0 ≤ y) (y1 : y ≤ 1000) (x0 : 0 ≤ x) (x1 : x ≤ 1000)
    (hy : ∀ m, n = m + 1 → 0 ≤ D * (y - T m)) (hxy : 0 ≤ D * (x - y)) : 0 ≤ D * (EV V F T X D n x - EV V F T X D n y) := by
  obtain ⟨-, -, vm, fm, -, -⟩ := hV
  cases n with
  | zero =>
    have e : D = 1 := by rw [← hD]; rfl
    subst e
    have := vm y x y0 (by omega) x1
    show 0 ≤ 1 * (V x - V y)
    omega
  | succ m =>
    have h1 := hy m rfl
    have b := bT m (by omega)
    show 0 ≤ D * (X m + D * F (D * (x - T m)) - (X m + D * F (D * (y - T m))))
    rcases sgn_pm (m + 1) with e | e
    · rw [hD] at e
      subst e
      have := fm (1 * (y - T m)) (1 * (x - T m)) (by omega) (by omega) (by omega)
      omega
    · rw [hD] at e
      subst e
      have := fm (-1 * (y - T m)) (-1 * (x - T m)) (by omega) (by omega) (by omega)
      omega
/-- where a loop closes, the branch before it goes on -/
theorem EV_join {V F : Int → Int} {T X : Nat → Int} {D : Int} {m : Nat} (hD : sgn m = D) (e : EX V F T X (m + 2)) : EV V F T X D (m + 2) (T m) = EV V F T X D m (T m) := by
  have e0 := e m (by omega)
  have e1 := e (m + 1) (by omega)
  rw [hD] at e0
  rw [sgn_s, hD] at e1
  have e1 : X (m + 1) = X m + -D * F (-D * (T (m + 1) - T m)) := e1
  show X (m + 1) + D * F (D * (T m - T (m + 1))) = EV V F T X D m (T m)
  rw [← e0, e1]
  rcases sgn_pm m with h | h
  · rw [hD] at h
    subst h
    rw [show -1 * (T (m + 1) - T m) = 1 * (T m - T (m + 1)) by omega]
    omega
  · rw [hD] at h
    subst h
    rw [show - -1 * (T (m + 1) - T m) = -1 * (T m - T (m + 1)) by omega]
    omega
/-- the branch begins at its turning point -/
theorem EV_turn {V F : Int → Int} {T X : Nat → Int} {D : Int} {m : Nat} (hV : VF V F) : EV V F T X D (m + 1) (T m) = X m := by
  show X m + D * F (D * (T m - T m)) = X m
  rw [Int.sub_self, Int.mul_zero, hV.2.1]
  omega
/-- turning points lie one inside the other -/
theorem CH_out {T : Nat → Int} : ∀ (n : Nat) (L w : Int), CH T n L w → (w = 1 ∨ w = -1) → ∀ k, k + 2 ≤ n → k % 2 = n % 2 → 0 < w * (T k - L) := by
  intro n
  induction n using Nat.strongRecOn with
  | ind n ih =>
    intro L w h hw k hk hp
    obtain ⟨m, rfl⟩ : ∃ m, n = m + 2 := ⟨n - 2, by omega⟩
    obtain ⟨h1, h2, h3⟩ := h
    have h2 := h2 m rfl
    by_cases c : k = m
    · subst c; exact h2
    · obtain ⟨g1, g2, g3⟩ := h3
      rw [show - -w = w by omega] at g3
      have := ih m (by omega) (T m) w g3 hw k (by omega) (by omega)
      rcases hw with rfl | rfl <;> omega
/-- bounds of the extension on the branch behind n turning points -/
theorem EV_bd {V F : Int → Int} {T X : Nat → Int} {D x : Int} {n : Nat} (hV : VF V F) (hD : sgn n = D) (bT : ∀ i, i < n → 0 ≤ T i ∧ T i ≤ 1000) (bX : ∀ i, i < n → -40000 ≤ X i ∧ X i ≤ 20000) (e : EX V F T X n) (x0 : 0 ≤ x) (x1 : x ≤ 1000) (hc : CH T n x D) :
    -40000 ≤ EV V F T X D n x ∧ EV V F T X D n x ≤ 20000 := by
  match n, hD, bT, bX, e, hc with
  | 0, _, _, _, _, _ =>
    have := VF_V hV x0 x1
    show -40000 ≤ V x ∧ V x ≤ 20000
    omega
  | 1, hD, bT, bX, e, hc =>
    have eD : D = -1 := by rw [← hD]; rfl
    subst eD
    have b := bT 0 (by omega)
    have e0 : X 0 = V (T 0) := e 0 (by omega)
    have v := VF_V hV b.1 b.2
    have h1 : 0 < -1 * (x - T 0) := hc.1
    have f := VF_F hV (a := -1 * (x - T 0)) (by omega) (by omega)
    show -40000 ≤ X 0 + -1 * F (-1 * (x - T 0)) ∧ X 0 + -1 * F (-1 * (x - T 0)) ≤ 20000
    omega
  | m + 2, hD, bT, bX, e, hc =>
    obtain ⟨h1, h2, -⟩ := hc
    have h2 := h2 m rfl
    have hD0 : sgn m = D := by rw [← hD, sgn_ss]
    have hpm := sgn_pm m
    rw [hD0] at hpm
    have bm := bT m (by omega)
    have bm1 := bT (m + 1) (by omega)
    have x2 := bX m (by omega)
    have x3 := bX (m + 1) (by omega)
    have j := EV_join hD0 e
    have s := EV_step (x := T m) (y := x) (X := X) hV hD bT x0 x1 bm.1 bm.2 (fun q hq => by
      have : q = m + 1 := by omega
      subst this
      exact Int.le_of_lt h1) (Int.le_of_lt h2)
    have e0 := e m (by omega)
    rw [hD0] at e0
    rw [j, ← e0] at s
    have f := VF_F hV (a := D * (x - T (m + 1))) (by omega) (by rcases hpm with h | h <;> subst h <;> omega)
    have ev : EV V F T X D (m + 2) x = X (m + 1) + D * F (D * (x - T (m + 1))) := rfl
    rw [ev] at s ⊢
    rcases hpm with h | h <;> subst h <;> omega
/-- the latest turning points are forgotten, two at a time: how many stay, and that the extension doesn't jump -/
theorem e_forget {V F : Int → Int} {M : Nat} {x w : Int32} {D : Int} {T : Nat → Int32} {X : Nat → Int} (hM : M < 2147483648) (hD : w.toInt = D) (hw : D = 1 ∨ D = -1) (hV : VF V F)
    (x0 : 0 ≤ x.toInt) (x1 : x.toInt ≤ 1000) : ∀ (n : Nat), n ≤ M → n ≤ 1001 → sgn n = D → ∀ (k1 : Nat), n < k1 → (∀ i, i < n → 0 ≤ (T i).toInt ∧ (T i).toInt ≤ 1000) → EX V F (fun i => (T i).toInt) X n → CG (fun i => (T i).toInt) n x.toInt D →
    ∃ n' : Nat, n' ≤ n ∧ n' % 2 = n % 2 ∧ f_X3_forgetPassedTurns_b8 M w T x k1 (nI n) (nI n) = some (nI n') ∧ CG (fun i => (T i).toInt) n' x.toInt D ∧ CH (fun i => (T i).toInt) n' x.toInt D ∧ (n' < n → 0 ≤ D * (x.toInt - (T n').toInt)) ∧ ((∀ m, n = m + 2 → D * (x.toInt - (T m).toInt) < 0) → n' = n) ∧
      ∀ y : Int, 0 ≤ y → y ≤ 1000 → 0 ≤ D * (x.toInt - y) → (∀ m, n = m + 1 → 0 ≤ D * (y - (T m).toInt)) → (∀ m, n = m + 2 → 0 ≤ D * ((T m).toInt - y)) → 0 ≤ D * (EV V F (fun i => (T i).toInt) X D n' x.toInt - EV V F (fun i => (T i).toInt) X D n y) := by
  intro n
  induction n using Nat.strongRecOn with
  | ind n ih =>
    intro hnM hn hs k1 h1 bT ex cg
    obtain ⟨k1, rfl⟩ : ∃ k', k1 = k' + 1 := ⟨k1 - 1, by omega⟩
    by_cases c : n < 2
    · refine ⟨n, Nat.le_refl _, rfl, ?_, cg, CG_end cg (fun m hm => by omega) hw, fun h => absurd h (Nat.lt_irrefl _), fun _ => rfl, fun y y0 y1 hy h2 _ => EV_step hV hs bT y0 y1 x0 x1 h2 hy⟩
      rw [f_X3_forgetPassedTurns_b8, if_pos (show nI n < 2 from nI_lt (b := 2) c (by omega))]
    · obtain ⟨m, rfl⟩ : ∃ m, n = m + 2 := ⟨n - 2, by omega⟩
      have bm := bT m (by omega)
      have bm1 := bT (m + 1) (by omega)
      have hs0 : sgn m = D := by rw [← hs, sgn_ss]
      by_cases r : 0 ≤ D * (x.toInt - (T m).toInt)
      · obtain ⟨n', g1, gp, g3, g7, g8, g9, g10, g11⟩ := ih m (by omega) (by omega) (by omega) hs0 k1 (by omega) (fun i hi => bT i (by omega)) (EX_le (by omega) ex) (CG_pop hw cg r)
        refine ⟨n', by omega, by omega, ?_, g7, g8, fun _ => ?_, fun h => ?_, fun y y0 y1 hy h2 h3 => ?_⟩
        · rw [f_X3_forgetPassedTurns_b8, if_neg (show ¬ nI (m + 2) < 2 from nI_nlt (a := m + 2) (b := 2) (by omega) (by omega)), m_2, e_first (by omega) hnM hM, ob_s, e_reached hD hw, ob_s, if_pos r, if_neg (show ¬ (1 : Int32) = 0 from by decide), e_shrink (by omega) (by omega), ob_s, nm_s, p_m2 (by omega), g3]
        · by_cases e : n' = m
          · rw [e]; exact r
          · exact g9 (by omega)
        · have := h m rfl
          exact absurd r (by omega)
        · obtain ⟨-, hc⟩ := cg (m + 1) rfl
          obtain ⟨-, -, hc2⟩ := hc
          rw [show - -D = D by omega] at hc2
          have q := g11 (T m).toInt bm.1 bm.2 r (fun p hp => by
            subst hp
            obtain ⟨a1, -, -⟩ := hc2
            exact Int.le_of_lt a1) (fun p hp => by
            subst hp
            obtain ⟨-, a2, -⟩ := hc2
            exact Int.le_of_lt (a2 p rfl))
          have j := EV_join (T := fun i => (T i).toInt) (X := X) hs0 ex
          have s := EV_step (T := fun i => (T i).toInt) (X := X) (x := (T m).toInt) (y := y) hV hs bT y0 y1 bm.1 bm.2 h2 (h3 m rfl)
          have j : EV V F (fun i => (T i).toInt) X D (m + 2) (T m).toInt = EV V F (fun i => (T i).toInt) X D m (T m).toInt := j
          rw [j] at s
          rcases hw with rfl | rfl <;> omega
      · refine ⟨m + 2, Nat.le_refl _, rfl, ?_, cg, CG_end cg (fun q hq => ?_) hw, fun h => absurd h (Nat.lt_irrefl _), fun _ => rfl, fun y y0 y1 hy h2 _ => EV_step hV hs bT y0 y1 x0 x1 h2 hy⟩
        · rw [f_X3_forgetPassedTurns_b8, if_neg (show ¬ nI (m + 2) < 2 from nI_nlt (a := m + 2) (b := 2) (by omega) (by omega)), m_2, e_first (by omega) hnM hM, ob_s, e_reached hD hw, ob_s, if_neg r, if_pos rfl]
        · have : q = m := by omega
          subst this
          show D * (x.toInt - (T q).toInt) < 0
          omega
/-- the extension behind the turning points -/
theorem e_ext {V F : Int → Int} {N M n : Nat} {x w zc : Int32} {D : Int} {T X fc sc : Nat → Int32} (hN : 8 < N) (hM : M < 2147483648) (hnM : n ≤ M) (hD : w.toInt = D) (hw : D = 1 ∨ D = -1)
    (x0 : 0 ≤ x.toInt) (x1 : x.toInt ≤ 1000) (bT : ∀ i, i < n → 0 ≤ (T i).toInt ∧ (T i).toInt ≤ 1000) (bX : ∀ i, i < n → -40000 ≤ (X i).toInt ∧ (X i).toInt ≤ 20000) (cg : CG (fun i => (T i).toInt) n x.toInt D) (R : CU V F zc fc sc) :
    ∃ E' : Int32, f_X3_extensionBehindTurns N M 8 w (nI n) T X zc fc sc x = some E' ∧ E'.toInt = EV V F (fun i => (T i).toInt) (fun i => (X i).toInt) D n x.toInt := by
  unfold f_X3_extensionBehindTurns
  rw [nm_s]
  cases n with
  | zero =>
    obtain ⟨v, v1, v2⟩ := cuV (N := N) hN R x0 x1
    refine ⟨v, ?_, v2⟩
    rw [if_neg (show ¬ 0 ≤ nI 0 - 1 from by decide), v1, ob_s]
  | succ m =>
    have bm := bT m (by omega)
    have c1 : 0 < D * (x.toInt - (T m).toInt) := (cg m rfl).1
    have ex : (x - T m).toInt = x.toInt - (T m).toInt := t_sub (by omega) (by omega)
    have ew : (w * (x - T m)).toInt = D * (x.toInt - (T m).toInt) := by rw [t_dir hD hw (by rw [ex]; omega), ex]
    have eabs : (if 0 ≤ (x - T m) then (x - T m) else 0 - (x - T m)) = w * (x - T m) := by
      rw [t_eq, ew]
      rcases hw with rfl | rfl
      · rw [if_pos (by rw [t_le, ex, t_0]; omega), ex]; omega
      · rw [if_neg (by rw [t_le, ex, t_0]; omega), t_sub (by rw [ex, t_0]; omega) (by rw [ex, t_0]; omega), ex, t_0]; omega
    have hle : D * (x.toInt - (T m).toInt) ≤ 1000 := by rcases hw with rfl | rfl <;> omega
    obtain ⟨v, v1, v2⟩ := cuF (N := N) (x := w * (x - T m)) hN R (by rw [ew]; omega) (by rw [ew]; exact hle)
    rw [ew] at v2
    have vf := VF_F (CU_VF R) (a := D * (x.toInt - (T m).toInt)) (by omega) hle
    have bx := bX m (by omega)
    have em : (w * v).toInt = D * v.toInt := t_dir hD hw (by omega)
    refine ⟨X m + w * v, ?_, ?_⟩
    · rw [m_1, if_pos (nI_pos' (by omega)), e_first (by omega) hnM hM, ob_s, e_second (by omega) hnM hM, ob_s, eabs, v1, ob_s]
    · show (X m + w * v).toInt = (X m).toInt + D * F (D * (x.toInt - (T m).toInt))
      rw [t_add (by rw [em, v2]; rcases hw with rfl | rfl <;> omega) (by rw [em, v2]; rcases hw with rfl | rfl <;> omega), em, v2]
