/-! pure part H: what holds checks -/
theorem h226 {V F : Int → Int} {N n : Nat} {L E C P W dz rt st z zc zk zw hs tl : Int32} {T X fk sk pn : Nat → Int32} {x3 : Int32} (S : SP V F L E C P W dz rt st z T X n) (hx : x3 = 1) : f_L_holds_b226 N L E C P W dz rt st z T X zc zk fk sk zw pn hs tl (nI n) x3 = some 1 := by
  obtain ⟨hn, rfl, bT, bX, L0, L1, ch, hW, -⟩ := S
  subst hx
  unfold f_L_holds_b226
  rw [cnt0, ob_s, if_neg (by decide)]
  cases n with
  | zero => rw [if_pos (show nI 0 = 0 from rfl)]
  | succ m =>
    have b := bT m (by omega)
    have hWs : W.toInt = sgn (m + 1) := by
      rcases hW with h | h
      · exact absurd h.2.1 (by omega)
      · exact h
    rw [hWs] at ch
    have c1 : 0 < sgn (m + 1) * (L.toInt - (T m).toInt) := ch.1
    rw [if_neg (nI_ne0 (by omega) (by omega)), rem2 (by omega)]
    rcases Nat.mod_two_eq_zero_or_one (m + 1) with e | e
    · rw [sgn_0 e] at c1
      rw [e, if_pos (show ¬ nI 0 = 1 by decide), m_1, trn0 (by omega) (by omega), ob_s, if_neg (by rw [t_le]; omega)]
    · rw [sgn_1 e] at c1
      rw [e, if_neg (show ¬ ¬ nI 1 = 1 by decide), m_1, trn0 (by omega) (by omega), ob_s, if_neg (by rw [t_le]; omega)]
theorem h100 {V F : Int → Int} {N n : Nat} {L E C P W dz rt st z zc zk zw hs tl : Int32} {T X fk sk pn : Nat → Int32} {x3 x4 : Int32} (S : SP V F L E C P W dz rt st z T X n) : ∀ (j i k : Nat), i + j = n → 1 ≤ i → j < k → f_L_holds_b100 N L E C P W dz rt st z T X zc zk fk sk zw pn hs tl k (nI n) 1 x3 x4 (nI i) = some 1 := by
  have S0 := S
  obtain ⟨hn, rfl, bT, bX, L0, L1, ch, hW, -⟩ := S
  intro j
  induction j with
  | zero =>
    intro i k hi h1 hk
    obtain ⟨k, rfl⟩ : ∃ k', k = k' + 1 := ⟨k - 1, by omega⟩
    rw [f_L_holds_b100, if_pos (nI_le (by omega) (by omega))]
    exact h226 S0 rfl
  | succ j ih =>
    intro i k hi h1 hk
    obtain ⟨k, rfl⟩ : ∃ k', k = k' + 1 := ⟨k - 1, by omega⟩
    obtain ⟨m, rfl⟩ : ∃ m, i = m + 1 := ⟨i - 1, by omega⟩
    have hWs : W.toInt = sgn n := by
      rcases hW with h | h
      · exact absurd h.2.1 (by omega)
      · exact h
    rw [hWs] at ch
    have b := bT m (by omega)
    have b1 := bT (m + 1) (by omega)
    obtain ⟨c1, c2, -⟩ := CH_sub _ _ _ ch rfl (m + 1) (by omega)
    have c1 : 0 < sgn (m + 1) * ((T (m + 1)).toInt - (T m).toInt) := c1
    have g := ih (m + 1 + 1) k (by omega) (by omega) (by omega)
    have nx : ∀ y : Int32, y = 1 → f_L_holds_b165 (f_L_holds_b100 N L E C P W dz rt st (nI n) T X zc zk fk sk zw pn hs tl k) (nI n) T X (nI n) x3 x4 (nI (m + 1)) (T (m + 1)) y = some 1 := by
      intro y hy
      subst hy
      unfold f_L_holds_b165
      rw [if_neg (by decide)]
      by_cases hm : m = 0
      · subst hm
        rw [if_pos (show nI (0 + 1) < 2 by decide), nm_s, p_1]
        exact g
      · obtain ⟨q, rfl⟩ : ∃ q, m = q + 1 := ⟨m - 1, by omega⟩
        have b2 := bT q (by omega)
        have c2 : 0 < sgn (q + 1 + 1) * ((T q).toInt - (T (q + 1 + 1)).toInt) := c2 q rfl
        rw [if_neg (show ¬ nI (q + 1 + 1) < 2 from nI_nlt (a := q + 2) (b := 2) (by omega) (by omega)), rem2 (by omega)]
        rcases Nat.mod_two_eq_zero_or_one (q + 1 + 1) with e | e
        · rw [sgn_0 e] at c2
          rw [e, if_neg (show ¬ ¬ nI 0 = 0 from fun h => h rfl), show nI (q + 1 + 1) - 2 = nI q from m_2 q, trn0 (by omega) (by omega), ob_s, if_neg (by rw [t_le]; omega), nm_s, p_1]
          exact g
        · rw [sgn_1 e] at c2
          rw [e, if_pos (show ¬ nI 1 = 0 by decide), show nI (q + 1 + 1) - 2 = nI q from m_2 q, trn0 (by omega) (by omega), ob_s, if_neg (by rw [t_le]; omega), nm_s, p_1]
          exact g
    rw [f_L_holds_b100, if_neg (nI_ge (by omega) (by omega)), if_neg (by decide), m_1, trn0 (by omega) (by omega), ob_s, trn0 (by omega) (by omega), ob_s, rem2 (by omega)]
    rcases Nat.mod_two_eq_zero_or_one (m + 1) with e | e
    · rw [sgn_0 e] at c1
      rw [e, if_pos (show ¬ nI 0 = 1 by decide), if_neg (by rw [t_le]; omega)]
      exact nx 1 rfl
    · rw [sgn_1 e] at c1
      rw [e, if_neg (show ¬ ¬ nI 1 = 1 by decide), if_neg (by rw [t_le]; omega)]
      exact nx 1 rfl
theorem t_m200 : (-200 : Int32).toInt = -200 := by decide
/-- all that holds checks is so -/
theorem hol {V F : Int → Int} {N n : Nat} {L E C P W dz rt st z zc zk zw hs tl : Int32} {T X fc sc fk sk pn : Nat → Int32} (hN : 3000 ≤ N) (S : SP V F L E C P W dz rt st z T X n) (R : CU V F zc fc sc) (K : SK zk fk sk) : f_L_holds N L E C P W dz rt st z T X zc fc sc zk fk sk zw pn hs tl = some 1 := by
  have S0 := S
  obtain ⟨hn, hz, bT, bX, L0, L1, ch, hW, ex, eE, E0, E1, C0, C1, hr, hs, z0, z1, p1, p2⟩ := S
  obtain ⟨r, w, q1, q2, q3, q4⟩ := rdb (N := N) (P := P) (by omega) K (by omega)
  have e1 : (E + C).toInt = E.toInt + C.toInt := t_add (by omega) (by omega)
  have e2 : (E + C - P).toInt = E.toInt + C.toInt - P.toInt := by rw [t_sub (by rw [e1]; omega) (by rw [e1]; omega), e1]
  unfold f_L_holds
  rw [cnt5, ob_s, agn hN S0 R, ob_s, cnt1, ob_s, if_neg (fun h => h rfl), cnt4 q1, ob_s, cnt3, ob_s, q3, ob_s, q4, ob_s, if_neg (fun h => h rfl)]
  unfold f_L_holds_b49
  rw [cnt1, ob_s, cnt2, ob_s, nm_s, cnt3, ob_s, nm_s, if_neg (by decide), if_neg (by rw [t_lt, t_200, e2]; omega), if_neg (by rw [t_lt, t_m200, e2]; omega)]
  subst hz
  by_cases h : n = 0
  · subst h
    obtain ⟨N', rfl⟩ : ∃ N', N = N' + 1 := ⟨N - 1, by omega⟩
    rw [f_L_holds_b100, if_pos (show nI 0 ≤ 1 by decide)]
    exact h226 S0 rfl
  · exact h100 S0 (n - 1) 1 N (by omega) (by omega) (by omega)
