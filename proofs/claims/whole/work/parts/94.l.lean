/-! pure part L: texts, the walks and the calls -/
/-- from s on only moves follow, at most j of them -/
def OKC (N k : Nat) (tg mt : Nat → Int32) : Nat → Nat → Prop
  | 0, s => s = k
  | j + 1, s => s = k ∨ (s < k ∧ ∃ v n : Nat, PMok N k tg mt s v n ∧ OKC N k tg mt j n)
theorem e_flt {N k : Nat} {tg mt : Nat → Int32} (hN : 3000 ≤ N) (hk : k ≤ 80) (hg : ∀ i, i < k → mt i = tg i ∧ 32 ≤ (tg i).toInt ∧ (tg i).toInt ≤ 126) : ∀ (j s c kk kk2 : Nat) (tk tn td tx mg mn : Int32), k ≤ s + j → s ≤ k → c ≤ s → j < kk → j < kk2 →
    ∃ (p : Nat) (a1 a2 a3 a4 b1 b2 b3 : Int32), p ≤ k ∧ f_X4_positionOfFault_b4 N (nI k) tg kk (nI s) (nI c) tk tn td tx = some (nI p, a1, a2, a3, a4) ∧ f_X8_fault_b5 N (nI k) mt kk2 (nI s) mg mn = some (if p = k then (-2000000004 : Int32) else nI p, b1, b2, b3) ∧ (p = k → OKC N k tg mt j s) := by
  intro j
  induction j with
  | zero =>
    intro s c kk kk2 tk tn td tx mg mn h1 h2 h3 h4 h5
    obtain ⟨kk, rfl⟩ : ∃ k', kk = k' + 1 := ⟨kk - 1, by omega⟩
    obtain ⟨kk2, rfl⟩ : ∃ k', kk2 = k' + 1 := ⟨kk2 - 1, by omega⟩
    have e : s = k := by omega
    subst e
    refine ⟨s, tk, tn, td, tx, nI s, mg, mn, Nat.le_refl _, ?_, ?_, fun _ => rfl⟩
    · rw [f_X4_positionOfFault_b4]
      by_cases c80 : 80 ≤ c
      · rw [if_pos (show (80 : Int32) ≤ nI c from (show nI 80 ≤ nI c from nI_le c80 (by omega)))]
      · rw [if_neg (show ¬ (80 : Int32) ≤ nI c from (show ¬ nI 80 ≤ nI c from nI_ge (by omega) (by omega))), if_pos (nI_le (Nat.le_refl _) (by omega))]
    · rw [f_X8_fault_b5, if_pos (nI_le (Nat.le_refl _) (by omega)), if_pos rfl]
  | succ j ih =>
    intro s c kk kk2 tk tn td tx mg mn h1 h2 h3 h4 h5
    obtain ⟨kk, rfl⟩ : ∃ k', kk = k' + 1 := ⟨kk - 1, by omega⟩
    obtain ⟨kk2, rfl⟩ : ∃ k', kk2 = k' + 1 := ⟨kk2 - 1, by omega⟩
    by_cases e : s = k
    · subst e
      refine ⟨s, tk, tn, td, tx, nI s, mg, mn, Nat.le_refl _, ?_, ?_, fun _ => Or.inl rfl⟩
      · rw [f_X4_positionOfFault_b4]
        by_cases c80 : 80 ≤ c
        · rw [if_pos (show (80 : Int32) ≤ nI c from (show nI 80 ≤ nI c from nI_le c80 (by omega)))]
        · rw [if_neg (show ¬ (80 : Int32) ≤ nI c from (show ¬ nI 80 ≤ nI c from nI_ge (by omega) (by omega))), if_pos (nI_le (Nat.le_refl _) (by omega))]
      · rw [f_X8_fault_b5, if_pos (nI_le (Nat.le_refl _) (by omega)), if_pos rfl]
    · have hs : s < k := by omega
      have hc : ¬ (80 : Int32) ≤ nI c := (show ¬ nI 80 ≤ nI c from nI_ge (by omega) (by omega))
      rw [f_X4_positionOfFault_b4, if_neg hc, if_neg (nI_ge hs (by omega)), f_X8_fault_b5, if_neg (nI_ge hs (by omega))]
      rcases e_pm hN hk hg hs with ⟨v, n, hp⟩ | ⟨q1, q2⟩
      · have hp' := hp
        obtain ⟨g1, g2, g3, g4, g5, g6⟩ := hp'
        obtain ⟨td', e1⟩ := g5 tn td tx
        obtain ⟨w, e2, -⟩ := g6 mn
        obtain ⟨p, a1, a2, a3, a4, b1, b2, b3, r1, r2, r3, r4⟩ := ih n (c + 1) kk kk2 (tg s) (nI v) td' (nI n) (tg s) w (by omega) g2 (by omega) (by omega) (by omega)
        refine ⟨p, a1, a2, a3, a4, b1, b2, b3, r1, ?_, ?_, fun q => Or.inr ⟨hs, v, n, hp, r4 q⟩⟩
        · rw [e1, ob_s, if_pos o1, p_1, nm_s]
          exact r2
        · rw [e2, ob_s, if_pos o1]
          exact r3
      · obtain ⟨x1, x2, x3, x4, e1⟩ := q1 tn td tx
        obtain ⟨y1, y2, y3, e2⟩ := q2 mn
        refine ⟨s, x1, x2, x3, x4, y1, y2, y3, by omega, ?_, ?_, fun q => absurd q e⟩
        · rw [e1, ob_s, if_neg o2]
        · rw [e2, ob_s, if_neg o2, if_neg e]
theorem e_pof {N k : Nat} {tg mt : Nat → Int32} {tk tn td tx mg mn : Int32} (hN : 3000 ≤ N) (hk : k ≤ 80) (hg : ∀ i, i < k → mt i = tg i ∧ 32 ≤ (tg i).toInt ∧ (tg i).toInt ≤ 126) :
    ∃ (p : Nat) (a1 a2 a3 a4 b1 b2 b3 : Int32), p ≤ k ∧ f_X4_positionOfFault N (nI k) tk tn td tx tg = some (nI p, a1, a2, a3, a4) ∧ f_X8_fault N (nI k) mg mn mt = some (if p = k then (-2000000004 : Int32) else nI p, b1, b2, b3) ∧ (p = k → OKC N k tg mt k 0) :=
  e_flt hN hk hg k 0 0 N N tk tn td tx mg mn (by omega) (by omega) (by omega) (by omega) (by omega)
/-- one move, carried out or refused -/
theorem e_carry {N v : Nat} {L E C P W dz rt st z zc zk zw sg w : Int32} {A ac : Int64} {T X fc sc fk sk ms es vs ps pn d : Nat → Int32} (hN : 20000 ≤ N) (R : RB24 L E C P W A dz rt st z T X zc fc sc zk fk sk zw ms es vs ps pn d ac) (hv : v ≤ 9999) (hs : sg = 43 ∨ sg = 45 ∨ (sg = 61 ∧ v ≤ 1000) ∨ (sg = 104 ∧ 1 ≤ v ∧ v ≤ 200) ∨ sg = 122) (hw : ¬ sg = 122 → w = nI v) :
    ∃ r : Int32, f_X0_refusalOf N L zw ms pn sg (nI v) = some r ∧ (r = 0 ∨ r = 1 ∨ r = 2 ∨ r = 3 ∨ r = 4 ∨ r = 5) ∧ (¬ r = 0 → f_X8_carries N ac sg w d = some (r, ac, d)) ∧
      (r = 0 → ∃ (L' E' C' P' W' : Int32) (A' : Int64) (z' : Int32) (T' X' pn' d' : Nat → Int32), f_X0_carryOut N 1001 8 L E C P W A dz rt st z T X zc fc sc zw ms pn sg (nI v) = some (L', E', C', P', W', A', z', T', X', pn') ∧ f_X8_carries N ac sg w d = some (0, A', d') ∧
        RB24 L' E' C' P' W' A' dz rt st z' T' X' zc fc sc zk fk sk zw ms es vs ps pn' d' A') := by
  unfold f_X0_refusalOf f_X0_carryOut f_X8_carries
  rcases hs with rfl | rfl | ⟨rfl, h1⟩ | ⟨rfl, h1, h2⟩ | rfl
  · have ew : w = nI v := hw (by decide)
    subst ew
    obtain ⟨r, h1, h2, h3, h4⟩ := refP (x := nI v) R.1.1 R.2.2.2.2
    refine ⟨r, ?_, ?_, fun hr => ?_, fun hr => ?_⟩
    · rw [if_pos rfl, h1, ob_s]
    · rcases h3 with h | h | h | h <;> simp [h]
    · unfold f_X8_carries_b20
      rw [if_pos rfl, if_neg (fun e => e rfl), h2, ob_s, if_pos hr]
    · subst hr
      obtain ⟨n, i, hn, ez, hi, ep, e1, e2⟩ := h4 rfl
      obtain ⟨L', E', P', W', z', A', T', X', pn', d', q1, q2, q3, q4⟩ := mvP hN R hn ez hi e1 e2
      refine ⟨L', E', C, P', W', A', z', T', X', pn', d', ?_, ?_, q3⟩
      · rw [if_pos rfl, ep, q1, ob_s]
      · unfold f_X8_carries_b20
        rw [if_pos rfl, if_neg (fun e => e rfl), h2, ob_s, if_neg o2, if_neg (fun e => e rfl), ep, q2, ob_s]
  · have ew : w = nI v := hw (by decide)
    subst ew
    obtain ⟨r, h1, h2, h3, h4⟩ := refT (x := nI v) R.1.1 R.2.2.2.2
    refine ⟨r, ?_, ?_, fun hr => ?_, fun hr => ?_⟩
    · rw [if_neg (by decide), if_pos rfl, h1, ob_s]
    · rcases h3 with h | h | h <;> simp [h]
    · unfold f_X8_carries_b20
      rw [if_neg (by decide), if_neg (fun e => e rfl), if_pos (by decide), h2, ob_s, if_pos hr]
    · subst hr
      obtain ⟨n, i, hn, ez, hi, ep, e1⟩ := h4 rfl
      obtain ⟨L', E', P', W', z', A', T', X', pn', d', q1, q2, q3, q4⟩ := mvT hN R hn ez hi e1
      refine ⟨L', E', C, P', W', A', z', T', X', pn', d', ?_, ?_, q3⟩
      · rw [if_neg (by decide), if_pos rfl, ep, q1, ob_s]
      · unfold f_X8_carries_b20
        rw [if_neg (by decide), if_neg (fun e => e rfl), if_pos (by decide), h2, ob_s, if_neg o2, if_pos (by decide), ep, q2, ob_s]
  · have ew : w = nI v := hw (by decide)
    subst ew
    obtain ⟨r, p1, p2, p3⟩ := pan (N := N) (by omega) R.2.2.2.2
    have ev : (nI v).toInt = v := t_nI (by omega)
    by_cases c2 : r ≤ nI v
    · refine ⟨0, ?_, Or.inl rfl, fun hr => absurd rfl hr, fun _ => ?_⟩
      · unfold f_X0_refusalOfLoad
        rw [if_neg (by decide), if_neg (by decide), if_pos rfl, p1, ob_s, if_pos c2, ob_s]
      · obtain ⟨E', P', W', z', A', T', X', d', q1, q2, q3, q4⟩ := gox (x := nI v) hN R (by omega) (by omega) (fun n ez hn hs => by rw [t_le] at c2; rw [← p3 n ez hn]; exact c2)
        refine ⟨nI v, E', C, P', W', A', z', T', X', pn, d', ?_, ?_, q3⟩
        · rw [if_neg (by decide), if_neg (by decide), if_pos rfl, q1, ob_s]
        · rw [if_neg (by decide), if_pos (by decide), if_neg (fun e => e rfl), p2, ob_s, if_pos c2, if_neg o2, q2, ob_s]
    · refine ⟨4, ?_, by decide, fun hr => ?_, fun hr => absurd hr (by decide)⟩
      · unfold f_X0_refusalOfLoad
        rw [if_neg (by decide), if_neg (by decide), if_pos rfl, p1, ob_s, if_neg c2, ob_s]
      · rw [if_neg (by decide), if_pos (by decide), if_neg (fun e => e rfl), p2, ob_s, if_neg c2, if_pos (by decide)]
  · have ew : w = nI v := hw (by decide)
    subst ew
    refine ⟨0, ?_, Or.inl rfl, fun hr => absurd rfl hr, fun _ => ?_⟩
    · rw [if_neg (by decide), if_neg (by decide), if_neg (by decide), if_neg (by decide)]
    · obtain ⟨hL, hT, hC, hK, hW⟩ := R
      have ev : (nI v).toInt = v := t_nI (by omega)
      obtain ⟨C', P', d', q1, q2, q3, q4⟩ := hrs (N := N) (p0 := nI v) (by omega) hL (by omega) (by omega)
      have ea : ac = A := hL.2.2.2.2.2.2.2.2.1
      refine ⟨L, E, C', P', W, A, z, T, X, pn, d', ?_, ?_, ⟨by rw [← ea]; rw [← ea] at q3; exact q3, RT_keep hT (q4 5 (by omega) (by omega)) (fun k hk => q4 k (by omega) (by omega)), RC_keep hC (fun k h1 h2 => q4 k (by omega) (by omega)), RK_keep hK (fun k h1 h2 => q4 k (by omega) (by omega)), RW_keep hW (fun k h1 h2 => q4 k (by omega) (by omega))⟩⟩
      · rw [if_neg (by decide), if_neg (by decide), if_neg (by decide), if_pos rfl, q1, ob_s]
      · rw [if_neg (by decide), if_pos (by decide), if_pos (by decide), if_neg (fun e => e rfl), q2, ob_s, ea]
  · by_cases c : L = 0
    · refine ⟨0, ?_, Or.inl rfl, fun hr => absurd rfl hr, fun _ => ?_⟩
      · unfold f_X0_refusalOfZero
        rw [if_neg (by decide), if_neg (by decide), if_neg (by decide), if_pos rfl, if_neg (fun e => e c), ob_s]
      · obtain ⟨hL, hT, hC, hK, hW⟩ := R
        obtain ⟨d', q1, q2, q3, q4, q5⟩ := zer c hL hT
        have d0 : d 0 = 0 := hL.1.trans c
        refine ⟨L, 0, 0, 0, 0, 0, 0, T, X, pn, d', ?_, ?_, ⟨q3, q4, RC_keep hC (fun k h1 h2 => q5 k (by omega)), RK_keep hK (fun k h1 h2 => q5 k (by omega)), RW_keep hW (fun k h1 h2 => q5 k (by omega))⟩⟩
        · rw [if_neg (by decide), if_neg (by decide), if_neg (by decide), if_neg (by decide), q1, ob_s]
        · rw [if_neg (by decide), if_pos (by decide), if_pos (by decide), if_pos (by decide), if_pos d0, if_neg o2, q2, ob_s]
    · have d0 : ¬ d 0 = 0 := by rw [R.1.1]; exact c
      refine ⟨5, ?_, by decide, fun hr => ?_, fun hr => absurd hr (by decide)⟩
      · unfold f_X0_refusalOfZero
        rw [if_neg (by decide), if_neg (by decide), if_neg (by decide), if_pos rfl, if_pos c, ob_s]
      · rw [if_neg (by decide), if_pos (by decide), if_pos (by decide), if_pos (by decide), if_neg d0, if_pos (by decide)]
/-- the walk over the moves -/
theorem e_walk {N k : Nat} {tg mt : Nat → Int32} {dz rt st zc zk zw rf hs sts : Int32} {fc sc fk sk ms es vs ps was : Nat → Int32} {hB : Nat → BS} {acs : Nat → Int64} (hN : 20000 ≤ N) (hk : k ≤ 80) (hg : ∀ i, i < k → mt i = tg i ∧ 32 ≤ (tg i).toInt ∧ (tg i).toInt ≤ 126) :
    ∀ (j s c kk kk2 : Nat) (L E C P W : Int32) (A : Int64) (z : Int32) (T X pn : Nat → Int32) (tk tn td tx mg mn : Int32) (ac : Int64) (d : Nat → Int32), OKC N k tg mt j s → s ≤ k → c ≤ s → j + 1 < kk → j + 2 < kk2 →
    RB24 L E C P W A dz rt st z T X zc fc sc zk fk sk zw ms es vs ps pn d ac →
    ∃ (r rf' L' E' C' P' W' : Int32) (A' : Int64) (z' : Int32) (T' X' pn' : Nat → Int32) (tk' tn' td' tx' : Int32) (ac' : Int64) (ma' mg' mn' : Int32) (d' : Nat → Int32),
      f_X7_move_b35 N dz rt st zc fc sc zw ms (nI k) tg rf hs hB kk (nI c) (nI s) L E C P W A z T X pn tk tn td tx = some (r, rf', L', E', C', P', W', A', z', T', X', pn', hs, tk', tn', td', tx', hB) ∧
      f_X8_move_b25 N (nI k) mt sts rf was acs kk2 (nI c) 0 ac (nI s) mg mn d = some (r, ac', sts, rf', ma', mg', mn', d', was, acs) ∧
      RB24 L' E' C' P' W' A' dz rt st z' T' X' zc fc sc zk fk sk zw ms es vs ps pn' d' ac' := by
  have fin : ∀ (c kk kk2 : Nat) (L E C P W : Int32) (A : Int64) (z : Int32) (T X pn : Nat → Int32) (tk tn td tx mg mn : Int32) (ac : Int64) (d : Nat → Int32), c ≤ k → 0 < kk → 0 < kk2 → RB24 L E C P W A dz rt st z T X zc fc sc zk fk sk zw ms es vs ps pn d ac →
    ∃ (r rf' L' E' C' P' W' : Int32) (A' : Int64) (z' : Int32) (T' X' pn' : Nat → Int32) (tk' tn' td' tx' : Int32) (ac' : Int64) (ma' mg' mn' : Int32) (d' : Nat → Int32),
      f_X7_move_b35 N dz rt st zc fc sc zw ms (nI k) tg rf hs hB kk (nI c) (nI k) L E C P W A z T X pn tk tn td tx = some (r, rf', L', E', C', P', W', A', z', T', X', pn', hs, tk', tn', td', tx', hB) ∧
      f_X8_move_b25 N (nI k) mt sts rf was acs kk2 (nI c) 0 ac (nI k) mg mn d = some (r, ac', sts, rf', ma', mg', mn', d', was, acs) ∧
      RB24 L' E' C' P' W' A' dz rt st z' T' X' zc fc sc zk fk sk zw ms es vs ps pn' d' ac' := by
    intro c kk kk2 L E C P W A z T X pn tk tn td tx mg mn ac d hc h1 h2 R
    obtain ⟨kk, rfl⟩ : ∃ k', kk = k' + 1 := ⟨kk - 1, by omega⟩
    obtain ⟨kk2, rfl⟩ : ∃ k', kk2 = k' + 1 := ⟨kk2 - 1, by omega⟩
    have hm : f_X8_move_b25 N (nI k) mt sts rf was acs (kk2 + 1) (nI c) 0 ac (nI k) mg mn d = some (nI c, ac, sts, rf, nI k, mg, mn, d, was, acs) := by
      rw [f_X8_move_b25, if_neg o2, if_pos (nI_le (Nat.le_refl _) (by omega)), if_pos (by decide)]
    by_cases c80 : 80 ≤ c
    · refine ⟨nI c, rf, L, E, C, P, W, A, z, T, X, pn, tk, tn, td, tx, ac, nI k, mg, mn, d, ?_, hm, R⟩
      rw [f_X7_move_b35, if_pos (show (80 : Int32) ≤ nI c from (show nI 80 ≤ nI c from nI_le c80 (by omega)))]
    · refine ⟨nI c, rf, L, E, C, P, W, A, z, T, X, pn, 32, tn, td, tx, ac, nI k, mg, mn, d, ?_, hm, R⟩
      have hg1 : ∀ i, i < k → 32 ≤ (tg i).toInt ∧ (tg i).toInt ≤ 126 := fun i hi => (hg i hi).2
      have er : f_X4_readMove N (nI k) tn td tx tg (nI k) = some (0, 32, tn, td, tx) := by
        unfold f_X4_readMove
        rw [e_sign hk hg1 (by omega), ob_s, if_neg (show ¬ k < k by omega), gT_t _ (by decide), if_neg (by decide), if_neg (by decide), if_neg (by decide), if_neg (by decide), if_neg (by decide)]
      rw [f_X7_move_b35, if_neg (show ¬ (80 : Int32) ≤ nI c from (show ¬ nI 80 ≤ nI c from nI_ge (by omega) (by omega))), er, ob_s, if_pos o3]
  intro j
  induction j with
  | zero =>
    intro s c kk kk2 L E C P W A z T X pn tk tn td tx mg mn ac d h h1 h2 h3 h4 R
    have e : s = k := h
    subst e
    exact fin c kk kk2 L E C P W A z T X pn tk tn td tx mg mn ac d h2 (by omega) (by omega) R
  | succ j ih =>
    intro s c kk kk2 L E C P W A z T X pn tk tn td tx mg mn ac d h h1 h2 h3 h4 R
    rcases h with rfl | ⟨hs, v, n, ⟨g1, g2, g3, g4, g5, g6⟩, hn⟩
    · exact fin c kk kk2 L E C P W A z T X pn tk tn td tx mg mn ac d h2 (by omega) (by omega) R
    · obtain ⟨kk, rfl⟩ : ∃ k', kk = k' + 1 := ⟨kk - 1, by omega⟩
      obtain ⟨kk2, rfl⟩ : ∃ k', kk2 = k' + 1 := ⟨kk2 - 1, by omega⟩
      obtain ⟨td', e1⟩ := g5 tn td tx
      obtain ⟨w, e2, hw⟩ := g6 mn
      obtain ⟨r, q1, q2, q3, q4⟩ := e_carry (sg := tg s) (w := w) hN R g3 g4 hw
      have hc : ¬ (80 : Int32) ≤ nI c := (show ¬ nI 80 ≤ nI c from nI_ge (by omega) (by omega))
      by_cases hr : r = 0
      · obtain ⟨L', E', C', P', W', A', z', T', X', pn', d', r1, r2, r3⟩ := q4 hr
        subst hr
        obtain ⟨r', rf', L2, E2, C2, P2, W2, A2, z2, T2, X2, pn2, tk2, tn2, td2, tx2, ac2, ma2, mg2, mn2, d2, f1, f2, f3⟩ := ih n (c + 1) kk kk2 L' E' C' P' W' A' z' T' X' pn' (tg s) (nI v) td' (nI n) (tg s) w A' d' hn g2 (by omega) (by omega) (by omega) r3
        refine ⟨r', rf', L2, E2, C2, P2, W2, A2, z2, T2, X2, pn2, tk2, tn2, td2, tx2, ac2, ma2, mg2, mn2, d2, ?_, ?_, f3⟩
        · rw [f_X7_move_b35, if_neg hc, e1, ob_s]
          dsimp only
          rw [if_neg o1, q1, ob_s, if_pos o3, r1, ob_s, p_1, nm_s]
          exact f1
        · rw [f_X8_move_b25, if_neg o2, if_neg (nI_ge hs (by omega)), e2, ob_s]
          dsimp only
          rw [r2, ob_s, if_neg o2, p_1, nm_s]
          exact f2
      · have hr0 : ¬ r ≤ 0 := by rcases q2 with h | h | h | h | h | h <;> first | exact absurd h hr | (rw [h]; decide)
        obtain ⟨kk2, rfl⟩ : ∃ k', kk2 = k' + 1 := ⟨kk2 - 1, by omega⟩
        refine ⟨nI c, r, L, E, C, P, W, A, z, T, X, pn, tg s, nI v, td', nI n, ac, nI n, tg s, w, d, ?_, ?_, R⟩
        · rw [f_X7_move_b35, if_neg hc, e1, ob_s]
          dsimp only
          rw [if_neg o1, q1, ob_s, if_neg hr]
        · rw [f_X8_move_b25, if_neg o2, if_neg (nI_ge hs (by omega)), e2, ob_s]
          dsimp only
          rw [q3 hr, ob_s]
          dsimp only
          rw [if_pos hr, nm_s, show nI c + (0 : Int32) = nI c from Int32.add_zero _, f_X8_move_b25, if_pos hr, if_neg hr0]

theorem s_type {N : Nat} {L : Int32} {E : Int32} {C : Int32} {P : Int32} {W : Int32} {A : Int64} {dz : Int32} {rt : Int32} {st : Int32} {z : Int32} {T : Nat → Int32} {X : Nat → Int32} {zc : Int32} {fc : Nat → Int32} {sc : Nat → Int32} {zk : Int32} {fk : Nat → Int32} {sk : Nat → Int32} {zw : Int32} {ms : Nat → Int32} {es : Nat → Int32} {vs : Nat → Int32} {ps : Nat → Int32} {pn : Nat → Int32} {hs : Int32} {hB : Nat → BS} {sts : Int32} {d : Nat → Int32} {was : Nat → Int32} {ac : Int64} {acs : Nat → Int64} {tl : Int32} {tg : Nat → Int32} {tk : Int32} {tn : Int32} {td : Int32} {tx : Int32} {ty : Int32} {mt : Nat → Int32} {ma : Int32} {mg : Int32} {mn : Int32} {rf : Int32} {mf : Int32} {p0 : Int32} (Q : RX tl tg ty mt) (hf : rf = mf) (hN : 20000 ≤ N) (R : RB24 L E C P W A dz rt st z T X zc fc sc zk fk sk zw ms es vs ps pn d ac) (H : RH hs hB sts was acs) :
    ∃ (r : Int32) (tl' : Int32) (tg' : Nat → Int32) (ty' : Int32) (mt' : Nat → Int32), f_X7_type tl tg p0 = some (r, tl', tg') ∧ f_X8_type ty mt p0 = some (r, ty', mt') ∧ RX tl' tg' ty' mt' := by
  obtain ⟨k, hk, rfl, rfl, hg⟩ := Q
  by_cases c : p0 < 32 ∨ 126 < p0
  · refine ⟨-2000000001, nI k, tg, nI k, mt, ?_, ?_, k, hk, rfl, rfl, hg⟩
    · unfold f_X7_type; rw [e_out, if_pos c, ob_s, if_neg o1]
    · unfold f_X8_type; rw [e_in, if_pos c, ob_s, if_neg o2]
  · obtain ⟨x0, x1⟩ := out_n c
    rw [show (32 : Int32).toInt = 32 from by decide] at x0
    rw [show (126 : Int32).toInt = 126 from by decide] at x1
    by_cases c2 : k = 80
    · subst c2
      refine ⟨-2000000003, nI 80, tg, nI 80, mt, ?_, ?_, 80, hk, rfl, rfl, hg⟩
      · unfold f_X7_type; rw [e_out, if_neg c, ob_s, if_pos o3, if_neg (by decide)]
      · unfold f_X8_type; rw [e_in, if_neg c, ob_s, if_pos o1, if_neg (fun e => e rfl)]
    · have h8 : nI k < (80 : Int32) := (show nI k < nI 80 from nI_lt (by omega) (by omega))
      have h9 : ¬ Int32.ofNat 80 ≤ nI k := (show ¬ nI 80 ≤ nI k from nI_ge (by omega) (by omega))
      have hn : ¬ nI k = (80 : Int32) := (show ¬ nI k = nI 80 from nI_ne c2 (by omega) (by omega))
      refine ⟨nI (k + 1), nI (k + 1), upd tg k p0, nI (k + 1), upd mt k p0, ?_, ?_, k + 1, by omega, rfl, rfl, fun i hi => ?_⟩
      · unfold f_X7_type f_X4_append
        rw [e_out, if_neg c, ob_s, if_pos o3, if_pos h8, chr_ok (by omega) (by omega), nar_ok (by omega) (by omega), if_neg h9, gA_i _ (by omega) (by omega), cl_i (by omega), nm_s, p_1, nm_s, ob_s]
      · unfold f_X8_type
        rw [e_in, if_neg c, ob_s, if_pos o1, if_pos hn, chr_ok (by omega) (by omega), nm_s, nar_ok (by omega) (by omega), gA_i _ (by omega) (by omega), cl_i (by omega), nm_s, p_1, nm_s]
      · by_cases ci : i = k
        · subst ci
          rw [us, us]
          exact ⟨rfl, x0, x1⟩
        · rw [un ci, un ci]
          exact hg i (by omega)

theorem s_clearText {N : Nat} {L : Int32} {E : Int32} {C : Int32} {P : Int32} {W : Int32} {A : Int64} {dz : Int32} {rt : Int32} {st : Int32} {z : Int32} {T : Nat → Int32} {X : Nat → Int32} {zc : Int32} {fc : Nat → Int32} {sc : Nat → Int32} {zk : Int32} {fk : Nat → Int32} {sk : Nat → Int32} {zw : Int32} {ms : Nat → Int32} {es : Nat → Int32} {vs : Nat → Int32} {ps : Nat → Int32} {pn : Nat → Int32} {hs : Int32} {hB : Nat → BS} {sts : Int32} {d : Nat → Int32} {was : Nat → Int32} {ac : Int64} {acs : Nat → Int64} {tl : Int32} {tg : Nat → Int32} {tk : Int32} {tn : Int32} {td : Int32} {tx : Int32} {ty : Int32} {mt : Nat → Int32} {ma : Int32} {mg : Int32} {mn : Int32} {rf : Int32} {mf : Int32}  (Q : RX tl tg ty mt) (hf : rf = mf) (hN : 20000 ≤ N) (R : RB24 L E C P W A dz rt st z T X zc fc sc zk fk sk zw ms es vs ps pn d ac) (H : RH hs hB sts was acs) :
    ∃ (r : Int32) (tl' : Int32) (ty' : Int32), f_X7_clearText tl = some (r, tl') ∧ f_X8_clearText ty = some (r, ty') ∧ RX tl' tg ty' mt := by
  obtain ⟨k, hk, rfl, rfl, hg⟩ := Q
  exact ⟨nI k, 0, 0, by unfold f_X7_clearText; rfl, by unfold f_X8_clearText; rfl, 0, by omega, rfl, rfl, fun i hi => by omega⟩

theorem s_fault {N : Nat} {L : Int32} {E : Int32} {C : Int32} {P : Int32} {W : Int32} {A : Int64} {dz : Int32} {rt : Int32} {st : Int32} {z : Int32} {T : Nat → Int32} {X : Nat → Int32} {zc : Int32} {fc : Nat → Int32} {sc : Nat → Int32} {zk : Int32} {fk : Nat → Int32} {sk : Nat → Int32} {zw : Int32} {ms : Nat → Int32} {es : Nat → Int32} {vs : Nat → Int32} {ps : Nat → Int32} {pn : Nat → Int32} {hs : Int32} {hB : Nat → BS} {sts : Int32} {d : Nat → Int32} {was : Nat → Int32} {ac : Int64} {acs : Nat → Int64} {tl : Int32} {tg : Nat → Int32} {tk : Int32} {tn : Int32} {td : Int32} {tx : Int32} {ty : Int32} {mt : Nat → Int32} {ma : Int32} {mg : Int32} {mn : Int32} {rf : Int32} {mf : Int32}  (Q : RX tl tg ty mt) (hf : rf = mf) (hN : 20000 ≤ N) (R : RB24 L E C P W A dz rt st z T X zc fc sc zk fk sk zw ms es vs ps pn d ac) (H : RH hs hB sts was acs) :
    ∃ (r : Int32) (tk' : Int32) (tn' : Int32) (td' : Int32) (tx' : Int32) (ma' : Int32) (mg' : Int32) (mn' : Int32), f_X7_fault N tl tk tn td tx tg = some (r, tk', tn', td', tx') ∧ f_X8_fault N ty mg mn mt = some (r, ma', mg', mn') ∧ True := by
  obtain ⟨k, hk, rfl, rfl, hg⟩ := Q
  obtain ⟨p, a1, a2, a3, a4, b1, b2, b3, h1, h2, h3, h4⟩ := e_pof (tk := tk) (tn := tn) (td := td) (tx := tx) (mg := mg) (mn := mn) (show 3000 ≤ N by omega) hk hg
  refine ⟨if p = k then (-2000000004 : Int32) else nI p, a1, a2, a3, a4, b1, b2, b3, ?_, h3, trivial⟩
  unfold f_X7_fault
  rw [h2, ob_s]
  dsimp only
  by_cases c : p = k
  · rw [if_pos c, c, if_pos (nI_le (Nat.le_refl _) (by omega))]
  · rw [if_neg c, if_neg (nI_ge (by omega) (by omega))]

theorem s_move {N : Nat} {L : Int32} {E : Int32} {C : Int32} {P : Int32} {W : Int32} {A : Int64} {dz : Int32} {rt : Int32} {st : Int32} {z : Int32} {T : Nat → Int32} {X : Nat → Int32} {zc : Int32} {fc : Nat → Int32} {sc : Nat → Int32} {zk : Int32} {fk : Nat → Int32} {sk : Nat → Int32} {zw : Int32} {ms : Nat → Int32} {es : Nat → Int32} {vs : Nat → Int32} {ps : Nat → Int32} {pn : Nat → Int32} {hs : Int32} {hB : Nat → BS} {sts : Int32} {d : Nat → Int32} {was : Nat → Int32} {ac : Int64} {acs : Nat → Int64} {tl : Int32} {tg : Nat → Int32} {tk : Int32} {tn : Int32} {td : Int32} {tx : Int32} {ty : Int32} {mt : Nat → Int32} {ma : Int32} {mg : Int32} {mn : Int32} {rf : Int32} {mf : Int32}  (Q : RX tl tg ty mt) (hf : rf = mf) (hN : 20000 ≤ N) (R : RB24 L E C P W A dz rt st z T X zc fc sc zk fk sk zw ms es vs ps pn d ac) (H : RH hs hB sts was acs) :
    ∃ (r : Int32) (rf' : Int32) (L' : Int32) (E' : Int32) (C' : Int32) (P' : Int32) (W' : Int32) (A' : Int64) (z' : Int32) (T' : Nat → Int32) (X' : Nat → Int32) (pn' : Nat → Int32) (hs' : Int32) (tk' : Int32) (tn' : Int32) (td' : Int32) (tx' : Int32) (hB' : Nat → BS) (ac' : Int64) (sts' : Int32) (mf' : Int32) (ma' : Int32) (mg' : Int32) (mn' : Int32) (d' : Nat → Int32) (was' : Nat → Int32) (acs' : Nat → Int64), f_X7_move N rf L E C P W A dz rt st z T X zc fc sc zk fk sk zw ms es vs ps pn hs tl tk tn td tx tg hB = some (r, rf', L', E', C', P', W', A', z', T', X', pn', hs', tk', tn', td', tx', hB') ∧ f_X8_move N ac sts mf ty mg mn d was acs mt = some (r, ac', sts', mf', ma', mg', mn', d', was', acs') ∧ (RB24 L' E' C' P' W' A' dz rt st z' T' X' zc fc sc zk fk sk zw ms es vs ps pn' d' ac' ∧ RH hs' hB' sts' was' acs' ∧ rf' = mf') := by
  obtain ⟨k, hk, rfl, rfl, hg⟩ := Q
  subst hf
  obtain ⟨p, a1, a2, a3, a4, b1, b2, b3, h1, h2, h3, h4⟩ := e_pof (tk := tk) (tn := tn) (td := td) (tx := tx) (mg := mg) (mn := mn) (show 3000 ≤ N by omega) hk hg
  by_cases c : p = k
  · subst c
    obtain ⟨u, w, g1, g2, g3⟩ := rcd hN R H
    obtain ⟨r, rf', L', E', C', P', W', A', z', T', X', pn', tk', tn', td', tx', ac', ma', mg', mn', d', f1, f2, f3⟩ := e_walk (rf := rf) (hs := u.2) (sts := w.1) (was := w.2.1) (hB := u.1) (acs := w.2.2) hN hk hg p 0 0 N N L E C P W A z T X pn a1 a2 a3 a4 b2 b3 ac d (h4 rfl) (by omega) (by omega) (by omega) (by omega) R
    refine ⟨r, rf', L', E', C', P', W', A', z', T', X', pn', u.2, tk', tn', td', tx', u.1, ac', w.1, rf', ma', mg', mn', d', w.2.1, w.2.2, ?_, ?_, ⟨f3, g3, rfl⟩⟩
    · unfold f_X7_move
      rw [h2, ob_s, if_pos (show nI p ≤ nI p from nI_le (Nat.le_refl _) (by omega)), g1, ob_s]
      exact f1
    · unfold f_X8_move
      rw [h3, ob_s, if_pos rfl, if_pos rfl, g2, ob_s]
      exact f2
  · refine ⟨-2000000002, rf, L, E, C, P, W, A, z, T, X, pn, hs, a1, a2, a3, a4, hB, ac, sts, rf, b1, b2, b3, d, was, acs, ?_, ?_, ⟨R, H, rfl⟩⟩
    · unfold f_X7_move
      rw [h2, ob_s]
      dsimp only
      rw [if_neg (nI_ge (by omega) (by omega))]
    · have hne : ¬ nI p = (-2000000004 : Int32) := fun e => by
        have := congrArg Int32.toInt e
        rw [t_nI (by omega), show (-2000000004 : Int32).toInt = -2000000004 from by decide] at this
        omega
      unfold f_X8_move
      rw [h3, ob_s, if_neg c, if_neg hne]

theorem s_why {N : Nat} {L : Int32} {E : Int32} {C : Int32} {P : Int32} {W : Int32} {A : Int64} {dz : Int32} {rt : Int32} {st : Int32} {z : Int32} {T : Nat → Int32} {X : Nat → Int32} {zc : Int32} {fc : Nat → Int32} {sc : Nat → Int32} {zk : Int32} {fk : Nat → Int32} {sk : Nat → Int32} {zw : Int32} {ms : Nat → Int32} {es : Nat → Int32} {vs : Nat → Int32} {ps : Nat → Int32} {pn : Nat → Int32} {hs : Int32} {hB : Nat → BS} {sts : Int32} {d : Nat → Int32} {was : Nat → Int32} {ac : Int64} {acs : Nat → Int64} {tl : Int32} {tg : Nat → Int32} {tk : Int32} {tn : Int32} {td : Int32} {tx : Int32} {ty : Int32} {mt : Nat → Int32} {ma : Int32} {mg : Int32} {mn : Int32} {rf : Int32} {mf : Int32}  (Q : RX tl tg ty mt) (hf : rf = mf) (hN : 20000 ≤ N) (R : RB24 L E C P W A dz rt st z T X zc fc sc zk fk sk zw ms es vs ps pn d ac) (H : RH hs hB sts was acs) :
    ∃ (r : Int32), f_X7_why rf = some r ∧ f_X8_why mf = some r := by
  subst hf
  exact ⟨rf, by unfold f_X7_why; rfl, by unfold f_X8_why; rfl⟩

