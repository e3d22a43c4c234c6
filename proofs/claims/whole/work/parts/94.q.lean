/-! pure part Q: calibration, adopting -/
theorem e_run {N n s : Nat} {L : Int32} {E : Int32} {C : Int32} {P : Int32} {W : Int32} {A : Int64} {dz : Int32} {rt : Int32} {st : Int32} {z : Int32} {T : Nat → Int32} {X : Nat → Int32} {zc : Int32} {fc : Nat → Int32} {sc : Nat → Int32} {zk : Int32} {fk : Nat → Int32} {sk : Nat → Int32} {ms : Nat → Int32} {es : Nat → Int32} {vs : Nat → Int32} {ps : Nat → Int32} {pn : Nat → Int32} {d : Nat → Int32} {ac : Int64} {qz : Int32} {qT : Nat → Int32} {qX : Nat → Int32} {qfc : Nat → Int32} {qsc : Nat → Int32} {qzb : Int32} {qfb : Nat → Int32} {qsb : Nat → Int32} {qu : Nat → Int32} {qd : Nat → Int32} {qt : Nat → Int32} {mo : Nat → Int32} {mp : Nat → Int32} {mq : Nat → Int32} (hN : 20000 ≤ N) (R : RB24 L E C P W A dz rt st z T X zc fc sc zk fk sk (nI n) ms es vs ps pn d ac) (hn : n ≤ 8) (hs : s < 256) (c1 : 1 ≤ pcb s n) (c5 : pcb s n ≤ 5) (hsum : ssm s ms n ≤ 1000) :
    ∃ (rL rE rP rW rz : Int32) (rA : Int64) (rT rX rfc rsc fb sb up dn td d' a' pl tl g : Nat → Int32), f_X5_run N 1 8 6 8 qz qT qX qfc qsc qzb qfb qsb qu qd qt dz zc fc sc (nI n) ms es vs ps (nI s) = some (nI (pcb s n), vsm s g n, rL, rE, 0, rP, rW, rA, dz, rz, rT, rX, zc, rfc, rsc, nI (pcb s n + 1), fb, sb, up, dn, td) ∧
      f_X8_calibrates N ac d mo mp mq (nI s) = some (ac, d', a', pl, tl) ∧ (∀ k, k < 2086 → d' k = d k) ∧ (∀ y, y ≤ pcb s n → up y = pl y ∧ dn y = pl (6 + y) ∧ f_X8_middle pl (nI y) = some (fb y) ∧ sb y = tl y) ∧ (∀ i, i < n → f_X8_chained N d' (nI i) 58 = some (g i)) := by
  obtain ⟨hL, hT, hC, hK, hW⟩ := R
  obtain ⟨m, h1, em, d41, a, b, c, f, gg, r1, r2, r3, r4⟩ := hW
  have hm : m = n := (nI_eq (by omega) (by omega)).mp em.symm
  subst hm
  obtain ⟨nc, -, hnc, ec, -⟩ := id hC
  subst ec
  have tv : ∀ dd : Nat → Int32, (∀ k, k < 2086 → dd k = d k) → ∀ i, i < m → ∃ r : Int32, f_X6_totalVariance N (nI m) vs ps (nI i) = some r ∧ f_X8_chained N dd (nI i) 58 = some r := by
    intro dd hd i hi
    obtain ⟨r, q1, q2⟩ := e_sum (c := 58) (d := dd) (row := vs) (ps := ps) hn (by omega) (fun k hk => by rw [hd _ (by omega)]; exact f k hk) (fun k hk => by rw [hd _ (by omega)]; exact c k hk) r3 i hi 0 N N 0 (by omega) (by omega) (by omega)
    refine ⟨r, ?_, q2⟩
    unfold f_X6_totalVariance f_X6_sumToStandard
    rw [show f_X6_sumToStandard_b8 8 (nI m) ps vs N 0 (nI i) 0 = some r from q1, ob_s]
  obtain ⟨g, hg⟩ : ∃ g : Nat → Int32, ∀ i, i < m → f_X6_totalVariance N (nI m) vs ps (nI i) = some (g i) :=
    ⟨fun i => if h : i < m then (tv d (fun _ _ => rfl) i h).choose else 0, fun i hi => by
      have := (tv d (fun _ _ => rfl) i hi).choose_spec.1
      dsimp only
      rw [dif_pos hi]; exact this⟩
  obtain ⟨g0, eg0⟩ : ∃ g0 : Nat → Int32, g0 = upd (upd (upd (upd (upd (upd d 0 0) 5 0) 4 0) 2 0) 1 0) 3 0 := ⟨_, rfl⟩
  have hk0 : ∀ k, 6 ≤ k → g0 k = d k := fun k hk => by rw [eg0, un (by omega), un (by omega), un (by omega), un (by omega), un (by omega), un (by omega)]
  have hz : g0 0 = 0 ∧ g0 1 = 0 ∧ g0 2 = 0 ∧ g0 3 = 0 ∧ g0 4 = 0 ∧ g0 5 = 0 := by
    rw [eg0]
    exact ⟨by rw [un (by omega), un (by omega), un (by omega), un (by omega), un (by omega), us], by rw [un (by omega), us], by rw [un (by omega), un (by omega), us], us, by rw [un (by omega), un (by omega), un (by omega), us], by rw [un (by omega), un (by omega), un (by omega), un (by omega), us]⟩
  have hC0 : RC (nI nc) (va_cpy fc qfc 0 0 nc) (va_cpy sc qsc 0 0 nc) g0 := RC_keep (RC_congr hnc rfl hC (fun i hi => ⟨cpy0 hi, cpy0 hi⟩)) (fun k h1 h2 => hk0 k (by omega))
  have S0 : US (nI nc) (va_cpy fc qfc 0 0 nc) (va_cpy sc qsc 0 0 nc) d dz 0 0 0 0 0 0 0 qT qX g0 := ⟨hz.1, hz.2.1, hz.2.2.1, hz.2.2.2.1, hz.2.2.2.2.1, hz.2.2.2.2.2, by rw [hk0 6 (by omega)]; exact hL.2.2.2.2.2.1, rfl, fun i hi => by omega, fun i hi => by omega, hC0, fun k h1 h2 => hk0 k h1, hL.2.2.2.2.2.2.2.2.2.2.2.1, hL.2.2.2.2.2.2.2.2.2.2.2.2, by decide, by decide⟩
  obtain ⟨a1, ka, A1, A2⟩ := e_aside (N := N) (x := nI s) (ac := ac) (d := d) (pl := mp) (tl := mq) 2086 0 N mo (by omega) (by omega) (fun x hx => by omega)
  obtain ⟨L1, E1, P1, W1, B1, up, td, d1, pl1, tl, k3, U1, U2, u3, u4, u5, u6, u7, u8, u9⟩ := e_up (N := N) (n := m) (s := s) (x2 := ac) (aside := a1) (b := d) (es := es) (vs := vs) (ps := ps) (g := g) (by omega) hn hs d41 a b r1 c5 hsum hg m 0 N N 0 0 0 0 0 0 (upd qu 0 0) (upd qt 0 0) g0 (upd mp 0 0) (upd mq 0 0) (by omega) (by omega) (by omega) t_0 S0 (Or.inl ⟨rfl, rfl⟩) (by decide) (by decide) (fun y hy => by
    have : y = 0 := Nat.le_zero.mp hy
    subst this
    rw [us, us, us, us]
    exact ⟨rfl, rfl, by decide, by decide⟩) us
  have hW1 : W1 = 1 := by
    rcases u5 with ⟨h, -⟩ | h
    · omega
    · exact h
  have uc := u8 (pcb s m) (Nat.le_refl _)
  have hL1 := ssm_b (s := s) r1 m (Nat.le_refl _)
  obtain ⟨rL, rE, rP, rW, rz, rA, rT, rX, dn, d2, pl, D1, D2, D3, D4⟩ := e_dwn (N := N) (n := m) (s := s) (x2 := ac) (aside := a1) (b := d) (tl := tl) (pl0 := pl1) (by omega) hn hs a r1 c5 hsum m N N 0 L1 E1 P1 W1 B1 B1 qT qX (upd qd (pcb s m) P1) d1 (upd pl1 (6 + pcb s m) (pl1 (pcb s m))) (Nat.le_refl _) (by omega) (by omega) u3 u4 (Or.inl ⟨hW1, rfl, u6⟩) (by omega) u7 (fun y h1 h2 => by
    have : y = pcb s m := by omega
    subst this
    rw [us, us, ← uc.1, ← u9]
    exact ⟨rfl, by omega, by omega⟩) (fun y hy => un (by omega))
  obtain ⟨d', K1, K2⟩ := e_back (x2 := ac) (aside := a1) (pl := pl) (tl := tl) 2086 0 N d2 (by omega) (by omega) (fun x hx => by omega)
  have hd' : ∀ k, k < 2086 → d' k = d k := fun k hk => by rw [K2 k hk, A2 k hk]
  have md : ∀ y, y ≤ pcb s m → ∃ r : Int32, f_J9_floorDiv_7cf53 (up y + dn y) 2 = some r ∧ f_X8_middle pl (nI y) = some r := fun y hy => by
    have q1 := u8 y hy
    have q2 := D3 y hy
    have q3 := D4 y (by omega)
    obtain ⟨r, x1, x2, -, -⟩ := e_mid (y := y) (a := up y) (b := dn y) (pl := pl) (by omega) (by rw [q3, q1.1]) q2.1.symm (by omega) (by omega) (by omega) (by omega)
    exact ⟨r, x1, x2⟩
  obtain ⟨mf, hmf⟩ : ∃ mf : Nat → Int32, ∀ y, y ≤ pcb s m → f_J9_floorDiv_7cf53 (up y + dn y) 2 = some (mf y) ∧ f_X8_middle pl (nI y) = some (mf y) :=
    ⟨fun y => if h : y ≤ pcb s m then (md y h).choose else 0, fun y hy => by
      have := (md y hy).choose_spec
      dsimp only
      rw [dif_pos hy]; exact this⟩
  obtain ⟨fb, sb, B3, B4⟩ := e_lay2 (td := td) c5 (fun y hy => (hmf y hy).1) (pcb s m + 1) 0 N qfb qsb (by omega) (by omega) (fun x hx => by omega)
  refine ⟨rL, rE, rP, rW, rz, rA, rT, rX, va_cpy fc qfc 0 0 nc, va_cpy sc qsc 0 0 nc, fb, sb, up, dn, td, d', a1, pl, tl, g, ?_, ?_, hd', fun y hy => ⟨by rw [D4 y (by omega)]; exact (u8 y hy).1, (D3 y hy).1, by rw [(B4 y (by omega)).1]; exact (hmf y hy).2, by rw [(B4 y (by omega)).2]; exact (u8 y hy).2.1⟩, fun i hi => ?_⟩
  · have U1' : f_X5_putAllOn_b32 N 1 8 0 dz (nI nc) (va_cpy fc qfc 0 0 nc) (va_cpy sc qsc 0 0 nc) (nI m) ms es vs ps (nI s) N 0 0 0 0 0 0 0 0 0 qT qX (upd qu 0 0) (upd qt 0 0) = some (nI (pcb s m), vsm s g m, L1, E1, P1, W1, B1, nI 0, qT, qX, up, td) := U1
    have B3' : f_X5_layBreaks_b10 6 (nI (pcb s m)) up dn td N 0 0 qfb qsb = some (nI (pcb s m + 1), fb, sb) := B3
    have X1 : f_X3_becomeUnloaded 8 8 qz qfc qsc dz (nI nc) fc sc = some (0, 0, 0, 0, 0, 0, dz, 0, nI nc, va_cpy fc qfc 0 0 nc, va_cpy sc qsc 0 0 nc) := by
      unfold f_X3_becomeUnloaded
      rw [e_copy2 hnc (by omega), ob_s, rest_0, ob_s]
    have X2 : f_X5_putAllOn N 1 8 0 0 0 0 0 0 dz 0 qT qX (nI nc) (va_cpy fc qfc 0 0 nc) (va_cpy sc qsc 0 0 nc) qu qt (nI m) ms es vs ps (nI s) = some (nI (pcb s m), vsm s g m, L1, E1, P1, W1, B1, nI 0, qT, qX, up, td) := by
      unfold f_X5_putAllOn
      rw [nm_s, nm_s]
      exact U1'
    have X3 : f_X5_takeAllOff N 1 8 (nI (pcb s m)) L1 E1 0 P1 W1 B1 dz (nI 0) qT qX (nI nc) (va_cpy fc qfc 0 0 nc) (va_cpy sc qsc 0 0 nc) qd (nI m) ms (nI s) = some (rL, rE, rP, rW, rA, rz, rT, rX, dn) := by
      unfold f_X5_takeAllOff
      rw [gA_i _ (by omega) (by omega), nm_s, nm_s, cl_i (by omega)]
      exact D1
    have X4 : f_X5_layBreaks N 6 (nI (pcb s m)) qzb qfb qsb up dn td = some (nI (pcb s m + 1), fb, sb) := by
      unfold f_X5_layBreaks
      rw [shr_0, ob_s]
      exact B3'
    unfold f_X5_run
    rw [X1, ob_s]
    dsimp only
    rw [X2, ob_s]
    dsimp only
    rw [X3, ob_s]
    dsimp only
    rw [X4, ob_s]
  · have U2' : f_X8_calibrates_b63 N (nI s) ac a1 N 0 0 0 g0 (upd mp 0 0) (upd mq 0 0) = _ := U2
    have K1' : f_X8_calibrates_b258 ac a1 pl tl N 0 d2 = _ := K1
    have d1n : d1 41 = nI m := by rw [u4.2.2.2.2.2.2.2.2.2.2.2.1 41 (by omega) (by omega), d41]
    have A1' : f_X8_calibrates_b2 N (nI s) ac d mp mq N 0 mo = _ := A1
    have Z : f_X8_zeroes (upd d 0 0) = some (0, g0) := by
      unfold f_X8_zeroes
      rw [eg0, nm_s, nm_s, nm_s, nm_s, nm_s]
    unfold f_X8_calibrates
    rw [A1', f_X8_calibrates_b2, if_pos (by decide), nm_s, Z, ob_s, nm_s, nm_s]
    dsimp only
    rw [U2', f_X8_calibrates_b63, d1n, if_pos (nI_le (Nat.le_refl _) (by omega)), gA_i _ (by omega) (by omega), nm_s, k_6, gA_i _ (by omega) (by omega), nm_s, nm_s, cl_i (n := 6 + pcb s m) (by omega), cl_i (n := pcb s m) (by omega), D2]
    exact K1'
  · obtain ⟨r, q1, q2⟩ := tv d' hd' i hi
    rw [hg i hi] at q1
    rw [q2, ← q1]
theorem RW_m0 {n : Nat} {L : Int32} {ms es vs ps pn d : Nat → Int32} (R : RW L (nI n) ms es vs ps pn d) : d 41 = nI n := by
  obtain ⟨m, h1, em, d41, -⟩ := R
  rw [d41, em]
theorem mod_t : ∀ q < 12, nI q - nI q / 6 * 6 = nI (q % 6) := by decide
/-- one property of the run, asked from both -/
theorem e_prop {N n s c q : Nat} {ac : Int64} {fb sb up dn d a pl tl g : Nat → Int32} (hN : 20000 ≤ N) (hn : n ≤ 8) (hs : s < 256) (c5 : c ≤ 5) (d41 : d 41 = nI n) (h : ∀ y, y ≤ c → up y = pl y ∧ dn y = pl (6 + y) ∧ f_X8_middle pl (nI y) = some (fb y) ∧ sb y = tl y) (hg : ∀ i, i < n → f_X8_chained N d (nI i) 58 = some (g i)) (hq : q ≤ 14) :
    ∃ r : Int32, f_X5_property N 6 (nI c) (vsm s g n) (nI (c + 1)) fb sb up dn (nI q) = some r ∧ ((q < 12 ∧ c < q % 6 ∧ r = -2000000004) ∨ (q < 12 ∧ q % 6 ≤ c ∧ gA (nI q) 12 (some (pl (Int32.toNatClampNeg (nI q)), ac, d, a, pl, tl)) = some (r, ac, d, a, pl, tl)) ∨ (12 ≤ q ∧ nm (pl 6 - pl 0) (fun t11 => (f_X8_calibration_b91 N (nI s) (nI q) (nI c) ac d a pl tl N t11 (1 : Int32))) = some (r, ac, d, a, pl, tl))) := by
  unfold f_X5_property
  have plc : ∀ (row : Nat → Int32) (k : Nat), k < 6 → f_X5_placeIn 6 (nI c) row (nI k) = some (if c < k then -2000000004 else row k) := by
    intro row k hk
    unfold f_X5_placeIn
    rw [if_neg (nI_pos (by omega))]
    by_cases hc : c < k
    · rw [if_pos (nI_lt hc (by omega)), if_pos hc]
    · rw [if_neg (nI_nlt (by omega) (by omega)), if_neg (show ¬ Int32.ofNat 6 ≤ nI k from (show ¬ nI 6 ≤ nI k from nI_ge hk (by omega))), gA_i _ (by omega) (by omega), cl_i (by omega), if_neg hc]
  by_cases q5 : q ≤ 5
  · rw [if_neg (show ¬ (5 : Int32) < nI q from (show ¬ nI 5 < nI q from nI_nlt q5 (by omega))), plc up q (by omega), ob_s]
    refine ⟨_, rfl, ?_⟩
    have e6 : q % 6 = q := Nat.mod_eq_of_lt (by omega)
    by_cases hc : c < q
    · rw [if_pos hc]; exact Or.inl ⟨by omega, by omega, rfl⟩
    · rw [if_neg hc]
      refine Or.inr (Or.inl ⟨by omega, by omega, ?_⟩)
      rw [gA_i _ (by omega) (by omega), cl_i (by omega), (h q (by omega)).1]
  · rw [if_pos (show (5 : Int32) < nI q from (show nI 5 < nI q from nI_lt (by omega) (by omega)))]
    by_cases q12 : q < 12
    · have n12 : ¬ nI q = 12 := (show ¬ nI q = nI 12 from nI_ne (by omega) (by omega) (by omega))
      have n13 : ¬ nI q = 13 := (show ¬ nI q = nI 13 from nI_ne (by omega) (by omega) (by omega))
      have n14 : ¬ nI q = 14 := (show ¬ nI q = nI 14 from nI_ne (by omega) (by omega) (by omega))
      obtain ⟨k, rfl⟩ : ∃ k, q = k + 6 := ⟨q - 6, by omega⟩
      have ek : nI (k + 6) - 5 - 1 = nI k := by
        rw [show (5 : Int32) = nI 5 from rfl, pk_sub (by omega), show k + 6 - 5 = k + 1 by omega, m_1]
      rw [if_neg n12, if_neg n13, if_neg n14, ek, plc dn k (by omega), ob_s]
      refine ⟨_, rfl, ?_⟩
      have e6 : (k + 6) % 6 = k := by omega
      by_cases hc : c < k
      · rw [if_pos hc]; exact Or.inl ⟨by omega, by omega, rfl⟩
      · rw [if_neg hc]
        refine Or.inr (Or.inl ⟨by omega, by omega, ?_⟩)
        rw [gA_i _ (by omega) (by omega), cl_i (by omega), (h k (by omega)).2.1, Nat.add_comm k 6]
    · obtain ⟨w, w1, w2⟩ := e_wid (N := N) (c := c) (p0 := nI s) (p1 := nI q) (ac := ac) (d := d) (a := a) (pl := pl) (tl := tl) (up := up) (dn := dn) c5 (fun y hy => ⟨(h y hy).1, (h y hy).2.1⟩) c 1 N N (pl 6 - pl 0) (by omega) (by omega) (by omega)
      obtain ⟨k', v1⟩ := e_vs (N := N) (c := c) (p1 := nI q) (x4 := w) (ac := ac) (a := a) (pl := pl) (tl := tl) hn hs d41 hg n 0 N (by omega) (by omega)
      have v1' : f_X8_calibration_b157 N (nI s) (nI q) (nI c) w ac d a pl tl N 0 0 = _ := v1
      have M1 : nm (pl 6 - pl 0) (fun t11 => (f_X8_calibration_b91 N (nI s) (nI q) (nI c) ac d a pl tl N t11 (1 : Int32))) = f_X8_calibration_b157 N (nI s) (nI q) (nI c) w ac d a pl tl (k' + 1) (vsm s g n) (nI n) := by
        rw [nm_s, show f_X8_calibration_b91 N (nI s) (nI q) (nI c) ac d a pl tl N (pl 6 - pl 0) 1 = _ from w2, v1']
      rw [M1, f_X8_calibration_b157, d41, if_pos (nI_le (Nat.le_refl _) (by omega))]
      have h0 := h 0 (by omega)
      rcases (show q = 12 ∨ q = 13 ∨ q = 14 by omega) with rfl | rfl | rfl
      · refine ⟨w, ?_, Or.inr (Or.inr ⟨by omega, ?_⟩)⟩
        · rw [if_pos (show nI 12 = 12 from rfl)]
          unfold f_X5_width
          rw [nm_s, h0.1, h0.2.1, show f_X5_width_b16 (nI c) up dn N (pl (6 + 0) - pl 0) 1 = some w from w1, ob_s]
        · rw [if_neg (show ¬ ¬ nI 12 = 12 from fun e => e rfl)]
      · refine ⟨vsm s g n, ?_, Or.inr (Or.inr ⟨by omega, ?_⟩)⟩
        · rw [if_neg (by decide), if_pos (show nI 13 = 13 from rfl)]
        · rw [if_pos (by decide), if_neg (show ¬ ¬ nI 13 = 13 from fun e => e rfl)]
      · rcases e_sc (fb := fb) (sb := sb) (pl := pl) (tl := tl) c5 (fun y hy => (h y hy).2.2) (c + 1) 0 N N (by omega) (by omega) (by omega) (fun y hy => by omega) with ⟨x1, x2, -⟩ | ⟨x1, x2⟩
        · refine ⟨1, ?_, Or.inr (Or.inr ⟨by omega, ?_⟩)⟩
          · rw [if_neg (by decide), if_neg (by decide), if_pos (show nI 14 = 14 from rfl)]
            unfold f_X5_isScale
            rw [show f_X5_isScale_b2 6 (nI (c + 1)) fb sb N 0 = some 1 from x1, ob_s, if_neg o1]
          · unfold f_X8_isScale
            rw [if_pos (by decide), if_pos (by decide), show f_X8_isScale_b4 pl tl (nI c) N 1 0 = some 1 from x2, ob_s, if_neg o1]
        · refine ⟨0, ?_, Or.inr (Or.inr ⟨by omega, ?_⟩)⟩
          · rw [if_neg (by decide), if_neg (by decide), if_pos (show nI 14 = 14 from rfl)]
            unfold f_X5_isScale
            rw [show f_X5_isScale_b2 6 (nI (c + 1)) fb sb N 0 = some 0 from x1, ob_s, if_pos o3]
          · unfold f_X8_isScale
            rw [if_pos (by decide), if_pos (by decide), show f_X8_isScale_b4 pl tl (nI c) N 1 0 = some 0 from x2, ob_s, if_pos o3]

theorem s_calibration {N : Nat} {L : Int32} {E : Int32} {C : Int32} {P : Int32} {W : Int32} {A : Int64} {dz : Int32} {rt : Int32} {st : Int32} {z : Int32} {T : Nat → Int32} {X : Nat → Int32} {zc : Int32} {fc : Nat → Int32} {sc : Nat → Int32} {zk : Int32} {fk : Nat → Int32} {sk : Nat → Int32} {zw : Int32} {ms : Nat → Int32} {es : Nat → Int32} {vs : Nat → Int32} {ps : Nat → Int32} {pn : Nat → Int32} {hs : Int32} {hB : Nat → BS} {sts : Int32} {d : Nat → Int32} {was : Nat → Int32} {ac : Int64} {acs : Nat → Int64} {qn : Int32} {qv : Int32} {qL : Int32} {qE : Int32} {qC : Int32} {qP : Int32} {qW : Int32} {qA : Int64} {qdz : Int32} {qz : Int32} {qT : Nat → Int32} {qX : Nat → Int32} {qzc : Int32} {qfc : Nat → Int32} {qsc : Nat → Int32} {qzb : Int32} {qfb : Nat → Int32} {qsb : Nat → Int32} {qu : Nat → Int32} {qd : Nat → Int32} {qt : Nat → Int32} {mo : Nat → Int32} {mp : Nat → Int32} {mq : Nat → Int32} {p0 : Int32} {p1 : Int32} (hN : 20000 ≤ N) (R : RB24 L E C P W A dz rt st z T X zc fc sc zk fk sk zw ms es vs ps pn d ac) (H : RH hs hB sts was acs) :
    ∃ (r : Int32) (qn' : Int32) (qv' : Int32) (qL' : Int32) (qE' : Int32) (qC' : Int32) (qP' : Int32) (qW' : Int32) (qA' : Int64) (qdz' : Int32) (qz' : Int32) (qT' : Nat → Int32) (qX' : Nat → Int32) (qzc' : Int32) (qfc' : Nat → Int32) (qsc' : Nat → Int32) (qzb' : Int32) (qfb' : Nat → Int32) (qsb' : Nat → Int32) (qu' : Nat → Int32) (qd' : Nat → Int32) (qt' : Nat → Int32) (ac' : Int64) (d' : Nat → Int32) (mo' : Nat → Int32) (mp' : Nat → Int32) (mq' : Nat → Int32), f_X7_calibration N dz zc fc sc zw ms es vs ps pn qn qv qL qE qC qP qW qA qdz qz qT qX qzc qfc qsc qzb qfb qsb qu qd qt p0 p1 = some (r, qn', qv', qL', qE', qC', qP', qW', qA', qdz', qz', qT', qX', qzc', qfc', qsc', qzb', qfb', qsb', qu', qd', qt') ∧ f_X8_calibration N ac d mo mp mq p0 p1 = some (r, ac', d', mo', mp', mq') ∧ RB24 L E C P W A dz rt st z T X zc fc sc zk fk sk zw ms es vs ps pn d' ac' ∧ RH hs hB sts was acs := by
  by_cases c : p1 < 0 ∨ 14 < p1
  · refine ⟨-2000000001, qn, qv, qL, qE, qC, qP, qW, qA, qdz, qz, qT, qX, qzc, qfc, qsc, qzb, qfb, qsb, qu, qd, qt, ac, d, mo, mp, mq, ?_, ?_, R, H⟩
    · unfold f_X7_calibration; rw [e_out, if_pos c, ob_s, if_neg o1]
    · unfold f_X8_calibration
      rcases e_set (x := p0) (show 3000 ≤ N by omega) R.2.2.2.2 with ⟨-, h⟩ | ⟨-, h, -⟩ | ⟨-, h, -⟩
      · rw [h, ob_s, if_pos o3]
      · rw [h, ob_s, if_neg o1, e_in, if_pos c, ob_s, if_neg o2]
      · rw [h, ob_s, if_neg o1, e_in, if_pos c, ob_s, if_neg o2]
  · obtain ⟨x0, x1⟩ := out_n c
    rw [t_0] at x0; rw [show (14 : Int32).toInt = 14 by decide] at x1
    rcases e_set (x := p0) (show 3000 ≤ N by omega) R.2.2.2.2 with ⟨h1, h2⟩ | ⟨h1, h2, h3⟩ | ⟨h1, h2, h3, n, s, hn, ez, hsx, ex, k1, k5, h4, h5⟩
    · refine ⟨-2000000001, qn, qv, qL, qE, qC, qP, qW, qA, qdz, qz, qT, qX, qzc, qfc, qsc, qzb, qfb, qsb, qu, qd, qt, ac, d, mo, mp, mq, ?_, ?_, R, H⟩
      · unfold f_X7_calibration; rw [e_out, if_neg c, ob_s, if_pos o3, h1, ob_s, if_neg (by decide)]
      · unfold f_X8_calibration; rw [h2, ob_s, if_pos o3]
    · refine ⟨-2000000002, qn, qv, qL, qE, qC, qP, qW, qA, qdz, qz, qT, qX, qzc, qfc, qsc, qzb, qfb, qsb, qu, qd, qt, ac, d, mo, mp, mq, ?_, ?_, R, H⟩
      · unfold f_X7_calibration; rw [e_out, if_neg c, ob_s, if_pos o3, h1, ob_s, if_neg (by decide)]
      · unfold f_X8_calibration; rw [h2, ob_s, if_neg o1, e_in, if_neg c, ob_s, if_pos o1, h3, ob_s, if_neg o2]
    · subst ez; subst ex
      obtain ⟨q, hq, eq⟩ : ∃ q : Nat, q ≤ 14 ∧ p1 = nI q := ⟨p1.toInt.toNat, by omega, nI_of_t (by omega)⟩
      subst eq
      obtain ⟨rL, rE, rP, rW, rz, rA, rT, rX, rfc, rsc, fb, sb, up, dn, td, d', a', pl, tl, g, g1, g2, g3, g4, g5⟩ := e_run (qz := qz) (qT := qT) (qX := qX) (qfc := qfc) (qsc := qsc) (qzb := qzb) (qfb := qfb) (qsb := qsb) (qu := qu) (qd := qd) (qt := qt) (mo := mo) (mp := mp) (mq := mq) hN R hn hsx k1 k5 h5
      have R' := RB_keep R g3
      have d41 : d' 41 = nI n := (RW_m0 R'.2.2.2.2)
      obtain ⟨r, p1, p2⟩ := e_prop (q := q) (ac := ac) (a := a') (tl := tl) hN hn hsx k5 d41 g4 g5 hq
      have hcl : f_X7_calibration N dz zc fc sc (nI n) ms es vs ps pn qn qv qL qE qC qP qW qA qdz qz qT qX qzc qfc qsc qzb qfb qsb qu qd qt (nI s) (nI q) = some (r, nI (pcb s n), vsm s g n, rL, rE, 0, rP, rW, rA, dz, rz, rT, rX, zc, rfc, rsc, nI (pcb s n + 1), fb, sb, up, dn, td) := by
        unfold f_X7_calibration
        rw [e_out, if_neg c, ob_s, if_pos o3, h1, ob_s, if_pos o3, g1, ob_s]
        dsimp only
        rw [p1, ob_s]
      rcases p2 with ⟨l1, l2, rfl⟩ | ⟨l1, l2, l3⟩ | ⟨l1, l2⟩
      · refine ⟨-2000000004, nI (pcb s n), vsm s g n, rL, rE, 0, rP, rW, rA, dz, rz, rT, rX, zc, rfc, rsc, nI (pcb s n + 1), fb, sb, up, dn, td, ac, d, mo, mp, mq, hcl, ?_, R, H⟩
        unfold f_X8_calibration
        rw [h2, ob_s, if_neg o1, e_in, if_neg c, ob_s, if_pos o1, h3, ob_s, if_pos o1, h4, ob_s, if_neg (show ¬ (12 : Int32) ≤ nI q from (show ¬ nI 12 ≤ nI q from nI_ge l1 (by omega))), mod_t q l1, if_neg (nI_ge l2 (by omega))]
      · refine ⟨r, nI (pcb s n), vsm s g n, rL, rE, 0, rP, rW, rA, dz, rz, rT, rX, zc, rfc, rsc, nI (pcb s n + 1), fb, sb, up, dn, td, ac, d', a', pl, tl, hcl, ?_, R', H⟩
        unfold f_X8_calibration
        rw [h2, ob_s, if_neg o1, e_in, if_neg c, ob_s, if_pos o1, h3, ob_s, if_pos o1, h4, ob_s, if_neg (show ¬ (12 : Int32) ≤ nI q from (show ¬ nI 12 ≤ nI q from nI_ge l1 (by omega))), mod_t q l1, if_pos (nI_le l2 (by omega)), g2, ob_s, if_neg (show ¬ (12 : Int32) ≤ nI q from (show ¬ nI 12 ≤ nI q from nI_ge l1 (by omega)))]
        exact l3
      · refine ⟨r, nI (pcb s n), vsm s g n, rL, rE, 0, rP, rW, rA, dz, rz, rT, rX, zc, rfc, rsc, nI (pcb s n + 1), fb, sb, up, dn, td, ac, d', a', pl, tl, hcl, ?_, R', H⟩
        have h12 : (12 : Int32) ≤ nI q := (show nI 12 ≤ nI q from nI_le l1 (by omega))
        unfold f_X8_calibration
        rw [h2, ob_s, if_neg o1, e_in, if_neg c, ob_s, if_pos o1, h3, ob_s, if_pos o1, h4, ob_s, if_pos h12, g2, ob_s, if_pos h12]
        exact l2

theorem e_ado {c : Nat} {ac : Int64} {sts : Int32} {was a pl tl fb : Nat → Int32} {acs : Nat → Int64} (c5 : c ≤ 5) (h : ∀ y, y ≤ c → f_X8_middle pl (nI y) = some (fb y)) : ∀ (j y k : Nat) (d1 : Nat → Int32), y + j = c + 1 → j < k → (∀ x, x < y → d1 (27 + x) = fb x ∧ d1 (34 + x) = tl x) →
    ∃ d2 : Nat → Int32, f_X8_adopt_b59 (nI c) ac sts was acs a pl tl k (nI y) d1 = some (d2 26, ac, sts, d2, was, acs, a, pl, tl) ∧ (∀ x, x < c + 1 → d2 (27 + x) = fb x ∧ d2 (34 + x) = tl x) ∧ ∀ k, k < 27 ∨ 41 ≤ k → d2 k = d1 k := by
  intro j
  induction j with
  | zero =>
    intro y k d1 hy hk h1
    obtain ⟨k, rfl⟩ : ∃ k', k = k' + 1 := ⟨k - 1, by omega⟩
    have : y = c + 1 := by omega
    subst this
    refine ⟨d1, ?_, h1, fun _ _ => rfl⟩
    rw [f_X8_adopt_b59, if_pos (nI_lt (by omega) (by omega))]
  | succ j ih =>
    intro y k d1 hy hk h1
    obtain ⟨k, rfl⟩ : ∃ k', k = k' + 1 := ⟨k - 1, by omega⟩
    obtain ⟨d2, g1, g2, g3⟩ := ih (y + 1) k (upd (upd d1 (27 + y) (fb y)) (34 + y) (tl y)) (by omega) (by omega) (fun x hx => by
      by_cases cx : x = y
      · subst cx
        exact ⟨by rw [un (by omega), us], us⟩
      · rw [un (by omega), un (by omega), un (by omega), un (by omega)]
        exact h1 x (by omega))
    refine ⟨d2, ?_, g2, fun k hk => by rw [g3 k hk, un (by omega), un (by omega)]⟩
    rw [f_X8_adopt_b59, if_neg (nI_nlt (by omega) (by omega)), h y (by omega), ob_s, k_27, gA_i _ (by omega) (by omega), nm_s, gA_i _ (by omega) (by omega), nm_s, k_34, gA_i _ (by omega) (by omega), nm_s, p_1, nm_s, cl_i (n := 27 + y) (by omega), cl_i (n := y) (by omega), cl_i (n := 34 + y) (by omega)]
    exact g1
theorem RK_of {c : Nat} {fb sb f s d : Nat → Int32} (c1 : 1 ≤ c) (c5 : c ≤ 5) (ho : OKs fb sb (c + 1)) (d26 : d 26 = nI (c + 1)) (hd : ∀ x, x < c + 1 → d (27 + x) = fb x ∧ d (34 + x) = sb x) (hf : ∀ x, x < c + 1 → f x = fb x ∧ s x = sb x) : RK (nI (c + 1)) f s d := by
  have o0 := ho 0 (by omega)
  have oc := ho c (by omega)
  refine ⟨c + 1, by omega, by omega, rfl, d26, fun i hi => by rw [(hd i hi).1, (hf i hi).1], fun i hi => by rw [(hd i hi).2, (hf i hi).2], by rw [(hf 0 (by omega)).1]; exact o0.1, ?_, by rw [(hf 0 (by omega)).2]; exact o0.2.2.1, ?_, fun i hi => ?_, fun i hi => ?_⟩
  · rw [show c + 1 - 1 = c by omega, (hf c (by omega)).1]; exact oc.2.1
  · rw [show c + 1 - 1 = c by omega, (hf c (by omega)).2]; exact oc.2.2.2.1
  · show (f i).toInt < (f (i + 1)).toInt
    rw [(hf i (by omega)).1, (hf (i + 1) hi).1]
    exact ((ho (i + 1) hi).2.2.2.2 i rfl).1
  · show (s i).toInt < (s (i + 1)).toInt
    rw [(hf i (by omega)).2, (hf (i + 1) hi).2]
    exact ((ho (i + 1) hi).2.2.2.2 i rfl).2

theorem s_adopt {N : Nat} {L : Int32} {E : Int32} {C : Int32} {P : Int32} {W : Int32} {A : Int64} {dz : Int32} {rt : Int32} {st : Int32} {z : Int32} {T : Nat → Int32} {X : Nat → Int32} {zc : Int32} {fc : Nat → Int32} {sc : Nat → Int32} {zk : Int32} {fk : Nat → Int32} {sk : Nat → Int32} {zw : Int32} {ms : Nat → Int32} {es : Nat → Int32} {vs : Nat → Int32} {ps : Nat → Int32} {pn : Nat → Int32} {hs : Int32} {hB : Nat → BS} {sts : Int32} {d : Nat → Int32} {was : Nat → Int32} {ac : Int64} {acs : Nat → Int64} {qn : Int32} {qv : Int32} {qL : Int32} {qE : Int32} {qC : Int32} {qP : Int32} {qW : Int32} {qA : Int64} {qdz : Int32} {qz : Int32} {qT : Nat → Int32} {qX : Nat → Int32} {qzc : Int32} {qfc : Nat → Int32} {qsc : Nat → Int32} {qzb : Int32} {qfb : Nat → Int32} {qsb : Nat → Int32} {qu : Nat → Int32} {qd : Nat → Int32} {qt : Nat → Int32} {mo : Nat → Int32} {mp : Nat → Int32} {mq : Nat → Int32} {p0 : Int32} (hN : 20000 ≤ N) (R : RB24 L E C P W A dz rt st z T X zc fc sc zk fk sk zw ms es vs ps pn d ac) (H : RH hs hB sts was acs) :
    ∃ (r : Int32) (zk' : Int32) (fk' : Nat → Int32) (sk' : Nat → Int32) (hs' : Int32) (qn' : Int32) (qv' : Int32) (qL' : Int32) (qE' : Int32) (qC' : Int32) (qP' : Int32) (qW' : Int32) (qA' : Int64) (qdz' : Int32) (qz' : Int32) (qT' : Nat → Int32) (qX' : Nat → Int32) (qzc' : Int32) (qfc' : Nat → Int32) (qsc' : Nat → Int32) (qzb' : Int32) (qfb' : Nat → Int32) (qsb' : Nat → Int32) (qu' : Nat → Int32) (qd' : Nat → Int32) (qt' : Nat → Int32) (hB' : Nat → BS) (ac' : Int64) (sts' : Int32) (d' : Nat → Int32) (was' : Nat → Int32) (acs' : Nat → Int64) (mo' : Nat → Int32) (mp' : Nat → Int32) (mq' : Nat → Int32), f_X7_adopt N L E C P W A dz rt st z T X zc fc sc zk fk sk zw ms es vs ps pn hs qn qv qL qE qC qP qW qA qdz qz qT qX qzc qfc qsc qzb qfb qsb qu qd qt hB p0 = some (r, zk', fk', sk', hs', qn', qv', qL', qE', qC', qP', qW', qA', qdz', qz', qT', qX', qzc', qfc', qsc', qzb', qfb', qsb', qu', qd', qt', hB') ∧ f_X8_adopt N ac sts d was acs mo mp mq p0 = some (r, ac', sts', d', was', acs', mo', mp', mq') ∧ RB24 L E C P W A dz rt st z T X zc fc sc zk' fk' sk' zw ms es vs ps pn d' ac' ∧ RH hs' hB' sts' was' acs' := by
  rcases e_set (x := p0) (show 3000 ≤ N by omega) R.2.2.2.2 with ⟨h1, h2⟩ | ⟨h1, h2, h3⟩ | ⟨h1, h2, h3, n, s, hn, ez, hsx, ex, k1, k5, h4, h5⟩
  · refine ⟨-2000000001, zk, fk, sk, hs, qn, qv, qL, qE, qC, qP, qW, qA, qdz, qz, qT, qX, qzc, qfc, qsc, qzb, qfb, qsb, qu, qd, qt, hB, ac, sts, d, was, acs, mo, mp, mq, ?_, ?_, R, H⟩
    · unfold f_X7_adopt; rw [h1, ob_s, if_neg (by decide)]
    · unfold f_X8_adopt; rw [h2, ob_s, if_neg o2]
  · refine ⟨-2000000002, zk, fk, sk, hs, qn, qv, qL, qE, qC, qP, qW, qA, qdz, qz, qT, qX, qzc, qfc, qsc, qzb, qfb, qsb, qu, qd, qt, hB, ac, sts, d, was, acs, mo, mp, mq, ?_, ?_, R, H⟩
    · unfold f_X7_adopt; rw [h1, ob_s, if_neg (by decide)]
    · unfold f_X8_adopt; rw [h2, ob_s, if_pos o1, h3, ob_s, if_neg o2]
  · subst ez; subst ex
    obtain ⟨rL, rE, rP, rW, rz, rA, rT, rX, rfc, rsc, fb, sb, up, dn, td, d', a', pl, tl, g, g1, g2, g3, g4, g5⟩ := e_run (qz := qz) (qT := qT) (qX := qX) (qfc := qfc) (qsc := qsc) (qzb := qzb) (qfb := qfb) (qsb := qsb) (qu := qu) (qd := qd) (qt := qt) (mo := mo) (mp := mp) (mq := mq) hN R hn hsx k1 k5 h5
    have R' := RB_keep R g3
    rcases e_sc (fb := fb) (sb := sb) (pl := pl) (tl := tl) k5 (fun y hy => (g4 y hy).2.2) (pcb s n + 1) 0 N N (by omega) (by omega) (by omega) (fun y hy => by omega) with ⟨x1, x2, x3⟩ | ⟨x1, x2⟩
    · obtain ⟨u, w, q1, q2, q3⟩ := rcd hN R' H
      obtain ⟨d2, y1, y2, y3⟩ := e_ado (ac := ac) (sts := w.1) (was := w.2.1) (acs := w.2.2) (a := a') (tl := tl) k5 (fun y hy => (g4 y hy).2.2.1) (pcb s n + 1) 0 N (upd d' 26 (nI (pcb s n + 1))) (by omega) (by omega) (fun x hx => by omega)
      have d26 : d2 26 = nI (pcb s n + 1) := by rw [y3 26 (by omega), us]
      have hk : ∀ k, k < 26 ∨ 41 ≤ k → d2 k = d' k := fun k hk => by rw [y3 k (by omega), un (by omega)]
      obtain ⟨hL, hT, hC, hK, hW⟩ := R'
      have hK2 : RK (nI (pcb s n + 1)) (va_cpy fb fk 0 0 (pcb s n + 1)) (va_cpy sb sk 0 0 (pcb s n + 1)) d2 := RK_of k1 k5 x3 d26 (fun x hx => ⟨(y2 x hx).1, by rw [(y2 x hx).2, (g4 x (by omega)).2.2.2]⟩) (fun x hx => ⟨cpy0 hx, cpy0 hx⟩)
      have hL2 : RLo L E C P W dz rt st A d2 ac := by
        obtain ⟨e0, e1, e2, e3, e4, e6, e7, e8, r⟩ := hL
        exact ⟨by rw [hk 0 (by omega), e0], by rw [hk 1 (by omega), e1], by rw [hk 2 (by omega), e2], by rw [hk 3 (by omega), e3], by rw [hk 4 (by omega), e4], by rw [hk 6 (by omega), e6], by rw [hk 7 (by omega), e7], by rw [hk 8 (by omega), e8], r⟩
      refine ⟨nI (pcb s n + 1), nI (pcb s n + 1), va_cpy fb fk 0 0 (pcb s n + 1), va_cpy sb sk 0 0 (pcb s n + 1), u.2, nI (pcb s n), vsm s g n, rL, rE, 0, rP, rW, rA, dz, rz, rT, rX, zc, rfc, rsc, nI (pcb s n + 1), fb, sb, up, dn, td, u.1, ac, w.1, d2, w.2.1, w.2.2, a', pl, tl, ?_, ?_, ⟨hL2, RT_keep hT (hk 5 (by omega)) (fun k h => hk k (by omega)), RC_keep hC (fun k h1 h2 => hk k (by omega)), hK2, RW_keep hW (fun k h1 h2 => hk k (by omega))⟩, q3⟩
      · unfold f_X7_adopt f_X5_isScale
        rw [h1, ob_s, if_pos o3, g1, ob_s]
        dsimp only
        rw [show f_X5_isScale_b2 6 (nI (pcb s n + 1)) fb sb N 0 = some 1 from x1, ob_s, if_pos o1, q1, ob_s, e_copy2 (show pcb s n + 1 ≤ 6 by omega) (by omega), ob_s]
      · unfold f_X8_adopt f_X8_isScale
        rw [h2, ob_s, if_pos o1, h3, ob_s, if_pos o1, h4, ob_s, g2, ob_s]
        dsimp only
        rw [show f_X8_isScale_b4 pl tl (nI (pcb s n)) N 1 0 = some 1 from x2, ob_s, if_pos o1, q2, ob_s, p_1, nm_s, nm_s]
        rw [d26] at y1
        exact y1
    · refine ⟨-2000000002, zk, fk, sk, hs, nI (pcb s n), vsm s g n, rL, rE, 0, rP, rW, rA, dz, rz, rT, rX, zc, rfc, rsc, nI (pcb s n + 1), fb, sb, up, dn, td, hB, ac, sts, d', was, acs, a', pl, tl, ?_, ?_, R', H⟩
      · unfold f_X7_adopt f_X5_isScale
        rw [h1, ob_s, if_pos o3, g1, ob_s]
        dsimp only
        rw [show f_X5_isScale_b2 6 (nI (pcb s n + 1)) fb sb N 0 = some 0 from x1, ob_s, if_neg o2]
      · unfold f_X8_adopt f_X8_isScale
        rw [h2, ob_s, if_pos o1, h3, ob_s, if_pos o1, h4, ob_s, g2, ob_s]
        dsimp only
        rw [show f_X8_isScale_b4 pl tl (nI (pcb s n)) N 1 0 = some 0 from x2, ob_s, if_neg o2]

