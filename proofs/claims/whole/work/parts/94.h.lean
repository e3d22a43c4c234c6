/-! pure part H: setPoint, removePoint, setBreak, removeBreak -/
theorem nlt_le {a b : Int32} : ¬ a < b ↔ b ≤ a := by rw [t_lt, t_le]; omega
theorem nle_lt {a b : Int32} : ¬ a ≤ b ↔ b < a := by rw [t_lt, t_le]; omega
theorem e_pointAt {n : Nat} {d f : Nat → Int32} {p : Int32} (hn : n ≤ 8) (df : ∀ i, i < n → d (10 + i) = f i) (hl : ¬ f (n - 1) < p) : ∀ (j i kk : Nat), i + j + 1 = n → j < kk → f_X8_pointAt_b2 d p kk (nI i) = some (nI (slot f p (j + 1) i)) := by
  intro j
  induction j with
  | zero =>
    intro i kk hi hk
    obtain ⟨kk, rfl⟩ : ∃ k', kk = k' + 1 := ⟨kk - 1, by omega⟩
    have e : n - 1 = i := by omega
    rw [e] at hl
    rw [f_X8_pointAt_b2, k_10, gA_i _ (by omega) (by omega), cl_i (by omega), df i (by omega), if_pos (nlt_le.mp hl), show slot f p (0 + 1) i = i from if_neg hl]
  | succ j ih =>
    intro i kk hi hk
    obtain ⟨kk, rfl⟩ : ∃ k', kk = k' + 1 := ⟨kk - 1, by omega⟩
    rw [f_X8_pointAt_b2, k_10, gA_i _ (by omega) (by omega), cl_i (by omega), df i (by omega)]
    by_cases c : f i < p
    · rw [if_neg (fun e => (nlt_le.mpr e) c), nm_s, p_1, ih (i + 1) kk (by omega) (by omega), show slot f p (j + 1 + 1) i = slot f p (j + 1) (i + 1) from if_pos c]
    · rw [if_pos (nlt_le.mp c), show slot f p (j + 1 + 1) i = i from if_neg c]
theorem e_b29 {N n : Nat} {d f was : Nat → Int32} {acs : Nat → Int64} {ac : Int64} {p q sts : Int32} (hn : n ≤ 6) (d26 : d 26 = nI n) (df : ∀ i, i < n → d (27 + i) = f i) : ∀ (j i kk : Nat), i + j = n → j < kk →
    f_X8_setBreak_b29 N ac p q sts d was acs kk (nI i) = f_X8_setBreak_b59 N ac p q (nI (slot f p j i)) sts d was acs := by
  intro j
  induction j with
  | zero =>
    intro i kk hi hk
    obtain ⟨kk, rfl⟩ : ∃ k', kk = k' + 1 := ⟨kk - 1, by omega⟩
    rw [f_X8_setBreak_b29, d26, if_pos (nI_le (by omega) (by omega))]
    rfl
  | succ j ih =>
    intro i kk hi hk
    obtain ⟨kk, rfl⟩ : ∃ k', kk = k' + 1 := ⟨kk - 1, by omega⟩
    rw [f_X8_setBreak_b29, d26, if_neg (nI_ge (by omega) (by omega)), k_27, gA_i _ (by omega) (by omega), cl_i (by omega), df i (by omega)]
    by_cases c : f i < p
    · rw [if_neg (fun e => (nlt_le.mpr e) c), nm_s, p_1, ih (i + 1) kk (by omega) (by omega), show slot f p (j + 1) i = slot f p j (i + 1) from if_pos c]
    · rw [if_pos (nlt_le.mp c), show slot f p (j + 1) i = i from if_neg c]
theorem oc {α : Type} {c : Prop} [Decidable c] {a b : α} (h : c) : (if c then a else b) = a := if_pos h
/-- the slot among points that begin with 0 and end with 1000 -/
theorem slot_pt {n : Nat} {f : Nat → Int32} {p : Int32} (h2 : 2 ≤ n) (f0 : (f 0).toInt = 0) (f1 : (f (n - 1)).toInt = 1000) (p0 : 1 ≤ p.toInt) (p1 : p.toInt ≤ 1000) : 1 ≤ slot f p n 0 ∧ slot f p n 0 < n ∧ ¬ f (n - 1) < p ∧ f (slot f p n 0 - 1) < p ∧ ¬ f (slot f p n 0) < p := by
  obtain ⟨h3, h4, h5, h6⟩ := slot_le (f := f) (p := p) n 0
  have hl : ¬ f (n - 1) < p := by rw [t_lt, f1]; omega
  have hlt : slot f p n 0 < n := by
    by_cases c : slot f p n 0 < n
    · exact c
    · exact absurd (h5 (n - 1) (by omega) (by omega)) hl
  have hge : 1 ≤ slot f p n 0 := by
    by_cases c : 1 ≤ slot f p n 0
    · exact c
    · have e : slot f p n 0 = 0 := by omega
      have := h6 (by omega)
      rw [e, t_lt, f0] at this
      omega
  exact ⟨hge, hlt, hl, h5 _ (by omega) (by omega), h6 (by omega)⟩
def RI (s : Nat → Int32) (q : Int32) (n k b : Nat) : Prop := (k = 0 ∨ s (k - 1) < q) ∧ (n ≤ b ∨ q < s b)
theorem RI_i {s : Nat → Int32} {q : Int32} {n k b : Nat} (h : RI s q n k b) : (k = 0 ∨ s (k - 1) < q) ∧ (n ≤ b ∨ q < s b) := h
theorem RI_o {s : Nat → Int32} {q : Int32} {n k b : Nat} (h : (k = 0 ∨ s (k - 1) < q) ∧ (n ≤ b ∨ q < s b)) : RI s q n k b := h
theorem e_b63 {N n k b : Nat} {d s was : Nat → Int32} {acs : Nat → Int64} {ac : Int64} {p q x4 sts : Int32} (hn : n ≤ 8) (d9 : d 9 = nI n) (ds : ∀ i, i < n → d (18 + i) = s i) (hk : 1 ≤ k) (hk2 : k < n) (hb : b ≤ n) :
    (RI s q n k b → f_X8_setPoint_b63 N ac p q (nI k) x4 (nI b) sts d was acs = f_X8_setPoint_b111 N ac p q (nI k) x4 1 sts d was acs) ∧
    (¬ RI s q n k b → f_X8_setPoint_b63 N ac p q (nI k) x4 (nI b) sts d was acs = f_X8_setPoint_b111 N ac p q (nI k) x4 0 sts d was acs) := by
  obtain ⟨k, rfl⟩ : ∃ k', k = k' + 1 := ⟨k - 1, by omega⟩
  unfold f_X8_setPoint_b63 f_X8_setPoint_b110 f_X8_setPoint_b106
  rw [k_18, k_18, show 18 + (k + 1) = 18 + k + 1 from rfl, m_1, gA_i _ (by omega) (by omega), cl_i (by omega), ds k (by omega), d9]
  refine ⟨fun h => ?_, fun h => ?_⟩
  · have h1 : s k < q := by
      rcases h.1 with e | e
      · omega
      · rw [Nat.add_sub_cancel] at e; exact e
    rw [if_neg (nle_lt.mpr h1)]
    by_cases c : b = n
    · subst c
      rw [if_pos rfl]
    · rw [if_neg (fun e => c ((nI_eq (by omega) (by omega)).mp e)), gA_i _ (by omega) (by omega), cl_i (by omega), ds b (by omega), if_neg]
      rcases h.2 with e | e
      · omega
      · exact nle_lt.mpr e
  · by_cases h1 : q ≤ s k
    · rw [if_pos h1]
    · rw [if_neg h1]
      have h2 : ¬ (n ≤ b ∨ q < s b) := fun e => h ⟨Or.inr (by rw [Nat.add_sub_cancel]; exact nle_lt.mp h1), e⟩
      have hbn : b < n := by
        by_cases c : b < n
        · exact c
        · exact absurd (Or.inl (by omega)) h2
      rw [if_neg (fun e => absurd ((nI_eq (a := b) (by omega) (by omega)).mp e) (by omega)), gA_i _ (by omega) (by omega), cl_i (by omega), ds b hbn, if_pos]
      exact nlt_le.mp (fun e => h2 (Or.inr e))
theorem e_setPointM {N n : Nat} {d f s was : Nat → Int32} {acs : Nat → Int64} {ac : Int64} {p q sts : Int32} (hN : 20000 ≤ N) (h2 : 2 ≤ n) (hn : n ≤ 8) (d9 : d 9 = nI n) (df : ∀ i, i < n → d (10 + i) = f i) (ds : ∀ i, i < n → d (18 + i) = s i)
    (f0 : (f 0).toInt = 0) (f1 : (f (n - 1)).toInt = 1000) (c : ¬ (p < 1 ∨ 1000 < p)) (c2 : ¬ (q < 1 ∨ 20000 < q)) :
    (thr f p n → (RI s q n (slot f p n 0) (slot f p n 0 + 1) → f_X8_setPoint N ac sts d was acs p q = f_X8_setPoint_b111 N ac p q (nI (slot f p n 0)) 1 1 sts d was acs) ∧ (¬ RI s q n (slot f p n 0) (slot f p n 0 + 1) → f_X8_setPoint N ac sts d was acs p q = f_X8_setPoint_b111 N ac p q (nI (slot f p n 0)) 1 0 sts d was acs)) ∧
    (¬ thr f p n → (RI s q n (slot f p n 0) (slot f p n 0) → f_X8_setPoint N ac sts d was acs p q = f_X8_setPoint_b111 N ac p q (nI (slot f p n 0)) 0 1 sts d was acs) ∧ (¬ RI s q n (slot f p n 0) (slot f p n 0) → f_X8_setPoint N ac sts d was acs p q = f_X8_setPoint_b111 N ac p q (nI (slot f p n 0)) 0 0 sts d was acs)) := by
  obtain ⟨x0, x1⟩ := out_n c
  rw [t_1] at x0; rw [t_1000] at x1
  obtain ⟨k0, k1, hl, k2, k3⟩ := slot_pt h2 f0 f1 x0 x1
  have hp : f_X8_pointAt N d p = some (nI (slot f p n 0)) := by
    have := e_pointAt hn df hl (n - 1) 0 N (by omega) (by omega)
    rw [show n - 1 + 1 = n by omega] at this
    exact this
  unfold f_X8_setPoint
  rw [e_in, if_neg c, ob_s, if_neg o1, e_in, if_neg c2, ob_s, if_pos o1, hp, ob_s, k_10, gA_i _ (by omega) (by omega), cl_i (by omega), df _ k1]
  refine ⟨fun h => ?_, fun h => ?_⟩
  · rw [if_neg (fun e => e h.2)]
    unfold f_X8_setPoint_b49
    rw [if_neg o1, p_1]
    exact e_b63 hn d9 ds k0 k1 (by omega)
  · rw [if_pos (fun e => h ⟨k1, e⟩)]
    unfold f_X8_setPoint_b49
    rw [if_pos o3]
    exact e_b63 hn d9 ds k0 k1 (by omega)
theorem e_free {L W z : Int32} {T X d : Nat → Int32} (d0 : d 0 = L) (hT : RT L W z T X d) : (L = 0 ∧ z = 0 → f_X3_isUnturnedAtZero L z = some 1 ∧ f_X8_isFree d = some 1) ∧ (¬ (L = 0 ∧ z = 0) → f_X3_isUnturnedAtZero L z = some 0 ∧ f_X8_isFree d = some 0) := by
  have d5 : d 5 = z := by obtain ⟨n, _, e, d5, _⟩ := hT; rw [d5, e]
  unfold f_X3_isUnturnedAtZero f_X8_isFree
  rw [d0, d5]
  refine ⟨fun h => ?_, fun h => ?_⟩
  · rw [if_neg (fun e => e h.1), if_neg (fun e => e h.2)]
    exact ⟨rfl, rfl⟩
  · by_cases c : L = 0
    · rw [if_neg (fun e => e c), if_pos (fun e => h ⟨c, e⟩)]
      exact ⟨rfl, rfl⟩
    · rw [if_pos c]
      exact ⟨rfl, rfl⟩
theorem RL_keep {L E C P W dz rt st : Int32} {A ac : Int64} {d d' : Nat → Int32} (hL : RLo L E C P W dz rt st A d ac) (h : ∀ k, k < 9 → d' k = d k) : RLo L E C P W dz rt st A d' ac := by
  obtain ⟨d0, d1, d2, d3, d4, d6, d7, d8, r⟩ := hL
  exact ⟨by rw [h 0 (by omega), d0], by rw [h 1 (by omega), d1], by rw [h 2 (by omega), d2], by rw [h 3 (by omega), d3], by rw [h 4 (by omega), d4], by rw [h 6 (by omega), d6], by rw [h 7 (by omega), d7], by rw [h 8 (by omega), d8], r⟩

theorem s_setPoint {N : Nat} {L : Int32} {E : Int32} {C : Int32} {P : Int32} {W : Int32} {A : Int64} {dz : Int32} {rt : Int32} {st : Int32} {z : Int32} {T : Nat → Int32} {X : Nat → Int32} {zc : Int32} {fc : Nat → Int32} {sc : Nat → Int32} {zk : Int32} {fk : Nat → Int32} {sk : Nat → Int32} {zw : Int32} {ms : Nat → Int32} {es : Nat → Int32} {vs : Nat → Int32} {ps : Nat → Int32} {pn : Nat → Int32} {hs : Int32} {hB : Nat → BS} {sts : Int32} {d : Nat → Int32} {was : Nat → Int32} {ac : Int64} {acs : Nat → Int64} {p0 : Int32} {p1 : Int32} (hN : 20000 ≤ N) (R : RB24 L E C P W A dz rt st z T X zc fc sc zk fk sk zw ms es vs ps pn d ac) (H : RH hs hB sts was acs) :
    ∃ (r : Int32) (zc' : Int32) (fc' : Nat → Int32) (sc' : Nat → Int32) (hs' : Int32) (hB' : Nat → BS) (sts' : Int32) (d' : Nat → Int32) (was' : Nat → Int32) (acs' : Nat → Int64), f_X7_setPoint N L E C P W A dz rt st z T X zc fc sc zk fk sk zw ms es vs ps pn hs hB p0 p1 = some (r, zc', fc', sc', hs', hB') ∧ f_X8_setPoint N ac sts d was acs p0 p1 = some (r, sts', d', was', acs') ∧ RB24 L E C P W A dz rt st z T X zc' fc' sc' zk fk sk zw ms es vs ps pn d' ac ∧ RH hs' hB' sts' was' acs' := by
  by_cases c : p0 < 1 ∨ 1000 < p0
  · refine ⟨-2000000001, zc, fc, sc, hs, hB, sts, d, was, acs, ?_, ?_, R, H⟩
    · unfold f_X7_setPoint; rw [e_out, if_pos c, ob_s, if_pos o1]
    · unfold f_X8_setPoint; rw [e_in, if_pos c, ob_s, if_pos o3]
  by_cases c2 : p1 < 1 ∨ 20000 < p1
  · refine ⟨-2000000001, zc, fc, sc, hs, hB, sts, d, was, acs, ?_, ?_, R, H⟩
    · unfold f_X7_setPoint; rw [e_out, if_neg c, ob_s, if_neg o2, e_out, if_pos c2, ob_s, if_neg o1]
    · unfold f_X8_setPoint; rw [e_in, if_neg c, ob_s, if_neg o1, e_in, if_pos c2, ob_s, if_neg o2]
  obtain ⟨x0, x1⟩ := out_n c
  rw [t_1] at x0; rw [t_1000] at x1
  obtain ⟨y0, y1⟩ := out_n c2
  rw [t_1] at y0; rw [t_20000] at y1
  obtain ⟨u, w, g1, g2, g3⟩ := rcd hN R H
  have R0 := R
  obtain ⟨hL, hT, hC, hK, hW⟩ := R
  obtain ⟨n, h2, hn, ez, d9, df, ds, f0, s0, f1, s1, i1, i2⟩ := hC
  subst ez
  obtain ⟨k0, k1, hl, k2, k3⟩ := slot_pt h2 f0 f1 x0 x1
  obtain ⟨fr1, fr2⟩ := e_free hL.1 hT
  obtain ⟨m1, m2⟩ := e_setPointM (N := N) (d := d) (was := was) (acs := acs) (ac := ac) (sts := sts) hN h2 hn d9 df ds f0 f1 c c2
  obtain ⟨st1, st2⟩ := e_rise (N := N) (M := 8) (n := n) (f := fc) (s := sc) (p := p0) (q := p1) (by omega) hn (by omega)
  obtain ⟨rm1, rm2⟩ := e_room (N := N) (M := 8) (n := n) (f := fc) (p := p0) (by omega) hn (by omega)
  obtain ⟨ly1, ly2⟩ := e_lay (N := N) (M := 8) (n := n) (f := fc) (s := sc) (p := p0) (q := p1) (by omega) hn (by omega)
  obtain ⟨k, ek⟩ : ∃ k, k = slot fc p0 n 0 := ⟨_, rfl⟩
  rw [← ek] at k0 k1 k2 k3 m1 m2 st1 st2 ly1 ly2
  by_cases fr : L = 0 ∧ z = 0
  · obtain ⟨fr1, fr3⟩ := fr1 fr
    by_cases th : thr fc p0 n
    · obtain ⟨ma, mb⟩ := m1 th
      have st := st1 th
      by_cases ri : RI sc p1 n k (k + 1)
      · refine ⟨nI n, nI n, fc, upd sc k p1, u.2, u.1, w.1, upd (upd d (10 + k) p0) (18 + k) p1, w.2.1, w.2.2, ?_, ?_, ⟨RL_keep hL (fun x hx => by rw [un (by omega), un (by omega)]), RT_keep hT (by rw [un (by omega), un (by omega)]) (fun x hx => by rw [un (by omega), un (by omega)]), ⟨n, h2, hn, rfl, by rw [un (by omega), un (by omega), d9], fun i hi => ?_, fun i hi => ?_, f0, by rw [un (by omega)]; exact s0, f1, ?_, i1, upd_inc i2 ri.1 ri.2⟩, RK_keep hK (fun x h1 h2 => by rw [un (by omega), un (by omega)]), RW_keep hW (fun x h1 h2 => by rw [un (by omega), un (by omega)])⟩, g3⟩
        · unfold f_X7_setPoint
          rw [e_out, if_neg c, ob_s, if_neg o2, e_out, if_neg c2, ob_s, if_pos o3, fr1, ob_s, if_neg o1, st, if_pos (RI_i ri), ob_s, if_pos o1, rm1 (Or.inr th), ob_s, if_pos o1, g1, ob_s, ly1 th, ob_s]
        · rw [ma ri]
          unfold f_X8_setPoint_b111 f_X8_setPoint_b148
          rw [fr3, ob_s, if_neg o1, if_pos o1, if_pos o1, g2, ob_s, if_pos o1, k_10, gA_i _ (by omega) (by omega), cl_i (by omega), nm_s, k_18, gA_i _ (by omega) (by omega), cl_i (by omega), nm_s, un (show 9 ≠ 18 + k by omega), un (show 9 ≠ 10 + k by omega), d9]
        · rw [un (by omega)]
          by_cases e : i = k
          · rw [e, us, ek]; exact th.2.symm
          · rw [un (by omega), df i hi]
        · by_cases e : i = k
          · rw [e, us, us]
          · rw [un (by omega), un (by omega), un e, ds i hi]
        · by_cases e : n - 1 = k
          · rw [e, us]; exact y1
          · rw [un e]; exact s1
      · refine ⟨-2000000002, nI n, fc, sc, hs, hB, sts, d, was, acs, ?_, ?_, R0, H⟩
        · unfold f_X7_setPoint
          rw [e_out, if_neg c, ob_s, if_neg o2, e_out, if_neg c2, ob_s, if_pos o3, fr1, ob_s, if_neg o1, st, if_neg (fun e => ri (RI_o e)), ob_s, if_neg o2]
        · rw [mb ri]
          unfold f_X8_setPoint_b111
          rw [fr3, ob_s, if_neg o1, if_neg o2]
    · obtain ⟨ma, mb⟩ := m2 th
      have st := st2 th
      by_cases ri : RI sc p1 n k k
      · by_cases h8 : n < 8
        · obtain ⟨f', s', l1, l2⟩ := ly2 th h8
          obtain ⟨g', q1, q2, q3, q4⟩ := sh_setPoint_b166 (n := n) (k := k) (f := fc) (s := sc) (d := d) (was := w.2.1) (acs := w.2.2) (p0 := p0) (p1 := p1) (sts := w.1) (by omega) (by omega) (n - k) n N d (by omega) (by omega) (by omega) (fun x h1 h2 => by omega) (fun x h1 h2 => ⟨df x h2, ds x h2⟩) (fun y hy => rfl) d9
          have hlt : p0 < fc k := by
            have : ¬ fc k = p0 := fun e => th ⟨by rw [← ek]; exact k1, by rw [← ek]; exact e⟩
            rw [t_lt] at k3 ⊢
            have : (fc k).toInt ≠ p0.toInt := fun e => this (t_eq.mpr e)
            omega
          refine ⟨nI (n + 1), nI (n + 1), f', s', u.2, u.1, w.1, g', w.2.1, w.2.2, ?_, ?_, ⟨RL_keep hL (fun x hx => q4 x (by omega)), RT_keep hT (q4 5 (by omega)) (fun x hx => q4 x (by omega)), ⟨n + 1, by omega, by omega, rfl, q3, fun i hi => by rw [(q2 i hi).1, (l2 i hi).1], fun i hi => by rw [(q2 i hi).2, (l2 i hi).2], ?_, ?_, ?_, ?_, inc_cg (fun i hi => (l2 i hi).1) (ins_inc i1 (by omega) (Or.inr k2) (Or.inr hlt)), inc_cg (fun i hi => (l2 i hi).2) (ins_inc i2 (by omega) ri.1 ri.2)⟩, RK_keep hK (fun x h1 h2 => q4 x (by omega)), RW_keep hW (fun x h1 h2 => q4 x (by omega))⟩, g3⟩
          · unfold f_X7_setPoint
            rw [e_out, if_neg c, ob_s, if_neg o2, e_out, if_neg c2, ob_s, if_pos o3, fr1, ob_s, if_neg o1, st, if_pos (RI_i ri), ob_s, if_pos o1, rm1 (Or.inl h8), ob_s, if_pos o1, g1, ob_s, l1, ob_s]
          · rw [ma ri]
            unfold f_X8_setPoint_b111 f_X8_setPoint_b148
            rw [fr3, ob_s, if_neg o1, if_pos o1, if_neg o2, d9, if_pos (show ¬ nI n = (8 : Int32) from nI_ne (c := 8) (by omega) (by omega) (by omega)), g2, ob_s, if_neg o2, nm_s, q1]
          · rw [(l2 0 (by omega)).1, ins_lt (by omega)]; exact f0
          · rw [(l2 0 (by omega)).2, ins_lt (by omega)]; exact s0
          · rw [Nat.add_sub_cancel, (l2 n (by omega)).1, ins_gt k1]; exact f1
          · rw [Nat.add_sub_cancel, (l2 n (by omega)).2, ins_gt k1]; exact s1
        · have h88 : n = 8 := by omega
          refine ⟨-2000000003, nI n, fc, sc, hs, hB, sts, d, was, acs, ?_, ?_, R0, H⟩
          · unfold f_X7_setPoint
            rw [e_out, if_neg c, ob_s, if_neg o2, e_out, if_neg c2, ob_s, if_pos o3, fr1, ob_s, if_neg o1, st, if_pos (RI_i ri), ob_s, if_pos o1, rm2 (fun e => e.elim h8 th), ob_s, if_neg o2]
          · rw [ma ri]
            unfold f_X8_setPoint_b111
            rw [fr3, ob_s, if_neg o1, if_pos o1, if_neg o2, d9, if_neg (fun e => e (by rw [h88]; rfl))]
      · refine ⟨-2000000002, nI n, fc, sc, hs, hB, sts, d, was, acs, ?_, ?_, R0, H⟩
        · unfold f_X7_setPoint
          rw [e_out, if_neg c, ob_s, if_neg o2, e_out, if_neg c2, ob_s, if_pos o3, fr1, ob_s, if_neg o1, st, if_neg (fun e => ri (RI_o e)), ob_s, if_neg o2]
        · rw [mb ri]
          unfold f_X8_setPoint_b111
          rw [fr3, ob_s, if_neg o1, if_neg o2]
  · obtain ⟨fr1, fr3⟩ := fr2 fr
    refine ⟨-2000000002, nI n, fc, sc, hs, hB, sts, d, was, acs, ?_, ?_, R0, H⟩
    · unfold f_X7_setPoint
      rw [e_out, if_neg c, ob_s, if_neg o2, e_out, if_neg c2, ob_s, if_pos o3, fr1, ob_s, if_pos o3]
    · have b : ∀ x4 x5 : Int32, f_X8_setPoint_b111 N ac p0 p1 (nI k) x4 x5 sts d was acs = some (-2000000002, sts, d, was, acs) := by
        intro x4 x5
        unfold f_X8_setPoint_b111
        rw [fr3, ob_s, if_pos o3]
      by_cases th : thr fc p0 n
      · obtain ⟨ma, mb⟩ := m1 th
        by_cases ri : RI sc p1 n k (k + 1)
        · rw [ma ri, b]
        · rw [mb ri, b]
      · obtain ⟨ma, mb⟩ := m2 th
        by_cases ri : RI sc p1 n k k
        · rw [ma ri, b]
        · rw [mb ri, b]

theorem s_removePoint {N : Nat} {L : Int32} {E : Int32} {C : Int32} {P : Int32} {W : Int32} {A : Int64} {dz : Int32} {rt : Int32} {st : Int32} {z : Int32} {T : Nat → Int32} {X : Nat → Int32} {zc : Int32} {fc : Nat → Int32} {sc : Nat → Int32} {zk : Int32} {fk : Nat → Int32} {sk : Nat → Int32} {zw : Int32} {ms : Nat → Int32} {es : Nat → Int32} {vs : Nat → Int32} {ps : Nat → Int32} {pn : Nat → Int32} {hs : Int32} {hB : Nat → BS} {sts : Int32} {d : Nat → Int32} {was : Nat → Int32} {ac : Int64} {acs : Nat → Int64} {p0 : Int32} (hN : 20000 ≤ N) (R : RB24 L E C P W A dz rt st z T X zc fc sc zk fk sk zw ms es vs ps pn d ac) (H : RH hs hB sts was acs) :
    ∃ (r : Int32) (zc' : Int32) (fc' : Nat → Int32) (sc' : Nat → Int32) (hs' : Int32) (hB' : Nat → BS) (sts' : Int32) (d' : Nat → Int32) (was' : Nat → Int32) (acs' : Nat → Int64), f_X7_removePoint N L E C P W A dz rt st z T X zc fc sc zk fk sk zw ms es vs ps pn hs hB p0 = some (r, zc', fc', sc', hs', hB') ∧ f_X8_removePoint N ac sts d was acs p0 = some (r, sts', d', was', acs') ∧ RB24 L E C P W A dz rt st z T X zc' fc' sc' zk fk sk zw ms es vs ps pn d' ac ∧ RH hs' hB' sts' was' acs' := by
  by_cases c : p0 < 1 ∨ 999 < p0
  · refine ⟨-2000000001, zc, fc, sc, hs, hB, sts, d, was, acs, ?_, ?_, R, H⟩
    · unfold f_X7_removePoint; rw [e_out, if_pos c, ob_s, if_neg o1]
    · unfold f_X8_removePoint; rw [e_in, if_pos c, ob_s, if_neg o2]
  obtain ⟨x0, x1⟩ := out_n c
  rw [t_1] at x0; rw [t_999] at x1
  obtain ⟨u, w, g1, g2, g3⟩ := rcd hN R H
  have R0 := R
  obtain ⟨hL, hT, hC, hK, hW⟩ := R
  obtain ⟨n, h2, hn, ez, d9, df, ds, f0, s0, f1, s1, i1, i2⟩ := hC
  subst ez
  obtain ⟨k0, k1, hl, k2, k3⟩ := slot_pt h2 f0 f1 x0 (by omega)
  obtain ⟨fr1, fr2⟩ := e_free hL.1 hT
  have hp : f_X8_pointAt N d p0 = some (nI (slot fc p0 n 0)) := by
    have := e_pointAt hn df hl (n - 1) 0 N (by omega) (by omega)
    rw [show n - 1 + 1 = n by omega] at this
    exact this
  have hh := e_holds (N := N) (M := 8) (n := n) (f := fc) (p := p0) (by omega) hn (by omega)
  have hsl := e_slot (N := N) (M := 8) (n := n) (f := fc) (p := p0) (by omega) hn (by omega)
  obtain ⟨k, ek⟩ : ∃ k, k = slot fc p0 n 0 := ⟨_, rfl⟩
  rw [← ek] at k0 k1 k2 k3 hp hh hsl
  by_cases fr : L = 0 ∧ z = 0
  · obtain ⟨fr1, fr3⟩ := fr1 fr
    by_cases th : fc k = p0
    · have hk2 : k ≠ n - 1 := by
        intro e
        rw [e] at th
        rw [th] at f1
        omega
      obtain ⟨m, rfl⟩ : ∃ m, n = m + 1 := ⟨n - 1, by omega⟩
      obtain ⟨f', s', l1, l2⟩ := e_removeAt (M := 8) (n := m) (k := k) (f := fc) (s := sc) k1 hn (by omega)
      obtain ⟨g', q1, q2, q3, q4⟩ := us_removePoint_b74 (n := m) (k := k) (f := fc) (s := sc) (d := d) (was := w.2.1) (acs := w.2.2) (sts := w.1) (x3 := sc k) (by omega) (m - k) k N (upd d 9 (nI m)) (by omega) (Nat.le_refl _) (by omega) (fun x hx => by rw [un (by omega), un (by omega), del_lt hx, del_lt hx]; exact ⟨df x (by omega), ds x (by omega)⟩) (fun x h1 h2 => by rw [un (by omega), un (by omega)]; exact ⟨df x h2, ds x h2⟩) (fun y hy => un (by omega)) us
      rw [Nat.add_sub_cancel] at f1 s1 hk2
      refine ⟨sc k, nI m, f', s', u.2, u.1, w.1, g', w.2.1, w.2.2, ?_, ?_, ⟨RL_keep hL (fun x hx => q4 x (by omega)), RT_keep hT (q4 5 (by omega)) (fun x hx => q4 x (by omega)), ⟨m, by omega, by omega, rfl, q3, fun i hi => by rw [(q2 i hi).1, (l2 i hi).1], fun i hi => by rw [(q2 i hi).2, (l2 i hi).2], ?_, ?_, ?_, ?_, inc_cg (fun i hi => (l2 i hi).1) (del_inc i1), inc_cg (fun i hi => (l2 i hi).2) (del_inc i2)⟩, RK_keep hK (fun x h1 h2 => q4 x (by omega)), RW_keep hW (fun x h1 h2 => q4 x (by omega))⟩, g3⟩
      · unfold f_X7_removePoint
        rw [e_out, if_neg c, ob_s, if_pos o3, fr1, ob_s, if_pos o1, hh, if_pos ⟨k1, th⟩, ob_s, if_pos o1, g1, ob_s, hsl, ob_s, e_second k1 hn (by omega), ob_s, l1, ob_s]
      · unfold f_X8_removePoint
        rw [e_in, if_neg c, ob_s, if_pos o1, fr3, ob_s, if_pos o1, hp, ob_s, k_10, gA_i _ (by omega) (by omega), cl_i (by omega), df k k1, if_pos th, g2, ob_s, k_18, gA_i _ (by omega) (by omega), cl_i (by omega), ds k k1, nm_s, d9, m_1, nm_s, nm_s, q1]
      · rw [(l2 0 (by omega)).1, del_lt (by omega)]; exact f0
      · rw [(l2 0 (by omega)).2, del_lt (by omega)]; exact s0
      · rw [(l2 (m - 1) (by omega)).1, del_ge (by omega), show m - 1 + 1 = m by omega]; exact f1
      · rw [(l2 (m - 1) (by omega)).2, del_ge (by omega), show m - 1 + 1 = m by omega]; exact s1
    · refine ⟨-2000000004, nI n, fc, sc, hs, hB, sts, d, was, acs, ?_, ?_, R0, H⟩
      · unfold f_X7_removePoint
        rw [e_out, if_neg c, ob_s, if_pos o3, fr1, ob_s, if_pos o1, hh, if_neg (fun e => th e.2), ob_s, if_neg o2]
      · unfold f_X8_removePoint
        rw [e_in, if_neg c, ob_s, if_pos o1, fr3, ob_s, if_pos o1, hp, ob_s, k_10, gA_i _ (by omega) (by omega), cl_i (by omega), df k k1, if_neg th]
  · obtain ⟨fr1, fr3⟩ := fr2 fr
    refine ⟨-2000000002, nI n, fc, sc, hs, hB, sts, d, was, acs, ?_, ?_, R0, H⟩
    · unfold f_X7_removePoint
      rw [e_out, if_neg c, ob_s, if_pos o3, fr1, ob_s, if_neg o2]
    · unfold f_X8_removePoint
      rw [e_in, if_neg c, ob_s, if_pos o1, fr3, ob_s, if_neg o2]

theorem e_b152 {N n : Nat} {d was : Nat → Int32} {acs : Nat → Int64} {ac : Int64} {p q x3 x4 sts : Int32} : (x4 = 1 ∨ ¬ d 26 = 6 → f_X8_setBreak_b152 N ac p q x3 x4 sts d was acs = f_X8_setBreak_b172 N ac p q x3 x4 sts d was acs) ∧ (x4 = 0 → d 26 = 6 → f_X8_setBreak_b152 N ac p q x3 x4 sts d was acs = some (-2000000003, sts, d, was, acs)) := by
  unfold f_X8_setBreak_b152
  refine ⟨fun h => ?_, fun h h2 => ?_⟩
  · by_cases c : x4 = 0
    · rw [if_neg (fun e => e c)]
      rcases h with h | h
      · rw [c] at h; exact absurd h (by decide)
      · rw [if_pos h]
    · rw [if_pos c]
  · rw [if_neg (fun e => e h), if_neg (fun e => e h2)]
theorem e_b102 {N n k b : Nat} {d s was : Nat → Int32} {acs : Nat → Int64} {ac : Int64} {p q x4 sts : Int32} (hn : n ≤ 6) (d26 : d 26 = nI n) (ds : ∀ i, i < n → d (34 + i) = s i) (hk2 : k ≤ n) (hb : b ≤ n + 1) :
    (RI s q n k b → f_X8_setBreak_b102 N ac p q (nI k) x4 (nI b) sts d was acs = f_X8_setBreak_b152 N ac p q (nI k) x4 sts d was acs) ∧
    (¬ RI s q n k b → f_X8_setBreak_b102 N ac p q (nI k) x4 (nI b) sts d was acs = some (-2000000002, sts, d, was, acs)) := by
  have l : (n ≤ b ∨ q < s b → f_X8_setBreak_b123 N ac p q (nI k) x4 (nI b) sts d was acs = f_X8_setBreak_b152 N ac p q (nI k) x4 sts d was acs) ∧ (¬ (n ≤ b ∨ q < s b) → f_X8_setBreak_b123 N ac p q (nI k) x4 (nI b) sts d was acs = some (-2000000002, sts, d, was, acs)) := by
    unfold f_X8_setBreak_b123
    rw [d26]
    by_cases c : n ≤ b
    · rw [if_pos (nI_le c (by omega))]
      exact ⟨fun _ => rfl, fun h => absurd (Or.inl c) h⟩
    · rw [if_neg (nI_ge (by omega) (by omega)), k_34, gA_i _ (by omega) (by omega), cl_i (by omega), ds b (by omega)]
      refine ⟨fun h => ?_, fun h => ?_⟩
      · rw [if_pos (h.resolve_left c)]
      · rw [if_neg (fun e => h (Or.inr e))]
  unfold f_X8_setBreak_b102
  cases k with
  | zero =>
    rw [if_pos (show nI 0 ≤ 0 by decide)]
    exact ⟨fun h => l.1 h.2, fun h => l.2 (fun e => h ⟨Or.inl rfl, e⟩)⟩
  | succ k =>
    rw [if_neg (nI_nle (by omega) (by omega)), k_34, show 34 + (k + 1) = 34 + k + 1 from rfl, m_1, gA_i _ (by omega) (by omega), cl_i (by omega), ds k (by omega)]
    refine ⟨fun h => ?_, fun h => ?_⟩
    · rw [if_neg]
      · exact l.1 h.2
      · rcases h.1 with e | e
        · omega
        · rw [Nat.add_sub_cancel] at e; exact nle_lt.mpr e
    · by_cases c : q ≤ s k
      · rw [if_pos c]
      · rw [if_neg c]
        exact l.2 (fun e => h ⟨Or.inr (by rw [Nat.add_sub_cancel]; exact nle_lt.mp c), e⟩)
theorem e_setBreakM {N n : Nat} {d f s was : Nat → Int32} {acs : Nat → Int64} {ac : Int64} {p q sts : Int32} (hN : 20000 ≤ N) (hn : n ≤ 6) (d26 : d 26 = nI n) (df : ∀ i, i < n → d (27 + i) = f i) (ds : ∀ i, i < n → d (34 + i) = s i)
    (c : ¬ (p < -1000 ∨ 30000 < p)) (c2 : ¬ (q < 0 ∨ 1000 < q)) :
    (thr f p n → (RI s q n (slot f p n 0) (slot f p n 0 + 1) → f_X8_setBreak N ac sts d was acs p q = f_X8_setBreak_b152 N ac p q (nI (slot f p n 0)) 1 sts d was acs) ∧ (¬ RI s q n (slot f p n 0) (slot f p n 0 + 1) → f_X8_setBreak N ac sts d was acs p q = some (-2000000002, sts, d, was, acs))) ∧
    (¬ thr f p n → (RI s q n (slot f p n 0) (slot f p n 0) → f_X8_setBreak N ac sts d was acs p q = f_X8_setBreak_b152 N ac p q (nI (slot f p n 0)) 0 sts d was acs) ∧ (¬ RI s q n (slot f p n 0) (slot f p n 0) → f_X8_setBreak N ac sts d was acs p q = some (-2000000002, sts, d, was, acs))) := by
  have hs := (slot_le (f := f) (p := p) n 0).2.1
  unfold f_X8_setBreak
  rw [e_in, if_neg c, ob_s, if_neg o1, e_in, if_neg c2, ob_s, if_pos o1, show (0 : Int32) = nI 0 from rfl, e_b29 hn d26 df n 0 N (by omega) (by omega)]
  unfold f_X8_setBreak_b59 f_X8_setBreak_b87 f_X8_setBreak_b88
  rw [d26]
  by_cases c3 : slot f p n 0 < n
  · rw [if_neg (nI_ge c3 (by omega)), k_27, gA_i _ (by omega) (by omega), cl_i (by omega), df _ c3]
    refine ⟨fun h => ?_, fun h => ?_⟩
    · rw [if_neg (fun e => e h.2), if_neg o1, p_1]
      exact e_b102 hn d26 ds (by omega) (by omega)
    · rw [if_pos (fun e => h ⟨c3, e⟩), if_pos o3]
      exact e_b102 hn d26 ds (by omega) (by omega)
  · rw [if_pos (nI_le (by omega) (by omega)), if_pos o3]
    exact ⟨fun h => absurd h.1 c3, fun _ => e_b102 hn d26 ds (by omega) (by omega)⟩

theorem s_setBreak {N : Nat} {L : Int32} {E : Int32} {C : Int32} {P : Int32} {W : Int32} {A : Int64} {dz : Int32} {rt : Int32} {st : Int32} {z : Int32} {T : Nat → Int32} {X : Nat → Int32} {zc : Int32} {fc : Nat → Int32} {sc : Nat → Int32} {zk : Int32} {fk : Nat → Int32} {sk : Nat → Int32} {zw : Int32} {ms : Nat → Int32} {es : Nat → Int32} {vs : Nat → Int32} {ps : Nat → Int32} {pn : Nat → Int32} {hs : Int32} {hB : Nat → BS} {sts : Int32} {d : Nat → Int32} {was : Nat → Int32} {ac : Int64} {acs : Nat → Int64} {p0 : Int32} {p1 : Int32} (hN : 20000 ≤ N) (R : RB24 L E C P W A dz rt st z T X zc fc sc zk fk sk zw ms es vs ps pn d ac) (H : RH hs hB sts was acs) :
    ∃ (r : Int32) (zk' : Int32) (fk' : Nat → Int32) (sk' : Nat → Int32) (hs' : Int32) (hB' : Nat → BS) (sts' : Int32) (d' : Nat → Int32) (was' : Nat → Int32) (acs' : Nat → Int64), f_X7_setBreak N L E C P W A dz rt st z T X zc fc sc zk fk sk zw ms es vs ps pn hs hB p0 p1 = some (r, zk', fk', sk', hs', hB') ∧ f_X8_setBreak N ac sts d was acs p0 p1 = some (r, sts', d', was', acs') ∧ RB24 L E C P W A dz rt st z T X zc fc sc zk' fk' sk' zw ms es vs ps pn d' ac ∧ RH hs' hB' sts' was' acs' := by
  by_cases c : p0 < -1000 ∨ 30000 < p0
  · refine ⟨-2000000001, zk, fk, sk, hs, hB, sts, d, was, acs, ?_, ?_, R, H⟩
    · unfold f_X7_setBreak; rw [e_out, if_pos c, ob_s, if_pos o1]
    · unfold f_X8_setBreak; rw [e_in, if_pos c, ob_s, if_pos o3]
  by_cases c2 : p1 < 0 ∨ 1000 < p1
  · refine ⟨-2000000001, zk, fk, sk, hs, hB, sts, d, was, acs, ?_, ?_, R, H⟩
    · unfold f_X7_setBreak; rw [e_out, if_neg c, ob_s, if_neg o2, e_out, if_pos c2, ob_s, if_neg o1]
    · unfold f_X8_setBreak; rw [e_in, if_neg c, ob_s, if_neg o1, e_in, if_pos c2, ob_s, if_neg o2]
  obtain ⟨x0, x1⟩ := out_n c
  rw [t_m1000] at x0; rw [t_30000] at x1
  obtain ⟨y0, y1⟩ := out_n c2
  rw [t_0] at y0; rw [t_1000] at y1
  obtain ⟨u, w, g1, g2, g3⟩ := rcd hN R H
  have R0 := R
  obtain ⟨hL, hT, hC, hK, hW⟩ := R
  obtain ⟨n, h2, hn, ez, d26, df, ds, f0, f1, s0, s1, i1, i2⟩ := hK
  subst ez
  obtain ⟨-, hsl, hb, ha⟩ := slot_le (f := fk) (p := p0) n 0
  obtain ⟨m1, m2⟩ := e_setBreakM (N := N) (d := d) (was := was) (acs := acs) (ac := ac) (sts := sts) hN hn d26 df ds c c2
  obtain ⟨st1, st2⟩ := e_rise (N := N) (M := 6) (n := n) (f := fk) (s := sk) (p := p0) (q := p1) (by omega) hn (by omega)
  obtain ⟨rm1, rm2⟩ := e_room (N := N) (M := 6) (n := n) (f := fk) (p := p0) (by omega) hn (by omega)
  obtain ⟨ly1, ly2⟩ := e_lay (N := N) (M := 6) (n := n) (f := fk) (s := sk) (p := p0) (q := p1) (by omega) hn (by omega)
  rw [Nat.zero_add] at hsl ha
  obtain ⟨k, ek⟩ : ∃ k, k = slot fk p0 n 0 := ⟨_, rfl⟩
  rw [← ek] at hsl hb ha m1 m2 st1 st2 ly1 ly2
  by_cases th : thr fk p0 n
  · obtain ⟨ma, mb⟩ := m1 th
    have st := st1 th
    have k1 : k < n := by rw [ek]; exact th.1
    by_cases ri : RI sk p1 n k (k + 1)
    · refine ⟨nI n, nI n, fk, upd sk k p1, u.2, u.1, w.1, upd (upd d (27 + k) p0) (34 + k) p1, w.2.1, w.2.2, ?_, ?_, ⟨RL_keep hL (fun x hx => by rw [un (by omega), un (by omega)]), RT_keep hT (by rw [un (by omega), un (by omega)]) (fun x hx => by rw [un (by omega), un (by omega)]), RC_keep hC (fun x h1 h2 => by rw [un (by omega), un (by omega)]), ⟨n, h2, hn, rfl, by rw [un (by omega), un (by omega), d26], fun i hi => ?_, fun i hi => ?_, f0, f1, ?_, ?_, i1, upd_inc i2 ri.1 ri.2⟩, RW_keep hW (fun x h1 h2 => by rw [un (by omega), un (by omega)])⟩, g3⟩
      · unfold f_X7_setBreak
        rw [e_out, if_neg c, ob_s, if_neg o2, e_out, if_neg c2, ob_s, if_pos o3, st, if_pos (RI_i ri), ob_s, if_pos o1, rm1 (Or.inr th), ob_s, if_pos o1, g1, ob_s, ly1 th, ob_s]
      · rw [ma ri, (e_b152 (n := n)).1 (Or.inl rfl)]
        unfold f_X8_setBreak_b172
        rw [g2, ob_s, if_pos o1, k_27, gA_i _ (by omega) (by omega), cl_i (by omega), nm_s, k_34, gA_i _ (by omega) (by omega), cl_i (by omega), nm_s, un (show 26 ≠ 34 + k by omega), un (show 26 ≠ 27 + k by omega), d26]
      · rw [un (by omega)]
        by_cases e : i = k
        · rw [e, us, ek]; exact th.2.symm
        · rw [un (by omega), df i hi]
      · by_cases e : i = k
        · rw [e, us, us]
        · rw [un (by omega), un (by omega), un e, ds i hi]
      · by_cases e : 0 = k
        · rw [← e, us]; exact y0
        · rw [un e]; exact s0
      · by_cases e : n - 1 = k
        · rw [e, us]; exact y1
        · rw [un e]; exact s1
    · refine ⟨-2000000002, nI n, fk, sk, hs, hB, sts, d, was, acs, ?_, ?_, R0, H⟩
      · unfold f_X7_setBreak
        rw [e_out, if_neg c, ob_s, if_neg o2, e_out, if_neg c2, ob_s, if_pos o3, st, if_neg (fun e => ri (RI_o e)), ob_s, if_neg o2]
      · rw [mb ri]
  · obtain ⟨ma, mb⟩ := m2 th
    have st := st2 th
    by_cases ri : RI sk p1 n k k
    · by_cases h8 : n < 6
      · obtain ⟨f', s', l1, l2⟩ := ly2 th h8
        obtain ⟨g', q1, q2, q3, q4⟩ := sh_setBreak_b190 (n := n) (k := k) (f := fk) (s := sk) (d := d) (was := w.2.1) (acs := w.2.2) (p0 := p0) (p1 := p1) (sts := w.1) (by omega) (by omega) (n - k) n N d (by omega) (by omega) (by omega) (fun x h1 h2 => by omega) (fun x h1 h2 => ⟨df x h2, ds x h2⟩) (fun y hy => rfl) d26
        have hlo : k = 0 ∨ fk (k - 1) < p0 := by
          by_cases e : k = 0
          · exact Or.inl e
          · exact Or.inr (hb _ (by omega) (by omega))
        have hlt : n ≤ k ∨ p0 < fk k := by
          by_cases e : n ≤ k
          · exact Or.inl e
          · right
            have hne : ¬ fk k = p0 := fun q => th ⟨by rw [← ek]; omega, by rw [← ek]; exact q⟩
            have h3 := ha (by omega)
            rw [t_lt] at h3 ⊢
            have : (fk k).toInt ≠ p0.toInt := fun q => hne (t_eq.mpr q)
            omega
        refine ⟨nI (n + 1), nI (n + 1), f', s', u.2, u.1, w.1, g', w.2.1, w.2.2, ?_, ?_, ⟨RL_keep hL (fun x hx => q4 x (by omega)), RT_keep hT (q4 5 (by omega)) (fun x hx => q4 x (by omega)), RC_keep hC (fun x h1 h2 => q4 x (by omega)), ⟨n + 1, by omega, by omega, rfl, q3, fun i hi => by rw [(q2 i hi).1, (l2 i hi).1], fun i hi => by rw [(q2 i hi).2, (l2 i hi).2], ?_, ?_, ?_, ?_, inc_cg (fun i hi => (l2 i hi).1) (ins_inc i1 (by omega) hlo hlt), inc_cg (fun i hi => (l2 i hi).2) (ins_inc i2 (by omega) ri.1 ri.2)⟩, RW_keep hW (fun x h1 h2 => q4 x (by omega))⟩, g3⟩
        · unfold f_X7_setBreak
          rw [e_out, if_neg c, ob_s, if_neg o2, e_out, if_neg c2, ob_s, if_pos o3, st, if_pos (RI_i ri), ob_s, if_pos o1, rm1 (Or.inl h8), ob_s, if_pos o1, g1, ob_s, l1, ob_s]
        · rw [ma ri, (e_b152 (n := n)).1 (Or.inr (by rw [d26]; exact fun e => absurd ((nI_eq (b := 6) (by omega) (by omega)).mp e) (by omega)))]
          unfold f_X8_setBreak_b172
          rw [g2, ob_s, if_neg o2, d26, nm_s, q1]
        · rw [(l2 0 (by omega)).1]
          by_cases e : 0 = k
          · rw [← e, ins_eq]; exact x0
          · rw [ins_lt (by omega)]; exact f0
        · rw [Nat.add_sub_cancel, (l2 n (by omega)).1]
          by_cases e : n = k
          · rw [e, ins_eq]; exact x1
          · rw [ins_gt (by omega)]; exact f1
        · rw [(l2 0 (by omega)).2]
          by_cases e : 0 = k
          · rw [← e, ins_eq]; exact y0
          · rw [ins_lt (by omega)]; exact s0
        · rw [Nat.add_sub_cancel, (l2 n (by omega)).2]
          by_cases e : n = k
          · rw [e, ins_eq]; exact y1
          · rw [ins_gt (by omega)]; exact s1
      · have h88 : n = 6 := by omega
        refine ⟨-2000000003, nI n, fk, sk, hs, hB, sts, d, was, acs, ?_, ?_, R0, H⟩
        · unfold f_X7_setBreak
          rw [e_out, if_neg c, ob_s, if_neg o2, e_out, if_neg c2, ob_s, if_pos o3, st, if_pos (RI_i ri), ob_s, if_pos o1, rm2 (fun e => e.elim h8 th), ob_s, if_neg o2]
        · rw [ma ri, (e_b152 (n := n)).2 rfl (by rw [d26, h88]; rfl)]
    · refine ⟨-2000000002, nI n, fk, sk, hs, hB, sts, d, was, acs, ?_, ?_, R0, H⟩
      · unfold f_X7_setBreak
        rw [e_out, if_neg c, ob_s, if_neg o2, e_out, if_neg c2, ob_s, if_pos o3, st, if_neg (fun e => ri (RI_o e)), ob_s, if_neg o2]
      · rw [mb ri]

theorem s_removeBreak {N : Nat} {L : Int32} {E : Int32} {C : Int32} {P : Int32} {W : Int32} {A : Int64} {dz : Int32} {rt : Int32} {st : Int32} {z : Int32} {T : Nat → Int32} {X : Nat → Int32} {zc : Int32} {fc : Nat → Int32} {sc : Nat → Int32} {zk : Int32} {fk : Nat → Int32} {sk : Nat → Int32} {zw : Int32} {ms : Nat → Int32} {es : Nat → Int32} {vs : Nat → Int32} {ps : Nat → Int32} {pn : Nat → Int32} {hs : Int32} {hB : Nat → BS} {sts : Int32} {d : Nat → Int32} {was : Nat → Int32} {ac : Int64} {acs : Nat → Int64} {p0 : Int32} (hN : 20000 ≤ N) (R : RB24 L E C P W A dz rt st z T X zc fc sc zk fk sk zw ms es vs ps pn d ac) (H : RH hs hB sts was acs) :
    ∃ (r : Int32) (zk' : Int32) (fk' : Nat → Int32) (sk' : Nat → Int32) (hs' : Int32) (hB' : Nat → BS) (sts' : Int32) (d' : Nat → Int32) (was' : Nat → Int32) (acs' : Nat → Int64), f_X7_removeBreak L E C P W A dz rt st z T X zc fc sc zk fk sk zw ms es vs ps pn hs hB p0 = some (r, zk', fk', sk', hs', hB') ∧ f_X8_removeBreak N ac sts d was acs p0 = some (r, sts', d', was', acs') ∧ RB24 L E C P W A dz rt st z T X zc fc sc zk' fk' sk' zw ms es vs ps pn d' ac ∧ RH hs' hB' sts' was' acs' := by
  obtain ⟨u, w, g1, g2, g3⟩ := rcd hN R H
  have R0 := R
  obtain ⟨hL, hT, hC, hK, hW⟩ := R
  obtain ⟨n, h2, hn, ez, d26, df, ds, f0, f1, s0, s1, i1, i2⟩ := hK
  subst ez
  obtain ⟨m, rfl⟩ : ∃ m, n = m + 1 := ⟨n - 1, by omega⟩
  by_cases c : p0 < 0 ∨ nI m < p0
  · refine ⟨-2000000001, nI (m + 1), fk, sk, hs, hB, sts, d, was, acs, ?_, ?_, R0, H⟩
    · unfold f_X7_removeBreak; rw [m_1, e_out, if_pos c, ob_s, if_neg o1]
    · unfold f_X8_removeBreak; rw [d26, m_1, e_in, if_pos c, ob_s, if_neg o2]
  obtain ⟨x0, x1⟩ := out_n c
  rw [t_0] at x0; rw [t_nI (by omega)] at x1
  obtain ⟨k, hk, ep⟩ : ∃ k : Nat, k ≤ m ∧ p0 = nI k := ⟨p0.toInt.toNat, by omega, nI_of_t (by omega)⟩
  subst ep
  by_cases c2 : m = 1
  · subst c2
    refine ⟨-2000000002, nI (1 + 1), fk, sk, hs, hB, sts, d, was, acs, ?_, ?_, R0, H⟩
    · unfold f_X7_removeBreak; rw [m_1, e_out, if_neg c, ob_s, if_pos o3, if_neg (by decide)]
    · unfold f_X8_removeBreak; rw [d26, m_1, e_in, if_neg c, ob_s, if_pos o1, if_neg (fun e => e rfl)]
  · obtain ⟨f', s', l1, l2⟩ := e_removeAt (M := 6) (n := m) (k := k) (f := fk) (s := sk) (by omega) hn (by omega)
    obtain ⟨g', q1, q2, q3, q4⟩ := us_removeBreak_b51 (n := m) (k := k) (f := fk) (s := sk) (d := d) (was := w.2.1) (acs := w.2.2) (sts := w.1) (by omega) (m - k) k N (upd d 26 (nI m)) (by omega) (Nat.le_refl _) (by omega) (fun x hx => by rw [un (by omega), un (by omega), del_lt hx, del_lt hx]; exact ⟨df x (by omega), ds x (by omega)⟩) (fun x h1 h2 => by rw [un (by omega), un (by omega)]; exact ⟨df x h2, ds x h2⟩) (fun y hy => un (by omega)) us
    rw [Nat.add_sub_cancel] at f1 s1
    have a1 : (fk 0).toInt < (fk 1).toInt := i1 0 (by omega)
    have a2 : (sk 0).toInt < (sk 1).toInt := i2 0 (by omega)
    have a3 : (fk (m - 1)).toInt < (fk m).toInt := inc_lt i1 m (m - 1) (by omega) (by omega)
    have a4 : (sk (m - 1)).toInt < (sk m).toInt := inc_lt i2 m (m - 1) (by omega) (by omega)
    refine ⟨nI m, nI m, f', s', u.2, u.1, w.1, g', w.2.1, w.2.2, ?_, ?_, ⟨RL_keep hL (fun x hx => q4 x (by omega)), RT_keep hT (q4 5 (by omega)) (fun x hx => q4 x (by omega)), RC_keep hC (fun x h1 h2 => q4 x (by omega)), ⟨m, by omega, by omega, rfl, q3, fun i hi => by rw [(q2 i hi).1, (l2 i hi).1], fun i hi => by rw [(q2 i hi).2, (l2 i hi).2], ?_, ?_, ?_, ?_, inc_cg (fun i hi => (l2 i hi).1) (del_inc i1), inc_cg (fun i hi => (l2 i hi).2) (del_inc i2)⟩, RW_keep hW (fun x h1 h2 => q4 x (by omega))⟩, g3⟩
    · unfold f_X7_removeBreak
      rw [m_1, e_out, if_neg c, ob_s, if_pos o3, if_pos (show (2 : Int32) < nI (m + 1) from nI_lt (a := 2) (by omega) (by omega)), g1, ob_s, l1, ob_s]
    · unfold f_X8_removeBreak
      rw [d26, m_1, e_in, if_neg c, ob_s, if_pos o1, if_pos (show ¬ nI (m + 1) = (2 : Int32) from nI_ne (c := 2) (by omega) (by omega) (by omega)), g2, ob_s, nm_s, nm_s, q1]
    · rw [(l2 0 (by omega)).1]
      by_cases e : 0 < k
      · rw [del_lt e]; exact f0
      · rw [del_ge (by omega)]; show -1000 ≤ (fk 1).toInt; omega
    · rw [(l2 (m - 1) (by omega)).1]
      by_cases e : m - 1 < k
      · rw [del_lt e]; omega
      · rw [del_ge (by omega), show m - 1 + 1 = m by omega]; exact f1
    · rw [(l2 0 (by omega)).2]
      by_cases e : 0 < k
      · rw [del_lt e]; exact s0
      · rw [del_ge (by omega)]; show 0 ≤ (sk 1).toInt; omega
    · rw [(l2 (m - 1) (by omega)).2]
      by_cases e : m - 1 < k
      · rw [del_lt e]; omega
      · rw [del_ge (by omega), show m - 1 + 1 = m by omega]; exact s1

