/-! pure part E: benches and the history -/
def RB24 (L E C P W : Int32) (A : Int64) (dz rt st z : Int32) (T X : Nat → Int32) (zc : Int32) (fc sc : Nat → Int32) (zk : Int32) (fk sk : Nat → Int32) (zw : Int32) (ms es vs ps pn : Nat → Int32) (d : Nat → Int32) (ac : Int64) : Prop :=
  RLo L E C P W dz rt st A d ac ∧ RT L W z T X d ∧ RC zc fc sc d ∧ RK zk fk sk d ∧ RW L zw ms es vs ps pn d
def RB (b : BS) (d : Nat → Int32) (ac : Int64) : Prop := RB24 b.1 b.2.1 b.2.2.1 b.2.2.2.1 b.2.2.2.2.1 b.2.2.2.2.2.1 b.2.2.2.2.2.2.1 b.2.2.2.2.2.2.2.1 b.2.2.2.2.2.2.2.2.1 b.2.2.2.2.2.2.2.2.2.1 b.2.2.2.2.2.2.2.2.2.2.1 b.2.2.2.2.2.2.2.2.2.2.2.1 b.2.2.2.2.2.2.2.2.2.2.2.2.1 b.2.2.2.2.2.2.2.2.2.2.2.2.2.1 b.2.2.2.2.2.2.2.2.2.2.2.2.2.2.1 b.2.2.2.2.2.2.2.2.2.2.2.2.2.2.2.1 b.2.2.2.2.2.2.2.2.2.2.2.2.2.2.2.2.1 b.2.2.2.2.2.2.2.2.2.2.2.2.2.2.2.2.2.1 b.2.2.2.2.2.2.2.2.2.2.2.2.2.2.2.2.2.2.1 b.2.2.2.2.2.2.2.2.2.2.2.2.2.2.2.2.2.2.2.1 b.2.2.2.2.2.2.2.2.2.2.2.2.2.2.2.2.2.2.2.2.1 b.2.2.2.2.2.2.2.2.2.2.2.2.2.2.2.2.2.2.2.2.2.1 b.2.2.2.2.2.2.2.2.2.2.2.2.2.2.2.2.2.2.2.2.2.2.1 b.2.2.2.2.2.2.2.2.2.2.2.2.2.2.2.2.2.2.2.2.2.2.2 d ac
theorem RB_keep {L E C P W dz rt st z zc zk zw : Int32} {A : Int64} {T X fc sc fk sk ms es vs ps pn : Nat → Int32} {d d' : Nat → Int32} {ac : Int64} (R : RB24 L E C P W A dz rt st z T X zc fc sc zk fk sk zw ms es vs ps pn d ac) (h : ∀ k, k < 2086 → d' k = d k) : RB24 L E C P W A dz rt st z T X zc fc sc zk fk sk zw ms es vs ps pn d' ac := by
  obtain ⟨hL, hT, hC, hK, hW⟩ := R
  refine ⟨?_, ?_, RC_keep hC (fun k h1 h2 => h k (by omega)), RK_keep hK (fun k h1 h2 => h k (by omega)), RW_keep hW (fun k h1 h2 => h k (by omega))⟩
  · obtain ⟨d0, d1, d2, d3, d4, d6, d7, d8, r⟩ := hL
    exact ⟨by rw [h 0 (by omega), d0], by rw [h 1 (by omega), d1], by rw [h 2 (by omega), d2], by rw [h 3 (by omega), d3], by rw [h 4 (by omega), d4], by rw [h 6 (by omega), d6], by rw [h 7 (by omega), d7], by rw [h 8 (by omega), d8], r⟩
  · obtain ⟨n, h1, e, d5, dT, dX, r⟩ := hT
    exact ⟨n, h1, e, by rw [h 5 (by omega), d5], fun i hi => by rw [h _ (by omega), dT i hi], fun i hi => by rw [h _ (by omega), dX i hi], r⟩
theorem inc_cg {n : Nat} {f f' : Nat → Int32} (h : ∀ i, i < n → f' i = f i) (hi : IncA n (fun i => (f i).toInt)) : IncA n (fun i => (f' i).toInt) := by
  intro i h1
  have := hi i h1
  show (f' i).toInt < (f' (i + 1)).toInt
  rw [h i (by omega), h (i + 1) h1]
  exact this
theorem RT_arr {L W z : Int32} {T X T' X' d : Nat → Int32} (R : RT L W z T X d) (h : ∀ n, z = nI n → n ≤ 1000 → ∀ i, i < n → T' i = T i ∧ X' i = X i) : RT L W z T' X' d := by
  obtain ⟨n, h1, e, d5, dT, dX, bT, l0, l1, ch, hw⟩ := R
  have g := h n e h1
  exact ⟨n, h1, e, d5, fun i hi => by rw [dT i hi, (g i hi).1], fun i hi => by rw [dX i hi, (g i hi).2], fun i hi => by rw [(g i hi).1]; exact bT i hi, l0, l1, CH_congr n _ _ (fun i hi => by show (T i).toInt = (T' i).toInt; rw [(g i hi).1]) ch, hw⟩
theorem RC_arr {z : Int32} {f s f' s' d : Nat → Int32} (R : RC z f s d) (h : ∀ n, z = nI n → n ≤ 8 → ∀ i, i < n → f' i = f i ∧ s' i = s i) : RC z f' s' d := by
  obtain ⟨n, h2, h8, e, d9, df, ds, f0, s0, f1, s1, i1, i2⟩ := R
  have g := h n e h8
  exact ⟨n, h2, h8, e, d9, fun i hi => by rw [df i hi, (g i hi).1], fun i hi => by rw [ds i hi, (g i hi).2], by rw [(g 0 (by omega)).1]; exact f0, by rw [(g 0 (by omega)).2]; exact s0, by rw [(g (n - 1) (by omega)).1]; exact f1, by rw [(g (n - 1) (by omega)).2]; exact s1, inc_cg (fun i hi => (g i hi).1) i1, inc_cg (fun i hi => (g i hi).2) i2⟩
theorem RK_arr {z : Int32} {f s f' s' d : Nat → Int32} (R : RK z f s d) (h : ∀ n, z = nI n → n ≤ 6 → ∀ i, i < n → f' i = f i ∧ s' i = s i) : RK z f' s' d := by
  obtain ⟨n, h2, h8, e, d9, df, ds, f0, f1, s0, s1, i1, i2⟩ := R
  have g := h n e h8
  exact ⟨n, h2, h8, e, d9, fun i hi => by rw [df i hi, (g i hi).1], fun i hi => by rw [ds i hi, (g i hi).2], by rw [(g 0 (by omega)).1]; exact f0, by rw [(g (n - 1) (by omega)).1]; exact f1, by rw [(g 0 (by omega)).2]; exact s0, by rw [(g (n - 1) (by omega)).2]; exact s1, inc_cg (fun i hi => (g i hi).1) i1, inc_cg (fun i hi => (g i hi).2) i2⟩
theorem RW_arr {L z : Int32} {ms es vs ps pn ms' es' vs' ps' pn' d : Nat → Int32} (R : RW L z ms es vs ps pn d) (h : ∀ i, i < 8 → ms' i = ms i ∧ es' i = es i ∧ vs' i = vs i ∧ ps' i = ps i ∧ pn' i = pn i) : RW L z ms' es' vs' ps' pn' d := by
  obtain ⟨n, h1, e, d41, a, b, c, f, g, r1, r2, r3, r4⟩ := R
  refine ⟨n, h1, e, d41, fun i hi => by rw [a i hi, (h i hi).1], fun i hi => by rw [b i hi, (h i hi).2.1], fun i hi => by rw [c i hi, (h i hi).2.2.1], fun i hi => by rw [f i hi, (h i hi).2.2.2.1], fun i hi => by rw [g i hi, (h i hi).2.2.2.2], fun i hi => by rw [(h i (by omega)).1]; exact r1 i hi, fun i hi => by rw [(h i (by omega)).2.2.2.2]; exact r2 i hi, fun i hi => by rw [(h i (by omega)).2.2.2.1]; exact r3 i hi, ?_⟩
  rw [smZ_congr n (fun i hi => ⟨(h i (by omega)).1, (h i (by omega)).2.2.2.2⟩)]
  exact r4
theorem e_copy2 {M n : Nat} {f s f' s' : Nat → Int32} (h : n ≤ M) (hM : M < 2147483648) : f_X2_copyFrom M M f s (nI n) f' s' = some (nI n, va_cpy f' f 0 0 n, va_cpy s' s 0 0 n) := by
  have e : (if Int32.ofNat M < nI n then Int32.ofNat M else nI n) = nI n := by rw [oN, if_neg (nI_nlt h (by omega))]
  have c : ¬ (0 : Int32) < 0 ∧ ¬ (0 : Int32) < 0 ∧ ¬ nI n < 0 ∧ Int32.toNatClampNeg (0 : Int32) + Int32.toNatClampNeg (nI n) ≤ M ∧ Int32.toNatClampNeg (0 : Int32) + Int32.toNatClampNeg (nI n) ≤ M := by
    rw [cl_i (by omega), show Int32.toNatClampNeg 0 = 0 from rfl]
    exact ⟨by decide, by decide, nI_pos (by omega), by omega, by omega⟩
  unfold f_X2_copyFrom
  rw [e, nm_s, gT_t _ c, nm_s, gT_t _ c, nm_s, cl_i (by omega), show Int32.toNatClampNeg 0 = 0 from rfl]
theorem e_copy6 {z : Int32} {m e v p q m' e' v' p' q' : Nat → Int32} : f_X6_copyFrom m e v p q z m' e' v' p' q' = some (z, va_cpy m' m 0 0 8, va_cpy e' e 0 0 8, va_cpy v' v 0 0 8, va_cpy p' p 0 0 8, va_cpy q' q 0 0 8) := by
  have c : ¬ (0 : Int32) < 0 ∧ ¬ (0 : Int32) < 0 ∧ ¬ (8 : Int32) < 0 ∧ Int32.toNatClampNeg (0 : Int32) + Int32.toNatClampNeg (8 : Int32) ≤ 8 ∧ Int32.toNatClampNeg (0 : Int32) + Int32.toNatClampNeg (8 : Int32) ≤ 8 := by decide
  unfold f_X6_copyFrom
  rw [gT_t _ c, nm_s, gT_t _ c, nm_s, gT_t _ c, nm_s, gT_t _ c, nm_s, gT_t _ c, nm_s, show Int32.toNatClampNeg 0 = 0 from rfl, show Int32.toNatClampNeg 8 = 8 from rfl]
theorem cpy0 {f g : Nat → Int32} {n j : Nat} (h : j < n) : va_cpy f g 0 0 n j = f j := by
  rw [pk_cpy_in (Nat.zero_le j) (by omega), Nat.zero_add, Nat.sub_zero]
theorem e_copy {n nc nk : Nat} {L E C P W dz rt st zw : Int32} {A : Int64} {T X fc sc fk sk ms es vs ps pn T' X' fc' sc' fk' sk' ms' es' vs' ps' pn' : Nat → Int32} (hn : n ≤ 1001) (hc : nc ≤ 8) (hk : nk ≤ 6) :
    f_X1_copy 1001 8 6 1001 8 6 L E C P W A dz rt st (nI n) T X (nI nc) fc sc (nI nk) fk sk zw ms es vs ps pn T' X' fc' sc' fk' sk' ms' es' vs' ps' pn' = some (L, E, C, P, W, A, dz, rt, st, nI n, va_cpy T T' 0 0 n, va_cpy X X' 0 0 n, nI nc, va_cpy fc fc' 0 0 nc, va_cpy sc sc' 0 0 nc, nI nk, va_cpy fk fk' 0 0 nk, va_cpy sk sk' 0 0 nk, zw, va_cpy ms ms' 0 0 8, va_cpy es es' 0 0 8, va_cpy vs vs' 0 0 8, va_cpy ps ps' 0 0 8, va_cpy pn pn' 0 0 8) := by
  unfold f_X1_copy f_X0_copyFrom f_X3_copyFrom
  rw [e_copy2 hn (by omega), ob_s, e_copy2 hc (by omega), ob_s, ob_s, e_copy2 hk (by omega), ob_s, e_copy6, ob_s, ob_s]
/-- a bench that is copied holds what its source holds -/
theorem cpy {L E C P W dz rt st z zc zk zw : Int32} {A : Int64} {T X fc sc fk sk ms es vs ps pn : Nat → Int32} {T' X' fc' sc' fk' sk' ms' es' vs' ps' pn' d : Nat → Int32} {ac : Int64} (R : RB24 L E C P W A dz rt st z T X zc fc sc zk fk sk zw ms es vs ps pn d ac) : ∃ u : BS, f_X1_copy 1001 8 6 1001 8 6 L E C P W A dz rt st z T X zc fc sc zk fk sk zw ms es vs ps pn T' X' fc' sc' fk' sk' ms' es' vs' ps' pn' = some u ∧ RB u d ac := by
  obtain ⟨hL, hT, hC, hK, hW⟩ := R
  obtain ⟨n, hn, ez, -⟩ := id hT
  obtain ⟨nc, -, hc, ec, -⟩ := id hC
  obtain ⟨nk, -, hk, ek, -⟩ := id hK
  have e := e_copy (L := L) (E := E) (C := C) (P := P) (W := W) (A := A) (dz := dz) (rt := rt) (st := st) (zw := zw) (T := T) (X := X) (fc := fc) (sc := sc) (fk := fk) (sk := sk) (ms := ms) (es := es) (vs := vs) (ps := ps) (pn := pn) (T' := T') (X' := X') (fc' := fc') (sc' := sc') (fk' := fk') (sk' := sk') (ms' := ms') (es' := es') (vs' := vs') (ps' := ps') (pn' := pn') (n := n) (nc := nc) (nk := nk) (by omega) hc hk
  rw [← ez, ← ec, ← ek] at e
  refine ⟨_, e, hL, RT_arr hT (fun m hm h1 i hi => ?_), RC_arr hC (fun m hm h1 i hi => ?_), RK_arr hK (fun m hm h1 i hi => ?_), RW_arr hW (fun i hi => ⟨cpy0 hi, cpy0 hi, cpy0 hi, cpy0 hi, cpy0 hi⟩)⟩
  · have : m = n := (nI_eq (by omega) (by omega)).mp (hm.symm.trans ez)
    subst this
    exact ⟨cpy0 hi, cpy0 hi⟩
  · have : m = nc := (nI_eq (by omega) (by omega)).mp (hm.symm.trans ec)
    subst this
    exact ⟨cpy0 hi, cpy0 hi⟩
  · have : m = nk := (nI_eq (by omega) (by omega)).mp (hm.symm.trans ek)
    subst this
    exact ⟨cpy0 hi, cpy0 hi⟩
/-! the reference's history -/
theorem k_2086 (s : Nat) : (2086 : Int32) * nI s = nI (2086 * s) := pk_mul 2086 s
theorem usL {f : Nat → Int64} {k : Nat} {x : Int64} : vp_updL f k x k = x := pk_uLs
theorem unL {f : Nat → Int64} {k j : Nat} {x : Int64} (h : j ≠ k) : vp_updL f k x j = f j := pk_uLn h
theorem e_rec78 {s : Nat} {ac : Int64} {acs : Nat → Int64} {d : Nat → Int32} (hs : s ≤ 4) : ∀ (j i k : Nat) (was : Nat → Int32), i + j = 2086 → j < k → (∀ x, x < i → was (2086 * s + x) = d x) →
    ∃ was' : Nat → Int32, f_X8_records_b78 ac d (nI s) acs k (nI i) was = some (nI (s + 1), was', vp_updL acs s ac) ∧ (∀ x, x < 2086 → was' (2086 * s + x) = d x) ∧ ∀ y, y < 2086 * s → was' y = was y := by
  intro j
  induction j with
  | zero =>
    intro i k was hi hk hw
    obtain ⟨k, rfl⟩ : ∃ k', k = k' + 1 := ⟨k - 1, by omega⟩
    have : i = 2086 := by omega
    subst this
    refine ⟨was, ?_, hw, fun _ _ => rfl⟩
    rw [f_X8_records_b78, if_pos (show (2086 : Int32) ≤ nI 2086 from nI_le (a := 2086) (Nat.le_refl _) (by omega)), gA_i _ (by omega) (by omega), cl_i (by omega), nm_s, nm_s, p_1]
  | succ j ih =>
    intro i k was hi hk hw
    obtain ⟨k, rfl⟩ : ∃ k', k = k' + 1 := ⟨k - 1, by omega⟩
    obtain ⟨was', g1, g2, g3⟩ := ih (i + 1) k (upd was (2086 * s + i) (d i)) (by omega) (by omega) (fun x hx => by
      by_cases e : x = i
      · rw [e, us]
      · rw [un (by omega), hw x (by omega)])
    refine ⟨was', ?_, g2, fun y hy => by rw [g3 y hy, un (by omega)]⟩
    rw [f_X8_records_b78, if_neg (show ¬ (2086 : Int32) ≤ nI i from nI_ge (b := 2086) (by omega) (by omega)), gA_i _ (by omega) (by omega), cl_i (by omega), nm_s, k_2086, nI_add, gA_i _ (by omega) (by omega), cl_i (by omega), nm_s, nm_s, p_1, g1]
theorem e_rec41 {N : Nat} {ac : Int64} {d was : Nat → Int32} {acs0 : Nat → Int64} : ∀ (j i k : Nat) (acs : Nat → Int64), i + j = 4 → j < k → (∀ x, x < i → acs x = acs0 (x + 1)) → (∀ x, i ≤ x → acs x = acs0 x) →
    ∃ acs' : Nat → Int64, f_X8_records_b41 N ac d (nI 5) was k (nI i) acs = f_X8_records_b78 ac d (nI 4) acs' N (nI 0) was ∧ ∀ x, x < 4 → acs' x = acs0 (x + 1) := by
  intro j
  induction j with
  | zero =>
    intro i k acs hi hk h1 h2
    obtain ⟨k, rfl⟩ : ∃ k', k = k' + 1 := ⟨k - 1, by omega⟩
    have : i = 4 := by omega
    subst this
    refine ⟨acs, ?_, h1⟩
    rw [f_X8_records_b41, if_pos (show (4 : Int32) ≤ nI 4 by decide), nm_s]
    rfl
  | succ j ih =>
    intro i k acs hi hk h1 h2
    obtain ⟨k, rfl⟩ : ∃ k', k = k' + 1 := ⟨k - 1, by omega⟩
    obtain ⟨acs', g1, g2⟩ := ih (i + 1) k (vp_updL acs i (acs (i + 1))) (by omega) (by omega) (fun x hx => by
      by_cases e : x = i
      · rw [e, usL, h2 _ (by omega)]
      · rw [unL e, h1 x (by omega)]) (fun x hx => by rw [unL (by omega), h2 x (by omega)])
    refine ⟨acs', ?_, g2⟩
    rw [f_X8_records_b41, if_neg (show ¬ (4 : Int32) ≤ nI i from nI_ge (b := 4) (by omega) (by omega)), p_1, gA_i _ (by omega) (by omega), cl_i (by omega), nm_s, gA_i _ (by omega) (by omega), cl_i (by omega), nm_s, nm_s, g1]
theorem e_rec10 {N : Nat} {ac : Int64} {d was0 : Nat → Int32} {acs : Nat → Int64} : ∀ (j i k : Nat) (was : Nat → Int32), i + j = 8344 → j < k → (∀ x, x < i → was x = was0 (x + 2086)) → (∀ x, i ≤ x → was x = was0 x) →
    ∃ was' : Nat → Int32, f_X8_records_b10 N ac d (nI 5) acs k (nI i) was = f_X8_records_b41 N ac d (nI 5) was' N (nI 0) acs ∧ ∀ x, x < 8344 → was' x = was0 (x + 2086) := by
  intro j
  induction j with
  | zero =>
    intro i k was hi hk h1 h2
    obtain ⟨k, rfl⟩ : ∃ k', k = k' + 1 := ⟨k - 1, by omega⟩
    have : i = 8344 := by omega
    subst this
    refine ⟨was, ?_, h1⟩
    rw [f_X8_records_b10, if_pos (show (8344 : Int32) ≤ nI 8344 from nI_le (a := 8344) (Nat.le_refl _) (by omega))]
    rfl
  | succ j ih =>
    intro i k was hi hk h1 h2
    obtain ⟨k, rfl⟩ : ∃ k', k = k' + 1 := ⟨k - 1, by omega⟩
    obtain ⟨was', g1, g2⟩ := ih (i + 1) k (upd was i (was (i + 2086))) (by omega) (by omega) (fun x hx => by
      by_cases e : x = i
      · rw [e, us, h2 _ (by omega)]
      · rw [un e, h1 x (by omega)]) (fun x hx => by rw [un (by omega), h2 x (by omega)])
    refine ⟨was', ?_, g2⟩
    rw [f_X8_records_b10, if_neg (show ¬ (8344 : Int32) ≤ nI i from nI_ge (b := 8344) (by omega) (by omega)), p_2086, gA_i _ (by omega) (by omega), cl_i (by omega), nm_s, gA_i _ (by omega) (by omega), cl_i (by omega), nm_s, nm_s, p_1, g1]
def RH (hs : Int32) (hB : Nat → BS) (sts : Int32) (was : Nat → Int32) (acs : Nat → Int64) : Prop := ∃ k : Nat, k ≤ 5 ∧ hs = nI k ∧ sts = nI k ∧ ∀ j, j < k → RB (hB j) (fun i => was (2086 * j + i)) (acs j)
theorem up_s {f : Nat → BS} {k : Nat} {x : BS} : va_up f k x k = x := if_pos rfl
theorem up_n {f : Nat → BS} {k j : Nat} {x : BS} (h : j ≠ k) : va_up f k x j = f j := if_neg h
/-- the reference keeps a state -/
theorem e_records {N k : Nat} {ac : Int64} {d was : Nat → Int32} {acs : Nat → Int64} (hN : 20000 ≤ N) (hk : k ≤ 5) : ∃ (was' : Nat → Int32) (acs' : Nat → Int64), f_X8_records N ac (nI k) d was acs = some (nI (if k = 5 then 5 else k + 1), was', acs') ∧
    (k < 5 → (∀ x, x < 2086 → was' (2086 * k + x) = d x) ∧ (∀ y, y < 2086 * k → was' y = was y) ∧ acs' k = ac ∧ ∀ j, j < k → acs' j = acs j) ∧
    (k = 5 → (∀ x, x < 2086 → was' (2086 * 4 + x) = d x) ∧ (∀ y, y < 2086 * 4 → was' y = was (y + 2086)) ∧ acs' 4 = ac ∧ ∀ j, j < 4 → acs' j = acs (j + 1)) := by
  unfold f_X8_records
  by_cases h : k = 5
  · subst h
    rw [if_neg (show ¬ ¬ nI 5 = (5 : Int32) from fun e => e rfl)]
    obtain ⟨w1, g1, g2⟩ := e_rec10 (N := N) (ac := ac) (d := d) (acs := acs) (was0 := was) 8344 0 N was (by omega) (by omega) (fun x hx => by omega) (fun _ _ => rfl)
    obtain ⟨a1, g3, g4⟩ := e_rec41 (N := N) (ac := ac) (d := d) (was := w1) (acs0 := acs) 4 0 N acs (by omega) (by omega) (fun x hx => by omega) (fun _ _ => rfl)
    obtain ⟨w2, g5, g6, g7⟩ := e_rec78 (s := 4) (ac := ac) (acs := a1) (d := d) (by omega) 2086 0 N w1 (by omega) (by omega) (fun x hx => by omega)
    refine ⟨w2, vp_updL a1 4 ac, ?_, fun h => by omega, fun _ => ⟨g6, fun y hy => by rw [g7 y hy, g2 y (by omega)], usL, fun j hj => by rw [unL (by omega), g4 j hj]⟩⟩
    rw [show (0 : Int32) = nI 0 from rfl, g1, g3, g5]
    rfl
  · rw [if_pos (show ¬ nI k = (5 : Int32) from fun e => h ((nI_eq (b := 5) (by omega) (by omega)).mp e)), if_neg h]
    obtain ⟨w2, g5, g6, g7⟩ := e_rec78 (s := k) (ac := ac) (acs := acs) (d := d) (by omega) 2086 0 N was (by omega) (by omega) (fun x hx => by omega)
    exact ⟨w2, vp_updL acs k ac, g5, fun _ => ⟨g6, g7, usL, fun j hj => unL (by omega)⟩, fun e => absurd e h⟩
/-- both keep the state -/
theorem rcd {N : Nat} {L E C P W dz rt st z zc zk zw : Int32} {A : Int64} {T X fc sc fk sk ms es vs ps pn : Nat → Int32} {d was : Nat → Int32} {ac : Int64} {acs : Nat → Int64} {hs sts : Int32} {hB : Nat → BS} (hN : 20000 ≤ N) (R : RB24 L E C P W A dz rt st z T X zc fc sc zk fk sk zw ms es vs ps pn d ac) (H : RH hs hB sts was acs) :
    ∃ (u : (Nat → BS) × Int32) (w : Int32 × (Nat → Int32) × (Nat → Int64)), f_X1_record hs hB L E C P W A dz rt st z T X zc fc sc zk fk sk zw ms es vs ps pn = some u ∧ f_X8_records N ac sts d was acs = some w ∧ RH u.2 u.1 w.1 w.2.1 w.2.2 := by
  obtain ⟨k, hk, rfl, rfl, H⟩ := H
  rcases (show k = 0 ∨ k = 1 ∨ k = 2 ∨ k = 3 ∨ k = 4 ∨ k = 5 by omega) with rfl | rfl | rfl | rfl | rfl | rfl
  · obtain ⟨u, hu, hR⟩ := cpy (T' := (hB 0).2.2.2.2.2.2.2.2.2.2.1) (X' := (hB 0).2.2.2.2.2.2.2.2.2.2.2.1) (fc' := (hB 0).2.2.2.2.2.2.2.2.2.2.2.2.2.1) (sc' := (hB 0).2.2.2.2.2.2.2.2.2.2.2.2.2.2.1) (fk' := (hB 0).2.2.2.2.2.2.2.2.2.2.2.2.2.2.2.2.1) (sk' := (hB 0).2.2.2.2.2.2.2.2.2.2.2.2.2.2.2.2.2.1) (ms' := (hB 0).2.2.2.2.2.2.2.2.2.2.2.2.2.2.2.2.2.2.2.1) (es' := (hB 0).2.2.2.2.2.2.2.2.2.2.2.2.2.2.2.2.2.2.2.2.1) (vs' := (hB 0).2.2.2.2.2.2.2.2.2.2.2.2.2.2.2.2.2.2.2.2.2.1) (ps' := (hB 0).2.2.2.2.2.2.2.2.2.2.2.2.2.2.2.2.2.2.2.2.2.2.1) (pn' := (hB 0).2.2.2.2.2.2.2.2.2.2.2.2.2.2.2.2.2.2.2.2.2.2.2) R
    obtain ⟨was', acs', g1, g2, -⟩ := e_records (N := N) (k := 0) (ac := ac) (d := d) (was := was) (acs := acs) hN (by omega)
    obtain ⟨q1, q2, q3, q4⟩ := g2 (by omega)
    refine ⟨(va_up hB 0 u, 1), _, ?_, g1, 1, by omega, rfl, rfl, fun j hj => ?_⟩
    · unfold f_X1_record
      rw [if_pos (show nI 0 = 0 from rfl)]
      rw [hu, ob_s]
    · by_cases e : j = 0
      · subst e
        show RB (va_up hB 0 u 0) (fun i => was' (2086 * 0 + i)) (acs' 0)
        rw [up_s, q3]
        exact RB_keep hR (fun x hx => q1 x hx)
      · show RB (va_up hB 0 u j) (fun i => was' (2086 * j + i)) (acs' j)
        rw [up_n e, q4 j (by omega)]
        exact RB_keep (H j (by omega)) (fun x hx => q2 _ (by omega))
  · obtain ⟨u, hu, hR⟩ := cpy (T' := (hB 1).2.2.2.2.2.2.2.2.2.2.1) (X' := (hB 1).2.2.2.2.2.2.2.2.2.2.2.1) (fc' := (hB 1).2.2.2.2.2.2.2.2.2.2.2.2.2.1) (sc' := (hB 1).2.2.2.2.2.2.2.2.2.2.2.2.2.2.1) (fk' := (hB 1).2.2.2.2.2.2.2.2.2.2.2.2.2.2.2.2.1) (sk' := (hB 1).2.2.2.2.2.2.2.2.2.2.2.2.2.2.2.2.2.1) (ms' := (hB 1).2.2.2.2.2.2.2.2.2.2.2.2.2.2.2.2.2.2.2.1) (es' := (hB 1).2.2.2.2.2.2.2.2.2.2.2.2.2.2.2.2.2.2.2.2.1) (vs' := (hB 1).2.2.2.2.2.2.2.2.2.2.2.2.2.2.2.2.2.2.2.2.2.1) (ps' := (hB 1).2.2.2.2.2.2.2.2.2.2.2.2.2.2.2.2.2.2.2.2.2.2.1) (pn' := (hB 1).2.2.2.2.2.2.2.2.2.2.2.2.2.2.2.2.2.2.2.2.2.2.2) R
    obtain ⟨was', acs', g1, g2, -⟩ := e_records (N := N) (k := 1) (ac := ac) (d := d) (was := was) (acs := acs) hN (by omega)
    obtain ⟨q1, q2, q3, q4⟩ := g2 (by omega)
    refine ⟨(va_up hB 1 u, 2), _, ?_, g1, 2, by omega, rfl, rfl, fun j hj => ?_⟩
    · unfold f_X1_record
      rw [if_neg (show ¬ nI 1 = 0 by decide), if_pos (show nI 1 = 1 from rfl)]
      rw [hu, ob_s]
    · by_cases e : j = 1
      · subst e
        show RB (va_up hB 1 u 1) (fun i => was' (2086 * 1 + i)) (acs' 1)
        rw [up_s, q3]
        exact RB_keep hR (fun x hx => q1 x hx)
      · show RB (va_up hB 1 u j) (fun i => was' (2086 * j + i)) (acs' j)
        rw [up_n e, q4 j (by omega)]
        exact RB_keep (H j (by omega)) (fun x hx => q2 _ (by omega))
  · obtain ⟨u, hu, hR⟩ := cpy (T' := (hB 2).2.2.2.2.2.2.2.2.2.2.1) (X' := (hB 2).2.2.2.2.2.2.2.2.2.2.2.1) (fc' := (hB 2).2.2.2.2.2.2.2.2.2.2.2.2.2.1) (sc' := (hB 2).2.2.2.2.2.2.2.2.2.2.2.2.2.2.1) (fk' := (hB 2).2.2.2.2.2.2.2.2.2.2.2.2.2.2.2.2.1) (sk' := (hB 2).2.2.2.2.2.2.2.2.2.2.2.2.2.2.2.2.2.1) (ms' := (hB 2).2.2.2.2.2.2.2.2.2.2.2.2.2.2.2.2.2.2.2.1) (es' := (hB 2).2.2.2.2.2.2.2.2.2.2.2.2.2.2.2.2.2.2.2.2.1) (vs' := (hB 2).2.2.2.2.2.2.2.2.2.2.2.2.2.2.2.2.2.2.2.2.2.1) (ps' := (hB 2).2.2.2.2.2.2.2.2.2.2.2.2.2.2.2.2.2.2.2.2.2.2.1) (pn' := (hB 2).2.2.2.2.2.2.2.2.2.2.2.2.2.2.2.2.2.2.2.2.2.2.2) R
    obtain ⟨was', acs', g1, g2, -⟩ := e_records (N := N) (k := 2) (ac := ac) (d := d) (was := was) (acs := acs) hN (by omega)
    obtain ⟨q1, q2, q3, q4⟩ := g2 (by omega)
    refine ⟨(va_up hB 2 u, 3), _, ?_, g1, 3, by omega, rfl, rfl, fun j hj => ?_⟩
    · unfold f_X1_record
      rw [if_neg (show ¬ nI 2 = 0 by decide), if_neg (show ¬ nI 2 = 1 by decide), if_pos (show nI 2 = 2 from rfl)]
      rw [hu, ob_s]
    · by_cases e : j = 2
      · subst e
        show RB (va_up hB 2 u 2) (fun i => was' (2086 * 2 + i)) (acs' 2)
        rw [up_s, q3]
        exact RB_keep hR (fun x hx => q1 x hx)
      · show RB (va_up hB 2 u j) (fun i => was' (2086 * j + i)) (acs' j)
        rw [up_n e, q4 j (by omega)]
        exact RB_keep (H j (by omega)) (fun x hx => q2 _ (by omega))
  · obtain ⟨u, hu, hR⟩ := cpy (T' := (hB 3).2.2.2.2.2.2.2.2.2.2.1) (X' := (hB 3).2.2.2.2.2.2.2.2.2.2.2.1) (fc' := (hB 3).2.2.2.2.2.2.2.2.2.2.2.2.2.1) (sc' := (hB 3).2.2.2.2.2.2.2.2.2.2.2.2.2.2.1) (fk' := (hB 3).2.2.2.2.2.2.2.2.2.2.2.2.2.2.2.2.1) (sk' := (hB 3).2.2.2.2.2.2.2.2.2.2.2.2.2.2.2.2.2.1) (ms' := (hB 3).2.2.2.2.2.2.2.2.2.2.2.2.2.2.2.2.2.2.2.1) (es' := (hB 3).2.2.2.2.2.2.2.2.2.2.2.2.2.2.2.2.2.2.2.2.1) (vs' := (hB 3).2.2.2.2.2.2.2.2.2.2.2.2.2.2.2.2.2.2.2.2.2.1) (ps' := (hB 3).2.2.2.2.2.2.2.2.2.2.2.2.2.2.2.2.2.2.2.2.2.2.1) (pn' := (hB 3).2.2.2.2.2.2.2.2.2.2.2.2.2.2.2.2.2.2.2.2.2.2.2) R
    obtain ⟨was', acs', g1, g2, -⟩ := e_records (N := N) (k := 3) (ac := ac) (d := d) (was := was) (acs := acs) hN (by omega)
    obtain ⟨q1, q2, q3, q4⟩ := g2 (by omega)
    refine ⟨(va_up hB 3 u, 4), _, ?_, g1, 4, by omega, rfl, rfl, fun j hj => ?_⟩
    · unfold f_X1_record
      rw [if_neg (show ¬ nI 3 = 0 by decide), if_neg (show ¬ nI 3 = 1 by decide), if_neg (show ¬ nI 3 = 2 by decide), if_pos (show nI 3 = 3 from rfl)]
      rw [hu, ob_s]
    · by_cases e : j = 3
      · subst e
        show RB (va_up hB 3 u 3) (fun i => was' (2086 * 3 + i)) (acs' 3)
        rw [up_s, q3]
        exact RB_keep hR (fun x hx => q1 x hx)
      · show RB (va_up hB 3 u j) (fun i => was' (2086 * j + i)) (acs' j)
        rw [up_n e, q4 j (by omega)]
        exact RB_keep (H j (by omega)) (fun x hx => q2 _ (by omega))
  · obtain ⟨u, hu, hR⟩ := cpy (T' := (hB 4).2.2.2.2.2.2.2.2.2.2.1) (X' := (hB 4).2.2.2.2.2.2.2.2.2.2.2.1) (fc' := (hB 4).2.2.2.2.2.2.2.2.2.2.2.2.2.1) (sc' := (hB 4).2.2.2.2.2.2.2.2.2.2.2.2.2.2.1) (fk' := (hB 4).2.2.2.2.2.2.2.2.2.2.2.2.2.2.2.2.1) (sk' := (hB 4).2.2.2.2.2.2.2.2.2.2.2.2.2.2.2.2.2.1) (ms' := (hB 4).2.2.2.2.2.2.2.2.2.2.2.2.2.2.2.2.2.2.2.1) (es' := (hB 4).2.2.2.2.2.2.2.2.2.2.2.2.2.2.2.2.2.2.2.2.1) (vs' := (hB 4).2.2.2.2.2.2.2.2.2.2.2.2.2.2.2.2.2.2.2.2.2.1) (ps' := (hB 4).2.2.2.2.2.2.2.2.2.2.2.2.2.2.2.2.2.2.2.2.2.2.1) (pn' := (hB 4).2.2.2.2.2.2.2.2.2.2.2.2.2.2.2.2.2.2.2.2.2.2.2) R
    obtain ⟨was', acs', g1, g2, -⟩ := e_records (N := N) (k := 4) (ac := ac) (d := d) (was := was) (acs := acs) hN (by omega)
    obtain ⟨q1, q2, q3, q4⟩ := g2 (by omega)
    refine ⟨(va_up hB 4 u, 5), _, ?_, g1, 5, by omega, rfl, rfl, fun j hj => ?_⟩
    · unfold f_X1_record
      rw [if_neg (show ¬ nI 4 = 0 by decide), if_neg (show ¬ nI 4 = 1 by decide), if_neg (show ¬ nI 4 = 2 by decide), if_neg (show ¬ nI 4 = 3 by decide), if_pos (show nI 4 = 4 from rfl)]
      rw [hu, ob_s]
    · by_cases e : j = 4
      · subst e
        show RB (va_up hB 4 u 4) (fun i => was' (2086 * 4 + i)) (acs' 4)
        rw [up_s, q3]
        exact RB_keep hR (fun x hx => q1 x hx)
      · show RB (va_up hB 4 u j) (fun i => was' (2086 * j + i)) (acs' j)
        rw [up_n e, q4 j (by omega)]
        exact RB_keep (H j (by omega)) (fun x hx => q2 _ (by omega))
  · obtain ⟨hb1, ehb1⟩ : ∃ f : Nat → BS, f = (fun j : Nat => if j = 4 then hB 0 else hB (j + 1)) := ⟨_, rfl⟩
    obtain ⟨u, hu, hR⟩ := cpy (T' := (hb1 4).2.2.2.2.2.2.2.2.2.2.1) (X' := (hb1 4).2.2.2.2.2.2.2.2.2.2.2.1) (fc' := (hb1 4).2.2.2.2.2.2.2.2.2.2.2.2.2.1) (sc' := (hb1 4).2.2.2.2.2.2.2.2.2.2.2.2.2.2.1) (fk' := (hb1 4).2.2.2.2.2.2.2.2.2.2.2.2.2.2.2.2.1) (sk' := (hb1 4).2.2.2.2.2.2.2.2.2.2.2.2.2.2.2.2.2.1) (ms' := (hb1 4).2.2.2.2.2.2.2.2.2.2.2.2.2.2.2.2.2.2.2.1) (es' := (hb1 4).2.2.2.2.2.2.2.2.2.2.2.2.2.2.2.2.2.2.2.2.1) (vs' := (hb1 4).2.2.2.2.2.2.2.2.2.2.2.2.2.2.2.2.2.2.2.2.2.1) (ps' := (hb1 4).2.2.2.2.2.2.2.2.2.2.2.2.2.2.2.2.2.2.2.2.2.2.1) (pn' := (hb1 4).2.2.2.2.2.2.2.2.2.2.2.2.2.2.2.2.2.2.2.2.2.2.2) R
    obtain ⟨was', acs', g1, -, g2⟩ := e_records (N := N) (k := 5) (ac := ac) (d := d) (was := was) (acs := acs) hN (by omega)
    obtain ⟨q1, q2, q3, q4⟩ := g2 rfl
    refine ⟨(va_up hb1 4 u, 5), _, ?_, g1, 5, by omega, rfl, rfl, fun j hj => ?_⟩
    · unfold f_X1_record
      rw [if_neg (show ¬ nI 5 = 0 by decide), if_neg (show ¬ nI 5 = 1 by decide), if_neg (show ¬ nI 5 = 2 by decide), if_neg (show ¬ nI 5 = 3 by decide), if_neg (show ¬ nI 5 = 4 by decide), if_pos (show nI 5 = 5 from rfl), nm_s, ← ehb1]
      rw [hu, ob_s]
    · by_cases e : j = 4
      · subst e
        show RB (va_up hb1 4 u 4) (fun i => was' (2086 * 4 + i)) (acs' 4)
        rw [up_s, q3]
        exact RB_keep hR (fun x hx => q1 x hx)
      · show RB (va_up hb1 4 u j) (fun i => was' (2086 * j + i)) (acs' j)
        rw [up_n e, q4 j (by omega), ehb1]
        show RB (if j = 4 then hB 0 else hB (j + 1)) (fun i => was' (2086 * j + i)) (acs (j + 1))
        rw [if_neg e]
        exact RB_keep (H (j + 1) (by omega)) (fun x hx => by
          show was' (2086 * j + x) = was (2086 * (j + 1) + x)
          rw [q2 _ (by omega)]
          exact congrArg was (by omega))
theorem e_undo {s : Nat} {was : Nat → Int32} {acs : Nat → Int64} (hs : s ≤ 4) : ∀ (j i k : Nat) (d : Nat → Int32), i + j = 2086 → j < k → (∀ x, x < i → d x = was (2086 * s + x)) →
    ∃ d' : Nat → Int32, f_X8_undo_b22 was acs (nI s) k (nI i) d = some (nI s, acs s, nI s, d') ∧ ∀ x, x < 2086 → d' x = was (2086 * s + x) := by
  intro j
  induction j with
  | zero =>
    intro i k d hi hk hw
    obtain ⟨k, rfl⟩ : ∃ k', k = k' + 1 := ⟨k - 1, by omega⟩
    have : i = 2086 := by omega
    subst this
    refine ⟨d, ?_, hw⟩
    rw [f_X8_undo_b22, if_pos (show (2086 : Int32) ≤ nI 2086 from nI_le (a := 2086) (Nat.le_refl _) (by omega)), gA_i _ (by omega) (by omega), cl_i (by omega), nm_s]
  | succ j ih =>
    intro i k d hi hk hw
    obtain ⟨k, rfl⟩ : ∃ k', k = k' + 1 := ⟨k - 1, by omega⟩
    obtain ⟨d', g1, g2⟩ := ih (i + 1) k (upd d i (was (2086 * s + i))) (by omega) (by omega) (fun x hx => by
      by_cases e : x = i
      · rw [e, us]
      · rw [un e, hw x (by omega)])
    refine ⟨d', ?_, g2⟩
    rw [f_X8_undo_b22, if_neg (show ¬ (2086 : Int32) ≤ nI i from nI_ge (b := 2086) (by omega) (by omega)), k_2086, nI_add, gA_i _ (by omega) (by omega), cl_i (by omega), nm_s, gA_i _ (by omega) (by omega), cl_i (by omega), nm_s, nm_s, p_1, g1]
/-- both go back -/
theorem und {N : Nat} {L E C P W dz rt st z zc zk zw : Int32} {A : Int64} {T X fc sc fk sk ms es vs ps pn : Nat → Int32} {d was : Nat → Int32} {ac : Int64} {acs : Nat → Int64} {hs sts : Int32} {hB : Nat → BS} (hN : 20000 ≤ N) (H : RH hs hB sts was acs) (h0 : ¬ hs = 0) :
    ∃ (u : Int32 × BS) (d' : Nat → Int32) (ac' : Int64), f_X1_restore hs hB L E C P W A dz rt st z T X zc fc sc zk fk sk zw ms es vs ps pn = some u ∧ nm (sts - (1 : Int32)) (fun t2 => (f_X8_undo_b22 was acs t2 N (0 : Int32) d)) = some (u.1, ac', u.1, d') ∧ RB u.2 d' ac' ∧ RH u.1 hB u.1 was acs := by
  obtain ⟨k, hk, rfl, rfl, H⟩ := H
  rcases (show k = 0 ∨ k = 1 ∨ k = 2 ∨ k = 3 ∨ k = 4 ∨ k = 5 by omega) with rfl | rfl | rfl | rfl | rfl | rfl
  · exact absurd rfl h0
  · obtain ⟨u, hu, hR⟩ := cpy (T' := T) (X' := X) (fc' := fc) (sc' := sc) (fk' := fk) (sk' := sk) (ms' := ms) (es' := es) (vs' := vs) (ps' := ps) (pn' := pn) (H 0 (by omega))
    obtain ⟨d', g1, g2⟩ := e_undo (s := 0) (was := was) (acs := acs) (by omega) 2086 0 N d (by omega) (by omega) (fun x hx => by omega)
    refine ⟨(nI 0, u), d', acs 0, ?_, ?_, RB_keep hR (fun x hx => g2 x hx), 0, by omega, rfl, rfl, fun j hj => H j (by omega)⟩
    · unfold f_X1_restore
      rw [if_pos (show nI 1 = 1 from rfl)]
      rw [hu, ob_s]
      rfl
    · rw [nm_s, show nI 1 - 1 = nI 0 from m_1 0]
      exact g1
  · obtain ⟨u, hu, hR⟩ := cpy (T' := T) (X' := X) (fc' := fc) (sc' := sc) (fk' := fk) (sk' := sk) (ms' := ms) (es' := es) (vs' := vs) (ps' := ps) (pn' := pn) (H 1 (by omega))
    obtain ⟨d', g1, g2⟩ := e_undo (s := 1) (was := was) (acs := acs) (by omega) 2086 0 N d (by omega) (by omega) (fun x hx => by omega)
    refine ⟨(nI 1, u), d', acs 1, ?_, ?_, RB_keep hR (fun x hx => g2 x hx), 1, by omega, rfl, rfl, fun j hj => H j (by omega)⟩
    · unfold f_X1_restore
      rw [if_neg (show ¬ nI 2 = 1 by decide), if_pos (show nI 2 = 2 from rfl)]
      rw [hu, ob_s]
      rfl
    · rw [nm_s, show nI 2 - 1 = nI 1 from m_1 1]
      exact g1
  · obtain ⟨u, hu, hR⟩ := cpy (T' := T) (X' := X) (fc' := fc) (sc' := sc) (fk' := fk) (sk' := sk) (ms' := ms) (es' := es) (vs' := vs) (ps' := ps) (pn' := pn) (H 2 (by omega))
    obtain ⟨d', g1, g2⟩ := e_undo (s := 2) (was := was) (acs := acs) (by omega) 2086 0 N d (by omega) (by omega) (fun x hx => by omega)
    refine ⟨(nI 2, u), d', acs 2, ?_, ?_, RB_keep hR (fun x hx => g2 x hx), 2, by omega, rfl, rfl, fun j hj => H j (by omega)⟩
    · unfold f_X1_restore
      rw [if_neg (show ¬ nI 3 = 1 by decide), if_neg (show ¬ nI 3 = 2 by decide), if_pos (show nI 3 = 3 from rfl)]
      rw [hu, ob_s]
      rfl
    · rw [nm_s, show nI 3 - 1 = nI 2 from m_1 2]
      exact g1
  · obtain ⟨u, hu, hR⟩ := cpy (T' := T) (X' := X) (fc' := fc) (sc' := sc) (fk' := fk) (sk' := sk) (ms' := ms) (es' := es) (vs' := vs) (ps' := ps) (pn' := pn) (H 3 (by omega))
    obtain ⟨d', g1, g2⟩ := e_undo (s := 3) (was := was) (acs := acs) (by omega) 2086 0 N d (by omega) (by omega) (fun x hx => by omega)
    refine ⟨(nI 3, u), d', acs 3, ?_, ?_, RB_keep hR (fun x hx => g2 x hx), 3, by omega, rfl, rfl, fun j hj => H j (by omega)⟩
    · unfold f_X1_restore
      rw [if_neg (show ¬ nI 4 = 1 by decide), if_neg (show ¬ nI 4 = 2 by decide), if_neg (show ¬ nI 4 = 3 by decide), if_pos (show nI 4 = 4 from rfl)]
      rw [hu, ob_s]
      rfl
    · rw [nm_s, show nI 4 - 1 = nI 3 from m_1 3]
      exact g1
  · obtain ⟨u, hu, hR⟩ := cpy (T' := T) (X' := X) (fc' := fc) (sc' := sc) (fk' := fk) (sk' := sk) (ms' := ms) (es' := es) (vs' := vs) (ps' := ps) (pn' := pn) (H 4 (by omega))
    obtain ⟨d', g1, g2⟩ := e_undo (s := 4) (was := was) (acs := acs) (by omega) 2086 0 N d (by omega) (by omega) (fun x hx => by omega)
    refine ⟨(nI 4, u), d', acs 4, ?_, ?_, RB_keep hR (fun x hx => g2 x hx), 4, by omega, rfl, rfl, fun j hj => H j (by omega)⟩
    · unfold f_X1_restore
      rw [if_neg (show ¬ nI 5 = 1 by decide), if_neg (show ¬ nI 5 = 2 by decide), if_neg (show ¬ nI 5 = 3 by decide), if_neg (show ¬ nI 5 = 4 by decide), if_pos (show nI 5 = 5 from rfl)]
      rw [hu, ob_s]
      rfl
    · rw [nm_s, show nI 5 - 1 = nI 4 from m_1 4]
      exact g1
