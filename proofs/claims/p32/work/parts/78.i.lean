/-! pure part I: benches, copies, the history -/
theorem e_copy2 {M n : Nat} {f s f' s' : Nat → Int32} (h : n ≤ M) (hM : M < 2147483648) : f_X2_copyFrom M M f s (nI n) f' s' = some (nI n, va_cpy f' f 0 0 n, va_cpy s' s 0 0 n) := by
  have e : (if Int32.ofNat M < nI n then Int32.ofNat M else nI n) = nI n := by rw [oN, if_neg (nI_nlt h (by omega))]
  have c : ¬ (0 : Int32) < 0 ∧ ¬ (0 : Int32) < 0 ∧ ¬ nI n < 0 ∧ Int32.toNatClampNeg (0 : Int32) + Int32.toNatClampNeg (nI n) ≤ M ∧ Int32.toNatClampNeg (0 : Int32) + Int32.toNatClampNeg (nI n) ≤ M := by
    rw [cl_i (by omega), show Int32.toNatClampNeg 0 = 0 from rfl]
    exact ⟨by decide, by decide, nI_pos (by omega), by omega, by omega⟩
  unfold f_X2_copyFrom
  rw [e, nm_s, gT_t _ c, nm_s, gT_t _ c, nm_s, cl_i (by omega), show Int32.toNatClampNeg 0 = 0 from rfl]
theorem e_copy6 {z : Int32} {m e v p q m' e' v' p' q' : Nat → Int32} : f_X6_copyFrom m e v p q z m' e' v' p' q' = some (z, va_cpy m' m 0 0 8, va_cpy e' e 0 0 8, va_cpy v' v 0 0 8, va_cpy p' p 0 0 8, va_cpy q' q 0 0 8) := by
  have c : ¬ (0 : Int32) < 0 ∧ ¬ (0 : Int32) < 0 ∧ ¬ (8 : Int32) < 0 ∧ Int32.toNatClampNeg (0 : Int32) + Int32.toNatClampNeg (8 : Int32) ≤ 8 ∧ Int32.toNatClampNeg (0 : Int32) + Int32.toNatClampNeg (8 : Int32) ≤ 8 := by decide
  unfold f_X6_copyFrom
  rw [gT_t _ c, nm_s, gT_t _ c, nm_s, gT_t _ c, nm_s, gT_t _ c, nm_s, gT_t _ c, nm_s, show Int32.toNatClampNeg 0 = 0 from rfl, show Int32.toNatClampNeg 8 = 8 from rfl]
theorem cpy0 {f g : Nat → Int32} {n j : Nat} (h : j < n) : va_cpy f g 0 0 n j = f j := by
  rw [pk_cpy_in (Nat.zero_le j) (by omega), Nat.zero_add, Nat.sub_zero]
theorem e_copy {n nc nk : Nat} {L E C P W dz rt st zw : Int32} {A : Int64} {T X fc sc fk sk ms es vs ps pn T' X' fc' sc' fk' sk' ms' es' vs' ps' pn' : Nat → Int32} (hn : n ≤ 1001) (hc : nc ≤ 8) (hk : nk ≤ 6) :
    f_X1_copy 1001 8 6 1001 8 6 L E C P W A dz rt st (nI n) T X (nI nc) fc sc (nI nk) fk sk zw ms es vs ps pn T' X' fc' sc' fk' sk' ms' es' vs' ps' pn' = some (L, E, C, P, W, A, dz, rt, st, nI n, va_cpy T T' 0 0 n, va_cpy X X' 0 0 n, nI nc, va_cpy fc fc' 0 0 nc, va_cpy sc sc' 0 0 nc, nI nk, va_cpy fk fk' 0 0 nk, va_cpy sk sk' 0 0 nk, zw, va_cpy ms ms' 0 0 8, va_cpy es es' 0 0 8, va_cpy vs vs' 0 0 8, va_cpy ps ps' 0 0 8, va_cpy pn pn' 0 0 8) := by
  unfold f_X1_copy f_X0_copyFrom f_X3_copyFrom
  rw [e_copy2 hn (by omega), ob_s, e_copy2 hc (by omega), ob_s, ob_s, e_copy2 hk (by omega), ob_s, e_copy6, ob_s, ob_s]
def BI (V F : Int → Int) (L E C P W : Int32) (A : Int64) (dz rt st z : Int32) (T X : Nat → Int32) (zc : Int32) (fc sc : Nat → Int32) (zk : Int32) (fk sk : Nat → Int32) (zw : Int32) (ms es vs ps pn : Nat → Int32) (n : Nat) : Prop := SP V F L E C P W dz rt st z T X n ∧ CU V F zc fc sc ∧ SK zk fk sk ∧ zw = 0
def HB (V F : Int → Int) (n : Nat) (L E : Int32) (A : Int64) (b : BS) : Prop := b.1 = L ∧ b.2.1 = E ∧ b.2.2.2.2.2.1 = A ∧ BI V F b.1 b.2.1 b.2.2.1 b.2.2.2.1 b.2.2.2.2.1 b.2.2.2.2.2.1 b.2.2.2.2.2.2.1 b.2.2.2.2.2.2.2.1 b.2.2.2.2.2.2.2.2.1 b.2.2.2.2.2.2.2.2.2.1 b.2.2.2.2.2.2.2.2.2.2.1 b.2.2.2.2.2.2.2.2.2.2.2.1 b.2.2.2.2.2.2.2.2.2.2.2.2.1 b.2.2.2.2.2.2.2.2.2.2.2.2.2.1 b.2.2.2.2.2.2.2.2.2.2.2.2.2.2.1 b.2.2.2.2.2.2.2.2.2.2.2.2.2.2.2.1 b.2.2.2.2.2.2.2.2.2.2.2.2.2.2.2.2.1 b.2.2.2.2.2.2.2.2.2.2.2.2.2.2.2.2.2.1 b.2.2.2.2.2.2.2.2.2.2.2.2.2.2.2.2.2.2.1 b.2.2.2.2.2.2.2.2.2.2.2.2.2.2.2.2.2.2.2.1 b.2.2.2.2.2.2.2.2.2.2.2.2.2.2.2.2.2.2.2.2.1 b.2.2.2.2.2.2.2.2.2.2.2.2.2.2.2.2.2.2.2.2.2.1 b.2.2.2.2.2.2.2.2.2.2.2.2.2.2.2.2.2.2.2.2.2.2.1 b.2.2.2.2.2.2.2.2.2.2.2.2.2.2.2.2.2.2.2.2.2.2.2 n
theorem SP_arr {V F : Int → Int} {L E C P W dz rt st z : Int32} {T X T' X' : Nat → Int32} {n : Nat} (S : SP V F L E C P W dz rt st z T X n) (h : ∀ i, i < n → T' i = T i ∧ X' i = X i) : SP V F L E C P W dz rt st z T' X' n := by
  obtain ⟨hn, hz, bT, bX, L0, L1, ch, hW, ex, eE, r⟩ := S
  have g : ∀ i, i < n → (fun i => (T' i).toInt) i = (fun i => (T i).toInt) i ∧ (fun i => (X' i).toInt) i = (fun i => (X i).toInt) i := fun i hi => ⟨by show (T' i).toInt = (T i).toInt; rw [(h i hi).1], by show (X' i).toInt = (X i).toInt; rw [(h i hi).2]⟩
  exact ⟨hn, hz, fun i hi => by rw [(h i hi).1]; exact bT i hi, fun i hi => by rw [(h i hi).2]; exact bX i hi, L0, L1, CH_congr n _ _ (fun i hi => (g i hi).1.symm) ch, hW, EX_cg g ex, by rw [EV_cg g]; exact eE, r⟩
theorem SK_arr {zk : Int32} {fk sk fk' sk' : Nat → Int32} (K : SK zk fk sk) (h : ∀ i, i < 2 → fk' i = fk i ∧ sk' i = sk i) : SK zk fk' sk' := by
  obtain ⟨e, f0, f1, s0, s1⟩ := K
  exact ⟨e, by rw [(h 0 (by omega)).1, f0], by rw [(h 1 (by omega)).1, f1], by rw [(h 0 (by omega)).2, s0], by rw [(h 1 (by omega)).2, s1]⟩
/-- a bench that is copied is what its source is -/
theorem cpy {V F : Int → Int} {L E C P W : Int32} {A : Int64} {dz rt st z : Int32} {T X : Nat → Int32} {zc : Int32} {fc sc : Nat → Int32} {zk : Int32} {fk sk : Nat → Int32} {zw : Int32} {ms es vs ps pn : Nat → Int32} {T' X' fc' sc' fk' sk' ms' es' vs' ps' pn' : Nat → Int32} {n : Nat} (B : BI V F L E C P W A dz rt st z T X zc fc sc zk fk sk zw ms es vs ps pn n) : ∃ u : BS, f_X1_copy 1001 8 6 1001 8 6 L E C P W A dz rt st z T X zc fc sc zk fk sk zw ms es vs ps pn T' X' fc' sc' fk' sk' ms' es' vs' ps' pn' = some u ∧ HB V F n L E A u := by
  obtain ⟨S, R, K, hw⟩ := B
  obtain ⟨hn, ez, -⟩ := id S
  obtain ⟨nc, -, hc, ec, -⟩ := id R
  have ek := K.1
  have e := e_copy (L := L) (E := E) (C := C) (P := P) (W := W) (A := A) (dz := dz) (rt := rt) (st := st) (zw := zw) (T := T) (X := X) (fc := fc) (sc := sc) (fk := fk) (sk := sk) (ms := ms) (es := es) (vs := vs) (ps := ps) (pn := pn) (T' := T') (X' := X') (fc' := fc') (sc' := sc') (fk' := fk') (sk' := sk') (ms' := ms') (es' := es') (vs' := vs') (ps' := ps') (pn' := pn') (n := n) (nc := nc) (nk := 2) (by omega) hc (by omega)
  rw [← ez, ← ec, ← ek] at e
  refine ⟨_, e, rfl, rfl, rfl, SP_arr S (fun i hi => ⟨cpy0 hi, cpy0 hi⟩), CU_arr R (fun m hm h1 i hi => ?_), SK_arr K (fun i hi => ⟨cpy0 hi, cpy0 hi⟩), hw⟩
  have : m = nc := (nI_eq (by omega) (by omega)).mp (hm.symm.trans ec)
  subst this
  exact ⟨cpy0 hi, cpy0 hi⟩
theorem up_s {f : Nat → BS} {k : Nat} {x : BS} : va_up f k x k = x := if_pos rfl
theorem up_n {f : Nat → BS} {k j : Nat} {x : BS} (h : j ≠ k) : va_up f k x j = f j := if_neg h
/-- a state is recorded: the latest one is what was there, behind it the elder ones -/
def RCD (V F : Int → Int) (n : Nat) (L E : Int32) (A : Int64) (k : Nat) (hB : Nat → BS) (k' : Nat) (hB' : Nat → BS) : Prop := 1 ≤ k' ∧ k' ≤ 5 ∧ (k' = k + 1 ∨ k = 5 ∧ k' = 5) ∧ HB V F n L E A (hB' (k' - 1)) ∧ ∀ i, 1 ≤ i → i < k' → hB' (k' - 1 - i) = hB (k - i)
theorem rcd {V F : Int → Int} {L E C P W : Int32} {A : Int64} {dz rt st z : Int32} {T X : Nat → Int32} {zc : Int32} {fc sc : Nat → Int32} {zk : Int32} {fk sk : Nat → Int32} {zw : Int32} {ms es vs ps pn : Nat → Int32} {hB : Nat → BS} {n k : Nat} (B : BI V F L E C P W A dz rt st z T X zc fc sc zk fk sk zw ms es vs ps pn n) (hk : k ≤ 5) : ∃ (hB' : Nat → BS) (k' : Nat), f_X1_record (nI k) hB L E C P W A dz rt st z T X zc fc sc zk fk sk zw ms es vs ps pn = some (hB', nI k') ∧ RCD V F n L E A k hB k' hB' := by
  unfold f_X1_record
  rcases (show k = 0 ∨ k = 1 ∨ k = 2 ∨ k = 3 ∨ k = 4 ∨ k = 5 by omega) with rfl | rfl | rfl | rfl | rfl | rfl
  · rw [if_pos (show nI 0 = 0 from rfl)]
    obtain ⟨u, hu, H⟩ := cpy (T' := (hB 0).2.2.2.2.2.2.2.2.2.2.1) (X' := (hB 0).2.2.2.2.2.2.2.2.2.2.2.1) (fc' := (hB 0).2.2.2.2.2.2.2.2.2.2.2.2.2.1) (sc' := (hB 0).2.2.2.2.2.2.2.2.2.2.2.2.2.2.1) (fk' := (hB 0).2.2.2.2.2.2.2.2.2.2.2.2.2.2.2.2.1) (sk' := (hB 0).2.2.2.2.2.2.2.2.2.2.2.2.2.2.2.2.2.1) (ms' := (hB 0).2.2.2.2.2.2.2.2.2.2.2.2.2.2.2.2.2.2.2.1) (es' := (hB 0).2.2.2.2.2.2.2.2.2.2.2.2.2.2.2.2.2.2.2.2.1) (vs' := (hB 0).2.2.2.2.2.2.2.2.2.2.2.2.2.2.2.2.2.2.2.2.2.1) (ps' := (hB 0).2.2.2.2.2.2.2.2.2.2.2.2.2.2.2.2.2.2.2.2.2.2.1) (pn' := (hB 0).2.2.2.2.2.2.2.2.2.2.2.2.2.2.2.2.2.2.2.2.2.2.2) B
    rw [hu, ob_s]
    refine ⟨va_up hB 0 u, 1, rfl, by omega, by omega, by omega, ?_, fun i h1 h2 => up_n (by omega)⟩
    show HB V F n L E A (va_up hB 0 u 0)
    rw [up_s]
    exact H
  · rw [if_neg (show ¬ nI 1 = 0 by decide), if_pos (show nI 1 = 1 from rfl)]
    obtain ⟨u, hu, H⟩ := cpy (T' := (hB 1).2.2.2.2.2.2.2.2.2.2.1) (X' := (hB 1).2.2.2.2.2.2.2.2.2.2.2.1) (fc' := (hB 1).2.2.2.2.2.2.2.2.2.2.2.2.2.1) (sc' := (hB 1).2.2.2.2.2.2.2.2.2.2.2.2.2.2.1) (fk' := (hB 1).2.2.2.2.2.2.2.2.2.2.2.2.2.2.2.2.1) (sk' := (hB 1).2.2.2.2.2.2.2.2.2.2.2.2.2.2.2.2.2.1) (ms' := (hB 1).2.2.2.2.2.2.2.2.2.2.2.2.2.2.2.2.2.2.2.1) (es' := (hB 1).2.2.2.2.2.2.2.2.2.2.2.2.2.2.2.2.2.2.2.2.1) (vs' := (hB 1).2.2.2.2.2.2.2.2.2.2.2.2.2.2.2.2.2.2.2.2.2.1) (ps' := (hB 1).2.2.2.2.2.2.2.2.2.2.2.2.2.2.2.2.2.2.2.2.2.2.1) (pn' := (hB 1).2.2.2.2.2.2.2.2.2.2.2.2.2.2.2.2.2.2.2.2.2.2.2) B
    rw [hu, ob_s]
    refine ⟨va_up hB 1 u, 2, rfl, by omega, by omega, by omega, ?_, fun i h1 h2 => up_n (by omega)⟩
    show HB V F n L E A (va_up hB 1 u 1)
    rw [up_s]
    exact H
  · rw [if_neg (show ¬ nI 2 = 0 by decide), if_neg (show ¬ nI 2 = 1 by decide), if_pos (show nI 2 = 2 from rfl)]
    obtain ⟨u, hu, H⟩ := cpy (T' := (hB 2).2.2.2.2.2.2.2.2.2.2.1) (X' := (hB 2).2.2.2.2.2.2.2.2.2.2.2.1) (fc' := (hB 2).2.2.2.2.2.2.2.2.2.2.2.2.2.1) (sc' := (hB 2).2.2.2.2.2.2.2.2.2.2.2.2.2.2.1) (fk' := (hB 2).2.2.2.2.2.2.2.2.2.2.2.2.2.2.2.2.1) (sk' := (hB 2).2.2.2.2.2.2.2.2.2.2.2.2.2.2.2.2.2.1) (ms' := (hB 2).2.2.2.2.2.2.2.2.2.2.2.2.2.2.2.2.2.2.2.1) (es' := (hB 2).2.2.2.2.2.2.2.2.2.2.2.2.2.2.2.2.2.2.2.2.1) (vs' := (hB 2).2.2.2.2.2.2.2.2.2.2.2.2.2.2.2.2.2.2.2.2.2.1) (ps' := (hB 2).2.2.2.2.2.2.2.2.2.2.2.2.2.2.2.2.2.2.2.2.2.2.1) (pn' := (hB 2).2.2.2.2.2.2.2.2.2.2.2.2.2.2.2.2.2.2.2.2.2.2.2) B
    rw [hu, ob_s]
    refine ⟨va_up hB 2 u, 3, rfl, by omega, by omega, by omega, ?_, fun i h1 h2 => up_n (by omega)⟩
    show HB V F n L E A (va_up hB 2 u 2)
    rw [up_s]
    exact H
  · rw [if_neg (show ¬ nI 3 = 0 by decide), if_neg (show ¬ nI 3 = 1 by decide), if_neg (show ¬ nI 3 = 2 by decide), if_pos (show nI 3 = 3 from rfl)]
    obtain ⟨u, hu, H⟩ := cpy (T' := (hB 3).2.2.2.2.2.2.2.2.2.2.1) (X' := (hB 3).2.2.2.2.2.2.2.2.2.2.2.1) (fc' := (hB 3).2.2.2.2.2.2.2.2.2.2.2.2.2.1) (sc' := (hB 3).2.2.2.2.2.2.2.2.2.2.2.2.2.2.1) (fk' := (hB 3).2.2.2.2.2.2.2.2.2.2.2.2.2.2.2.2.1) (sk' := (hB 3).2.2.2.2.2.2.2.2.2.2.2.2.2.2.2.2.2.1) (ms' := (hB 3).2.2.2.2.2.2.2.2.2.2.2.2.2.2.2.2.2.2.2.1) (es' := (hB 3).2.2.2.2.2.2.2.2.2.2.2.2.2.2.2.2.2.2.2.2.1) (vs' := (hB 3).2.2.2.2.2.2.2.2.2.2.2.2.2.2.2.2.2.2.2.2.2.1) (ps' := (hB 3).2.2.2.2.2.2.2.2.2.2.2.2.2.2.2.2.2.2.2.2.2.2.1) (pn' := (hB 3).2.2.2.2.2.2.2.2.2.2.2.2.2.2.2.2.2.2.2.2.2.2.2) B
    rw [hu, ob_s]
    refine ⟨va_up hB 3 u, 4, rfl, by omega, by omega, by omega, ?_, fun i h1 h2 => up_n (by omega)⟩
    show HB V F n L E A (va_up hB 3 u 3)
    rw [up_s]
    exact H
  · rw [if_neg (show ¬ nI 4 = 0 by decide), if_neg (show ¬ nI 4 = 1 by decide), if_neg (show ¬ nI 4 = 2 by decide), if_neg (show ¬ nI 4 = 3 by decide), if_pos (show nI 4 = 4 from rfl)]
    obtain ⟨u, hu, H⟩ := cpy (T' := (hB 4).2.2.2.2.2.2.2.2.2.2.1) (X' := (hB 4).2.2.2.2.2.2.2.2.2.2.2.1) (fc' := (hB 4).2.2.2.2.2.2.2.2.2.2.2.2.2.1) (sc' := (hB 4).2.2.2.2.2.2.2.2.2.2.2.2.2.2.1) (fk' := (hB 4).2.2.2.2.2.2.2.2.2.2.2.2.2.2.2.2.1) (sk' := (hB 4).2.2.2.2.2.2.2.2.2.2.2.2.2.2.2.2.2.1) (ms' := (hB 4).2.2.2.2.2.2.2.2.2.2.2.2.2.2.2.2.2.2.2.1) (es' := (hB 4).2.2.2.2.2.2.2.2.2.2.2.2.2.2.2.2.2.2.2.2.1) (vs' := (hB 4).2.2.2.2.2.2.2.2.2.2.2.2.2.2.2.2.2.2.2.2.2.1) (ps' := (hB 4).2.2.2.2.2.2.2.2.2.2.2.2.2.2.2.2.2.2.2.2.2.2.1) (pn' := (hB 4).2.2.2.2.2.2.2.2.2.2.2.2.2.2.2.2.2.2.2.2.2.2.2) B
    rw [hu, ob_s]
    refine ⟨va_up hB 4 u, 5, rfl, by omega, by omega, by omega, ?_, fun i h1 h2 => up_n (by omega)⟩
    show HB V F n L E A (va_up hB 4 u 4)
    rw [up_s]
    exact H
  · rw [if_neg (show ¬ nI 5 = 0 by decide), if_neg (show ¬ nI 5 = 1 by decide), if_neg (show ¬ nI 5 = 2 by decide), if_neg (show ¬ nI 5 = 3 by decide), if_neg (show ¬ nI 5 = 4 by decide), if_pos (show nI 5 = 5 from rfl)]
    rw [nm_s]
    obtain ⟨u, hu, H⟩ := cpy (T' := ((fun j : Nat => if j = 4 then hB 0 else hB (j + 1)) 4).2.2.2.2.2.2.2.2.2.2.1) (X' := ((fun j : Nat => if j = 4 then hB 0 else hB (j + 1)) 4).2.2.2.2.2.2.2.2.2.2.2.1) (fc' := ((fun j : Nat => if j = 4 then hB 0 else hB (j + 1)) 4).2.2.2.2.2.2.2.2.2.2.2.2.2.1) (sc' := ((fun j : Nat => if j = 4 then hB 0 else hB (j + 1)) 4).2.2.2.2.2.2.2.2.2.2.2.2.2.2.1) (fk' := ((fun j : Nat => if j = 4 then hB 0 else hB (j + 1)) 4).2.2.2.2.2.2.2.2.2.2.2.2.2.2.2.2.1) (sk' := ((fun j : Nat => if j = 4 then hB 0 else hB (j + 1)) 4).2.2.2.2.2.2.2.2.2.2.2.2.2.2.2.2.2.1) (ms' := ((fun j : Nat => if j = 4 then hB 0 else hB (j + 1)) 4).2.2.2.2.2.2.2.2.2.2.2.2.2.2.2.2.2.2.2.1) (es' := ((fun j : Nat => if j = 4 then hB 0 else hB (j + 1)) 4).2.2.2.2.2.2.2.2.2.2.2.2.2.2.2.2.2.2.2.2.1) (vs' := ((fun j : Nat => if j = 4 then hB 0 else hB (j + 1)) 4).2.2.2.2.2.2.2.2.2.2.2.2.2.2.2.2.2.2.2.2.2.1) (ps' := ((fun j : Nat => if j = 4 then hB 0 else hB (j + 1)) 4).2.2.2.2.2.2.2.2.2.2.2.2.2.2.2.2.2.2.2.2.2.2.1) (pn' := ((fun j : Nat => if j = 4 then hB 0 else hB (j + 1)) 4).2.2.2.2.2.2.2.2.2.2.2.2.2.2.2.2.2.2.2.2.2.2.2) B
    rw [hu, ob_s]
    refine ⟨va_up (fun j : Nat => if j = 4 then hB 0 else hB (j + 1)) 4 u, 5, rfl, by omega, by omega, by omega, ?_, fun i h1 h2 => ?_⟩
    · show HB V F n L E A (va_up (fun j : Nat => if j = 4 then hB 0 else hB (j + 1)) 4 u 4)
      rw [up_s]
      exact H
    · rw [up_n (by omega), if_neg (by omega), show 5 - 1 - i + 1 = 5 - i by omega]
theorem rst {V F : Int → Int} {L E C P W : Int32} {A : Int64} {dz rt st z : Int32} {T X : Nat → Int32} {zc : Int32} {fc sc : Nat → Int32} {zk : Int32} {fk sk : Nat → Int32} {zw : Int32} {ms es vs ps pn : Nat → Int32} {hB : Nat → BS} {n k : Nat} {L0 E0 : Int32} {A0 : Int64} (hk : k ≤ 4) (H : HB V F n L0 E0 A0 (hB k)) : ∃ u : BS, f_X1_restore (nI (k + 1)) hB L E C P W A dz rt st z T X zc fc sc zk fk sk zw ms es vs ps pn = some (nI k, u) ∧ HB V F n L0 E0 A0 u := by
  obtain ⟨h1, h2, h3, B⟩ := H
  unfold f_X1_restore
  rcases (show k = 0 ∨ k = 1 ∨ k = 2 ∨ k = 3 ∨ k = 4 by omega) with rfl | rfl | rfl | rfl | rfl
  · rw [if_pos (show nI (0 + 1) = 1 from rfl)]
    obtain ⟨u, hu, q1, q2, q3, q4⟩ := cpy (T' := T) (X' := X) (fc' := fc) (sc' := sc) (fk' := fk) (sk' := sk) (ms' := ms) (es' := es) (vs' := vs) (ps' := ps) (pn' := pn) B
    rw [hu, ob_s]
    exact ⟨u, rfl, q1.trans h1, q2.trans h2, q3.trans h3, q4⟩
  · rw [if_neg (show ¬ nI (1 + 1) = 1 by decide), if_pos (show nI (1 + 1) = 2 from rfl)]
    obtain ⟨u, hu, q1, q2, q3, q4⟩ := cpy (T' := T) (X' := X) (fc' := fc) (sc' := sc) (fk' := fk) (sk' := sk) (ms' := ms) (es' := es) (vs' := vs) (ps' := ps) (pn' := pn) B
    rw [hu, ob_s]
    exact ⟨u, rfl, q1.trans h1, q2.trans h2, q3.trans h3, q4⟩
  · rw [if_neg (show ¬ nI (2 + 1) = 1 by decide), if_neg (show ¬ nI (2 + 1) = 2 by decide), if_pos (show nI (2 + 1) = 3 from rfl)]
    obtain ⟨u, hu, q1, q2, q3, q4⟩ := cpy (T' := T) (X' := X) (fc' := fc) (sc' := sc) (fk' := fk) (sk' := sk) (ms' := ms) (es' := es) (vs' := vs) (ps' := ps) (pn' := pn) B
    rw [hu, ob_s]
    exact ⟨u, rfl, q1.trans h1, q2.trans h2, q3.trans h3, q4⟩
  · rw [if_neg (show ¬ nI (3 + 1) = 1 by decide), if_neg (show ¬ nI (3 + 1) = 2 by decide), if_neg (show ¬ nI (3 + 1) = 3 by decide), if_pos (show nI (3 + 1) = 4 from rfl)]
    obtain ⟨u, hu, q1, q2, q3, q4⟩ := cpy (T' := T) (X' := X) (fc' := fc) (sc' := sc) (fk' := fk) (sk' := sk) (ms' := ms) (es' := es) (vs' := vs) (ps' := ps) (pn' := pn) B
    rw [hu, ob_s]
    exact ⟨u, rfl, q1.trans h1, q2.trans h2, q3.trans h3, q4⟩
  · rw [if_neg (show ¬ nI (4 + 1) = 1 by decide), if_neg (show ¬ nI (4 + 1) = 2 by decide), if_neg (show ¬ nI (4 + 1) = 3 by decide), if_neg (show ¬ nI (4 + 1) = 4 by decide), if_pos (show nI (4 + 1) = 5 from rfl)]
    obtain ⟨u, hu, q1, q2, q3, q4⟩ := cpy (T' := T) (X' := X) (fc' := fc) (sc' := sc) (fk' := fk) (sk' := sk) (ms' := ms) (es' := es) (vs' := vs) (ps' := ps) (pn' := pn) B
    rw [hu, ob_s]
    exact ⟨u, rfl, q1.trans h1, q2.trans h2, q3.trans h3, q4⟩
