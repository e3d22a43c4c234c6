/-! pure part J: a pair that is laid -/
theorem o1 : ¬ (1 : Int32) = 0 := by decide
theorem o3 : (0 : Int32) = 0 := rfl
theorem nI_ne {n c : Nat} (h : n ≠ c) (hn : n < 2147483648) (hc : c < 2147483648) : ¬ nI n = nI c := fun e => h ((nI_eq (by omega) (by omega)).mp e)
theorem o4 : ¬ ¬ (1 : Int32) = 1 := fun h => h rfl
/-- a row with x laid at place k -/
def ins {α : Type} (f : Nat → α) (k : Nat) (x : α) : Nat → α := fun i => if i < k then f i else if i = k then x else f (i - 1)
def del {α : Type} (f : Nat → α) (k : Nat) : Nat → α := fun i => if i < k then f i else f (i + 1)
theorem ins_lt {α : Type} {f : Nat → α} {k i : Nat} {x : α} (h : i < k) : ins f k x i = f i := if_pos h
theorem ins_eq {α : Type} {f : Nat → α} {k : Nat} {x : α} : ins f k x k = x := by unfold ins; rw [if_neg (by omega), if_pos rfl]
theorem ins_gt {α : Type} {f : Nat → α} {k i : Nat} {x : α} (h : k < i) : ins f k x i = f (i - 1) := by unfold ins; rw [if_neg (by omega), if_neg (by omega)]
theorem del_lt {α : Type} {f : Nat → α} {k i : Nat} (h : i < k) : del f k i = f i := if_pos h
theorem del_ge {α : Type} {f : Nat → α} {k i : Nat} (h : k ≤ i) : del f k i = f (i + 1) := if_neg (by omega)
theorem ins_inc {n k : Nat} {f : Nat → Int32} {p : Int32} (hf : IncA n (fun i => (f i).toInt)) (hk : k ≤ n) (h1 : k = 0 ∨ f (k - 1) < p) (h2 : n ≤ k ∨ p < f k) : IncA (n + 1) (fun i => (ins f k p i).toInt) := by
  intro i hi
  show (ins f k p i).toInt < (ins f k p (i + 1)).toInt
  by_cases c : i + 1 < k
  · rw [ins_lt (by omega), ins_lt c]
    exact hf i (by omega)
  · by_cases c2 : i + 1 = k
    · subst c2
      rw [ins_lt (by omega), ins_eq]
      rcases h1 with h | h
      · omega
      · exact t_lt.mp h
    · by_cases c3 : i = k
      · subst c3
        rw [ins_eq, ins_gt (by omega), Nat.add_sub_cancel]
        rcases h2 with h | h
        · omega
        · exact t_lt.mp h
      · rw [ins_gt (by omega), ins_gt (by omega), Nat.add_sub_cancel]
        have := hf (i - 1) (by omega)
        have e : i - 1 + 1 = i := by omega
        have this : (f (i - 1)).toInt < (f (i - 1 + 1)).toInt := this
        rw [e] at this
        exact this
theorem upd_inc {n k : Nat} {f : Nat → Int32} {p : Int32} (hf : IncA n (fun i => (f i).toInt)) (h1 : k = 0 ∨ f (k - 1) < p) (h2 : n ≤ k + 1 ∨ p < f (k + 1)) : IncA n (fun i => (upd f k p i).toInt) := by
  intro i hi
  show (upd f k p i).toInt < (upd f k p (i + 1)).toInt
  by_cases c : i = k
  · subst c
    rw [us, un (by omega)]
    rcases h2 with h | h
    · omega
    · exact t_lt.mp h
  · by_cases c2 : i + 1 = k
    · subst c2
      rw [un (by omega), us]
      rcases h1 with h | h
      · omega
      · exact t_lt.mp h
    · rw [un c, un c2]
      exact hf i hi
theorem del_inc {n k : Nat} {f : Nat → Int32} (hf : IncA (n + 1) (fun i => (f i).toInt)) : IncA n (fun i => (del f k i).toInt) := by
  intro i hi
  show (del f k i).toInt < (del f k (i + 1)).toInt
  by_cases c : i + 1 < k
  · rw [del_lt (by omega), del_lt c]
    exact hf i (by omega)
  · by_cases c2 : i < k
    · rw [del_lt c2, del_ge (by omega)]
      exact inc_lt hf (i + 1 + 1) i (by omega) (by omega)
    · rw [del_ge (by omega), del_ge (by omega)]
      exact hf (i + 1) (by omega)
/-- is a pair with this first number there, which one is behind the place -/
def thr (f : Nat → Int32) (p : Int32) (n : Nat) : Prop := slot f p n 0 < n ∧ f (slot f p n 0) = p
theorem e_b21 {M n k b : Nat} {s : Nat → Int32} {q : Int32} (hM : n ≤ M) (hb : M < 2147483647) (hk : k ≤ n) (hbn : b ≤ n + 1) :
    f_X2_staysRising_b21 M (nI n) s q (nI k) (nI b) = some (if (k = 0 ∨ s (k - 1) < q) ∧ (n ≤ b ∨ q < s b) then 1 else 0) := by
  unfold f_X2_staysRising_b21
  have hlast : (Option.bind (f_X2_has (nI n) (nI b)) (fun u6 => (if u6 = 0 then some (1 : Int32) else Option.bind (f_X2_second M (nI n) s (nI b)) (fun u8 => (if u8 ≤ q then some (0 : Int32) else some (1 : Int32)))))) = some (if n ≤ b ∨ q < s b then 1 else 0) := by
    rw [e_has (by omega) (by omega), ob_s]
    by_cases c : b < n
    · rw [if_pos c, if_neg o1, e_second c hM (by omega), ob_s]
      by_cases c2 : s b ≤ q
      · rw [if_pos c2, if_neg]
        intro h
        rcases h with h | h
        · omega
        · rw [t_lt] at h; rw [t_le] at c2; omega
      · rw [if_neg c2, if_pos]
        right
        rw [t_le] at c2; rw [t_lt]; omega
    · rw [if_neg c, if_pos o3, if_pos (Or.inl (by omega))]
  rw [hlast]
  cases k with
  | zero =>
    rw [e_hasm, ob_s, if_pos o3]
    by_cases c : n ≤ b ∨ q < s b
    · rw [if_pos c, if_pos ⟨Or.inl rfl, c⟩]
    · rw [if_neg c, if_neg (fun h => c h.2)]
  | succ k =>
    rw [m_1, e_has (by omega) (by omega), ob_s, if_pos (show k < n by omega), if_neg o1, e_second (by omega) hM (by omega), ob_s]
    by_cases c1 : q ≤ s k
    · rw [if_pos c1, if_neg]
      intro h
      rcases h.1 with h2 | h2
      · omega
      · rw [Nat.add_sub_cancel, t_lt] at h2; rw [t_le] at c1; omega
    · rw [if_neg c1]
      have c2 : s k < q := by rw [t_le] at c1; rw [t_lt]; omega
      by_cases c : n ≤ b ∨ q < s b
      · rw [if_pos c, if_pos ⟨Or.inr (by rw [Nat.add_sub_cancel]; exact c2), c⟩]
      · rw [if_neg c, if_neg (fun h => c h.2)]
theorem e_rise {N M n : Nat} {f s : Nat → Int32} {p q : Int32} (hN : n < N) (hM : n ≤ M) (hb : M < 2147483647) :
    (thr f p n → f_X2_staysRising N M (nI n) f s p q = some (if (slot f p n 0 = 0 ∨ s (slot f p n 0 - 1) < q) ∧ (n ≤ slot f p n 0 + 1 ∨ q < s (slot f p n 0 + 1)) then 1 else 0)) ∧
    (¬ thr f p n → f_X2_staysRising N M (nI n) f s p q = some (if (slot f p n 0 = 0 ∨ s (slot f p n 0 - 1) < q) ∧ (n ≤ slot f p n 0 ∨ q < s (slot f p n 0)) then 1 else 0)) := by
  have hs := (slot_le (f := f) (p := p) n 0).2.1
  unfold f_X2_staysRising
  rw [e_slot hN hM (by omega), ob_s, e_holds hN hM (by omega), ob_s]
  refine ⟨fun h => ?_, fun h => ?_⟩
  · have h' : slot f p n 0 < n ∧ f (slot f p n 0) = p := h
    rw [if_pos h', if_neg o1, p_1, e_b21 hM (by omega) (by omega) (by omega)]
  · have h' : ¬ (slot f p n 0 < n ∧ f (slot f p n 0) = p) := h
    rw [if_neg h', if_pos o3, e_b21 hM (by omega) (by omega) (by omega)]
theorem e_room {N M n : Nat} {f : Nat → Int32} {p : Int32} (hN : n < N) (hM : n ≤ M) (hb : M < 2147483648) : (n < M ∨ thr f p n → f_X2_hasRoomFor N M (nI n) f p = some 1) ∧ (¬ (n < M ∨ thr f p n) → f_X2_hasRoomFor N M (nI n) f p = some 0) := by
  unfold f_X2_hasRoomFor
  rw [oN]
  by_cases c : n < M
  · rw [if_pos (nI_lt c (by omega))]
    exact ⟨fun _ => rfl, fun h => absurd (Or.inl c) h⟩
  · rw [if_neg (nI_nlt (by omega) (by omega)), e_holds hN hM hb, ob_s]
    refine ⟨fun h => ?_, fun h => ?_⟩
    · have h' : slot f p n 0 < n ∧ f (slot f p n 0) = p := h.resolve_left c
      rw [if_pos h', if_neg o1]
    · have h' : ¬ (slot f p n 0 < n ∧ f (slot f p n 0) = p) := fun e => h (Or.inr e)
      rw [if_neg h', if_pos o3]
theorem e_lay {N M n : Nat} {f s : Nat → Int32} {p q : Int32} (hN : n < N) (hM : n ≤ M) (hb : M < 2147483647) :
    (thr f p n → f_X2_lay N M (nI n) f s p q = some (nI n, f, upd s (slot f p n 0) q)) ∧
    (¬ thr f p n → n < M → ∃ f' s' : Nat → Int32, f_X2_lay N M (nI n) f s p q = some (nI (n + 1), f', s') ∧ ∀ i, i < n + 1 → f' i = ins f (slot f p n 0) p i ∧ s' i = ins s (slot f p n 0) q i) := by
  have hs := (slot_le (f := f) (p := p) n 0).2.1
  unfold f_X2_lay
  rw [e_slot hN hM (by omega), ob_s, e_holds hN hM (by omega), ob_s]
  refine ⟨fun h => ?_, fun h hn => ?_⟩
  · have h' : slot f p n 0 < n ∧ f (slot f p n 0) = p := h
    rw [if_pos h', if_neg o1, gA_i _ (by omega) (by omega), nm_s, cl_i (by omega)]
  · have h' : ¬ (slot f p n 0 < n ∧ f (slot f p n 0) = p) := h
    rw [if_neg h', if_pos o3, oN, if_neg (nI_ge hn (by omega)), p_1, pk_sub (show slot f p n 0 ≤ n by omega)]
    have c : ¬ nI (slot f p n 0) < 0 ∧ ¬ nI (slot f p n 0 + 1) < 0 ∧ ¬ nI (n - slot f p n 0) < 0 ∧ Int32.toNatClampNeg (nI (slot f p n 0)) + Int32.toNatClampNeg (nI (n - slot f p n 0)) ≤ M ∧ Int32.toNatClampNeg (nI (slot f p n 0 + 1)) + Int32.toNatClampNeg (nI (n - slot f p n 0)) ≤ M := by
      rw [cl_i (by omega), cl_i (by omega), cl_i (by omega)]
      exact ⟨nI_pos (by omega), nI_pos (by omega), nI_pos (by omega), by omega, by omega⟩
    rw [gT_t _ c, nm_s, gT_t _ c, nm_s, gA_i _ (by omega) (by omega), nm_s, gA_i _ (by omega) (by omega), nm_s, nm_s, cl_i (by omega), cl_i (by omega), cl_i (by omega), p_1]
    refine ⟨_, _, rfl, fun i hi => ?_⟩
    by_cases c1 : i < slot f p n 0
    · rw [un (by omega), un (by omega), pk_cpy_out (Or.inl (by omega)), pk_cpy_out (Or.inl (by omega)), ins_lt c1, ins_lt c1]
      exact ⟨rfl, rfl⟩
    · by_cases c2 : i = slot f p n 0
      · rw [c2, us, us, ins_eq, ins_eq]
        exact ⟨rfl, rfl⟩
      · rw [un c2, un c2, pk_cpy_in (by omega) (by omega), pk_cpy_in (by omega) (by omega), ins_gt (by omega), ins_gt (by omega), show slot f p n 0 + (i - (slot f p n 0 + 1)) = i - 1 by omega]
        exact ⟨rfl, rfl⟩
