/-! pure part K: texts -/
def RX (tl : Int32) (tg : Nat → Int32) (ty : Int32) (mt : Nat → Int32) : Prop := ∃ k : Nat, k ≤ 80 ∧ tl = nI k ∧ ty = nI k ∧ ∀ i, i < k → mt i = tg i ∧ 32 ≤ (tg i).toInt ∧ (tg i).toInt ≤ 126
theorem chr_ok {x : Int32} (h0 : 0 ≤ x.toInt) (h1 : x.toInt < 65536) : ((Int32.toUInt32 x) % 65536).toInt32 = x := by
  obtain ⟨j, hj, e⟩ : ∃ j : Nat, j < 65536 ∧ x = nI j := ⟨x.toInt.toNat, by omega, nI_of_t (by omega)⟩
  subst e
  rw [pk_char, pk_tn (by omega), Nat.mod_eq_of_lt hj]
theorem nar_ok {x : Int32} (h0 : 0 ≤ x.toInt) (h1 : x.toInt < 65536) : vp_nar .char x = x := by
  have h := pk_vc x
  rw [chr_ok h0 h1] at h
  exact h
theorem e_sign {k i : Nat} {g : Nat → Int32} (hk : k ≤ 80) (hg : ∀ i, i < k → 32 ≤ (g i).toInt ∧ (g i).toInt ≤ 126) (hi : i < 2147483648) : f_X4_signAt (nI k) g (nI i) = some (if i < k then g i else 32) := by
  unfold f_X4_signAt
  rw [if_neg (nI_pos (by omega))]
  by_cases c : i < k
  · have b := hg i c
    rw [if_neg (nI_ge c (by omega)), gA_i _ (by omega) (by omega), cl_i (by omega), gT_t _ (chr_ok (by omega) (by omega)), if_pos c]
  · rw [if_pos (nI_le (by omega) (by omega)), gT_t _ (by decide), if_neg c]
def isd (x : Int32) : Prop := 48 ≤ x.toInt ∧ x.toInt ≤ 57
theorem e_isd {x : Int32} : (isd x → f_X4_isDigit x = some 1) ∧ (¬ isd x → f_X4_isDigit x = some 0) := by
  have e1 : (48 : Int32).toInt = 48 := by decide
  have e2 : (57 : Int32).toInt = 57 := by decide
  unfold f_X4_isDigit isd
  refine ⟨fun h => ?_, fun h => ?_⟩
  · rw [if_neg (by rw [t_lt, e1]; omega), if_neg (by rw [t_lt, e2]; omega)]
  · by_cases c : x < 48
    · rw [if_pos c]
    · rw [if_neg c, if_pos (by rw [t_lt, e1] at c; rw [t_lt, e2]; omega)]
theorem e_isd8 {x : Int32} : (isd x → f_X8_in x 48 57 = some 1) ∧ (¬ isd x → f_X8_in x 48 57 = some 0) := by
  have e1 : (48 : Int32).toInt = 48 := by decide
  have e2 : (57 : Int32).toInt = 57 := by decide
  unfold isd
  rw [e_in]
  refine ⟨fun h => ?_, fun h => ?_⟩
  · rw [if_neg]
    intro q
    rcases q with q | q
    · rw [t_lt, e1] at q; omega
    · rw [t_lt, e2] at q; omega
  · rw [if_pos]
    by_cases c : x < 48
    · exact Or.inl c
    · right
      rw [t_lt, e1] at c; rw [t_lt, e2]; omega

/-- reading digits from place p on, of a text of k signs: v is read by now, c signs; j more may come; behind it v', c' -/
def RDN (g : Nat → Int32) (k p : Nat) : Nat → Nat → Nat → Nat → Nat → Prop
  | 0, v, c, v', c' => v' = v ∧ c' = c
  | j + 1, v, c, v', c' => (p + c < k ∧ isd (g (p + c)) ∧ ∃ dg : Nat, dg ≤ 9 ∧ (g (p + c)).toInt = 48 + (dg : Int) ∧ RDN g k p j (10 * v + dg) (c + 1) v' c') ∨ (¬ (p + c < k ∧ isd (g (p + c))) ∧ v' = v ∧ c' = c)
theorem RDN_ex {g : Nat → Int32} {k p : Nat} : ∀ (j v c : Nat), ∃ v' c' : Nat, RDN g k p j v c v' c' := by
  intro j
  induction j with
  | zero => intro v c; exact ⟨v, c, rfl, rfl⟩
  | succ j ih =>
    intro v c
    by_cases h : p + c < k ∧ isd (g (p + c))
    · obtain ⟨v', c', h2⟩ := ih (10 * v + ((g (p + c)).toInt - 48).toNat) (c + 1)
      have hd : 48 ≤ (g (p + c)).toInt ∧ (g (p + c)).toInt ≤ 57 := h.2
      exact ⟨v', c', Or.inl ⟨h.1, h.2, ((g (p + c)).toInt - 48).toNat, by omega, by omega, h2⟩⟩
    · exact ⟨v, c, Or.inr ⟨h, rfl, rfl⟩⟩
theorem RDN_c {g : Nat → Int32} {k p : Nat} : ∀ (j v c v' c' : Nat), RDN g k p j v c v' c' → c ≤ c' ∧ c' ≤ c + j ∧ (p + c ≤ k → p + c' ≤ k) := by
  intro j
  induction j with
  | zero => intro v c v' c' h; obtain ⟨-, h⟩ := h; exact ⟨by omega, by omega, fun q => by omega⟩
  | succ j ih =>
    intro v c v' c' h
    rcases h with ⟨h1, h2, dg, h3, h4, h5⟩ | ⟨h1, h2, h3⟩
    · have := ih _ _ _ _ h5
      exact ⟨by omega, by omega, fun q => this.2.2 (by omega)⟩
    · exact ⟨by omega, by omega, fun q => by omega⟩
theorem RDN_v {g : Nat → Int32} {k p : Nat} : ∀ (j v c v' c' : Nat), RDN g k p j v c v' c' → (j = 1 → v = 0 → v' ≤ 9) ∧ (j ≤ 4 → v = 0 → v' ≤ 9999) := by
  intro j v c v' c' h
  have b : ∀ (j v c v' c' : Nat), RDN g k p j v c v' c' → v' + 1 ≤ (v + 1) * 10 ^ j := by
    intro j
    induction j with
    | zero => intro v c v' c' h; obtain ⟨h, -⟩ := h; omega
    | succ j ih =>
      intro v c v' c' h
      have hp : 1 ≤ 10 ^ j := Nat.pow_pos (by omega)
      rw [Nat.pow_succ, ← Nat.mul_assoc]
      rcases h with ⟨h1, h2, dg, h3, h4, h5⟩ | ⟨h1, h2, h3⟩
      · have := ih _ _ _ _ h5
        have q : (10 * v + dg + 1) * 10 ^ j ≤ ((v + 1) * 10) * 10 ^ j := Nat.mul_le_mul_right _ (by omega)
        have e : (v + 1) * 10 * 10 ^ j = (v + 1) * 10 ^ j * 10 := by rw [Nat.mul_right_comm]
        omega
      · have q : (v + 1) * 1 ≤ (v + 1) * 10 ^ j := Nat.mul_le_mul_left _ hp
        omega
  have := b j v c v' c' h
  refine ⟨fun e e2 => ?_, fun e e2 => ?_⟩
  · subst e; subst e2; omega
  · have : 10 ^ j ≤ 10 ^ 4 := Nat.pow_le_pow_right (by omega) e
    subst e2
    omega
theorem e_rn {k p m : Nat} {g : Nat → Int32} (hk : k ≤ 80) (hg : ∀ i, i < k → 32 ≤ (g i).toInt ∧ (g i).toInt ≤ 126) (hp : p ≤ 81) (hm : m ≤ 4) : ∀ (j v c v' c' kk : Nat), c + j = m → v + 1 ≤ 10 ^ c → j < kk → RDN g k p j v c v' c' → f_X4_readNumber_b10 (nI k) g (nI p) (nI m) kk (nI v) (nI c) = some (nI v', nI c') := by
  intro j
  induction j with
  | zero =>
    intro v c v' c' kk hc hv hkk h
    obtain ⟨kk, rfl⟩ : ∃ k', kk = k' + 1 := ⟨kk - 1, by omega⟩
    obtain ⟨rfl, rfl⟩ := h
    rw [f_X4_readNumber_b10, if_pos (nI_le (by omega) (by omega))]
  | succ j ih =>
    intro v c v' c' kk hc hv hkk h
    obtain ⟨kk, rfl⟩ : ∃ k', kk = k' + 1 := ⟨kk - 1, by omega⟩
    have hv4 : 10 ^ c ≤ 10 ^ 4 := Nat.pow_le_pow_right (by omega) (by omega)
    rw [f_X4_readNumber_b10, if_neg (nI_ge (by omega) (by omega)), nI_add, e_sign hk hg (by omega), ob_s]
    rcases h with ⟨h1, h2, dg, h3, h4, h5⟩ | ⟨h1, h2, h3⟩
    · have ed : g (p + c) - 48 = nI dg := nI_of_t (by rw [t_sub (by rw [h4, show (48 : Int32).toInt = 48 from by decide]; omega) (by rw [h4, show (48 : Int32).toInt = 48 from by decide]; omega), h4, show (48 : Int32).toInt = 48 from by decide]; omega)
      rw [if_pos h1, e_isd.1 h2, ob_s, if_neg o1, ob_s, ed, show (10 : Int32) = nI 10 from rfl, pk_mul, nI_add, nm_s, p_1, nm_s, Nat.mul_comm v 10]
      exact ih _ _ _ _ kk (by omega) (by rw [Nat.pow_succ]; omega) (by omega) h5
    · have hd : f_X4_isDigit (if p + c < k then g (p + c) else 32) = some 0 := by
        by_cases c1 : p + c < k
        · rw [if_pos c1]; exact e_isd.2 (fun e => h1 ⟨c1, e⟩)
        · rw [if_neg c1]; rfl
      rw [hd, ob_s, if_pos o3, h2, h3]
/-- the reference's number: read, and in its range? -/
def okn (lo hi v c : Nat) : Prop := 0 < c ∧ lo ≤ v ∧ v ≤ hi
theorem e_rx {p v c lo hi : Nat} (hp : p ≤ 81) (hc : c ≤ 4) (hv : v < 2147483648) (hlo : lo < 2147483648) (hhi : hi < 2147483648) :
    (okn lo hi v c → (if nI (p + c) ≤ nI p then some ((0 : Int32), nI (p + c), nI v) else Option.bind (f_X8_in (nI v) (nI lo) (nI hi)) (fun u3 => (if u3 = 0 then some ((0 : Int32), nI (p + c), nI v) else some ((1 : Int32), nI (p + c), nI v)))) = some ((1 : Int32), nI (p + c), nI v)) ∧
    (¬ okn lo hi v c → (if nI (p + c) ≤ nI p then some ((0 : Int32), nI (p + c), nI v) else Option.bind (f_X8_in (nI v) (nI lo) (nI hi)) (fun u3 => (if u3 = 0 then some ((0 : Int32), nI (p + c), nI v) else some ((1 : Int32), nI (p + c), nI v)))) = some ((0 : Int32), nI (p + c), nI v)) := by
  unfold okn
  rw [e_in, ob_s]
  refine ⟨fun h => ?_, fun h => ?_⟩
  · rw [if_neg (nI_ge (by omega) (by omega)), if_neg (show ¬ (nI v < nI lo ∨ nI hi < nI v) from fun e => by
      rcases e with e | e
      · exact nI_nlt h.2.1 (by omega) e
      · exact nI_nlt h.2.2 (by omega) e), if_neg o1]
  · by_cases c0 : c = 0
    · subst c0
      rw [if_pos (show nI (p + 0) ≤ nI p from nI_le (Nat.le_refl _) (by omega))]
    · rw [if_neg (nI_ge (by omega) (by omega)), if_pos (show nI v < nI lo ∨ nI hi < nI v by
        by_cases c1 : v < lo
        · exact Or.inl (nI_lt c1 (by omega))
        · exact Or.inr (nI_lt (by omega) (by omega))), if_pos o3]
theorem e_rn8 {k p m lo hi : Nat} {g mt : Nat → Int32} (hk : k ≤ 80) (hmt : ∀ i, i < k → mt i = g i) (hp : p ≤ 81) (hm : m ≤ 4) (hlo : lo < 2147483648) (hhi : hi < 2147483648) : ∀ (j v c v' c' kk : Nat), c + j = m → v + 1 ≤ 10 ^ c → j < kk → RDN g k p j v c v' c' →
    (okn lo hi v' c' → f_X8_readsNumber_b11 (nI k) mt (nI m) (nI lo) (nI hi) (nI p) kk (nI (p + c)) (nI v) = some (1, nI (p + c'), nI v')) ∧ (¬ okn lo hi v' c' → f_X8_readsNumber_b11 (nI k) mt (nI m) (nI lo) (nI hi) (nI p) kk (nI (p + c)) (nI v) = some (0, nI (p + c'), nI v')) := by
  intro j
  induction j with
  | zero =>
    intro v c v' c' kk hc hv hkk h
    obtain ⟨kk, rfl⟩ : ∃ k', kk = k' + 1 := ⟨kk - 1, by omega⟩
    obtain ⟨rfl, rfl⟩ := h
    have hv4 : 10 ^ c' ≤ 10 ^ 4 := Nat.pow_le_pow_right (by omega) (by omega)
    have ex := e_rx (p := p) (v := v') (c := c') (lo := lo) (hi := hi) hp (by omega) (by omega) hlo hhi
    rw [f_X8_readsNumber_b11, nI_add]
    by_cases c1 : k ≤ p + c'
    · rw [if_pos (nI_le c1 (by omega))]; exact ex
    · rw [if_neg (nI_ge (by omega) (by omega)), if_pos (nI_le (by omega) (by omega))]; exact ex
  | succ j ih =>
    intro v c v' c' kk hc hv hkk h
    obtain ⟨kk, rfl⟩ : ∃ k', kk = k' + 1 := ⟨kk - 1, by omega⟩
    have hv4 : 10 ^ c ≤ 10 ^ 4 := Nat.pow_le_pow_right (by omega) (by omega)
    rw [f_X8_readsNumber_b11, nI_add]
    rcases h with ⟨h1, h2, dg, h3, h4, h5⟩ | ⟨h1, h2, h3⟩
    · have ed : (10 : Int32) * nI v + g (p + c) - 48 = nI (10 * v + dg) := by
        have e10 : (10 : Int32) * nI v = nI (10 * v) := pk_mul 10 v
        rw [e10]
        have ea : (nI (10 * v) + g (p + c)).toInt = (10 * v : Nat) + (48 + (dg : Int)) := by rw [t_add (by rw [t_nI (by omega), h4]; omega) (by rw [t_nI (by omega), h4]; omega), t_nI (by omega), h4]
        refine nI_of_t ?_
        rw [t_sub (by rw [ea, show (48 : Int32).toInt = 48 from by decide]; omega) (by rw [ea, show (48 : Int32).toInt = 48 from by decide]; omega), ea, show (48 : Int32).toInt = 48 from by decide]
        omega
      rw [if_neg (nI_ge h1 (by omega)), if_neg (nI_ge (by omega) (by omega)), gA_i _ (by omega) (by omega), cl_i (by omega), hmt _ h1, e_isd8.1 h2, ob_s, if_neg o1, gA_i _ (by omega) (by omega), ed, nm_s, p_1, nm_s]
      exact ih _ _ _ _ kk (by omega) (by rw [Nat.pow_succ]; omega) (by omega) h5
    · subst h2; subst h3
      have ex := e_rx (p := p) (v := v') (c := c') (lo := lo) (hi := hi) hp (by omega) (by omega) hlo hhi
      by_cases c1 : k ≤ p + c'
      · rw [if_pos (nI_le c1 (by omega))]; exact ex
      · rw [if_neg (nI_ge (by omega) (by omega)), if_neg (nI_ge (by omega) (by omega)), gA_i _ (by omega) (by omega), cl_i (by omega), hmt _ (by omega), e_isd8.2 (fun e => h1 ⟨by omega, e⟩), ob_s, if_pos o3]
        exact ex
/-! where a move ends -/
def nxt (g : Nat → Int32) (k e n : Nat) : Prop := (e = k ∧ n = k) ∨ (e + 1 < k ∧ g e = 59 ∧ n = e + 1)
theorem e_step {k e : Nat} {g : Nat → Int32} (hk : k ≤ 80) (hg : ∀ i, i < k → 32 ≤ (g i).toInt ∧ (g i).toInt ≤ 126) (he : e ≤ k) : (∀ n, nxt g k e n → f_X4_stepBehind (nI k) g (nI e) = some (1, nI n)) ∧ ((∀ n, ¬ nxt g k e n) → ∃ x : Int32, f_X4_stepBehind (nI k) g (nI e) = some (0, x)) := by
  unfold f_X4_stepBehind
  by_cases c : e = k
  · subst c
    rw [if_neg (fun q => q rfl), if_pos rfl]
    refine ⟨fun n h => ?_, fun h => absurd (Or.inl ⟨rfl, rfl⟩) (h e)⟩
    rcases h with ⟨-, rfl⟩ | ⟨h, -⟩
    · rfl
    · omega
  · have hne : ¬ nI e = nI k := nI_ne c (by omega) (by omega)
    rw [if_pos hne, p_1, nm_s, if_neg hne, e_sign hk hg (by omega), ob_s, if_pos (show e < k by omega)]
    refine ⟨fun n h => ?_, fun h => ?_⟩
    · rcases h with ⟨h, -⟩ | ⟨h1, h2, rfl⟩
      · exact absurd h c
      · rw [if_neg (fun q => q h2), if_neg (nI_ge h1 (by omega))]
    · by_cases c2 : g e = 59
      · rw [if_neg (fun q => q c2)]
        by_cases c3 : e + 1 < k
        · exact absurd (Or.inr ⟨c3, c2, rfl⟩) (h (e + 1))
        · rw [if_pos (nI_le (by omega) (by omega))]
          exact ⟨_, rfl⟩
      · rw [if_pos c2]
        exact ⟨_, rfl⟩
theorem e_step8 {k e : Nat} {g mt : Nat → Int32} {sg nb : Int32} (hk : k ≤ 80) (hmt : ∀ i, i < k → mt i = g i) (he : e ≤ k) : (∀ n, nxt g k e n → f_X8_readsMove_b108 (nI k) mt 1 (nI e) sg nb = some (1, nI n, sg, nb)) ∧ ((∀ n, ¬ nxt g k e n) → ∃ x : Int32, f_X8_readsMove_b108 (nI k) mt 1 (nI e) sg nb = some (0, x, sg, nb)) := by
  unfold f_X8_readsMove_b108 f_X8_readsMove_b131
  rw [if_pos o1, p_1]
  by_cases c : e = k
  · subst c
    rw [if_neg (fun q => q rfl), if_pos (nI_le (by omega) (by omega)), if_pos o3, nm_s, if_pos o1, Int32.add_zero]
    refine ⟨fun n h => ?_, fun h => absurd (Or.inl ⟨rfl, rfl⟩) (h e)⟩
    rcases h with ⟨-, rfl⟩ | ⟨h, -⟩
    · rfl
    · omega
  · rw [if_pos (nI_ne c (by omega) (by omega))]
    by_cases c3 : e + 1 < k
    · rw [if_neg (nI_ge c3 (by omega)), gA_i _ (by omega) (by omega), cl_i (by omega), hmt e (by omega)]
      by_cases c2 : g e = 59
      · rw [if_neg (fun q => q c2), if_neg o1, nm_s, if_neg o2, if_neg o1]
        refine ⟨fun n h => ?_, fun h => absurd (Or.inr ⟨c3, c2, rfl⟩) (h (e + 1))⟩
        rcases h with ⟨h, -⟩ | ⟨h1, h2, rfl⟩
        · exact absurd h c
        · rfl
      · rw [if_pos c2, if_pos o3, nm_s, if_neg o2, if_pos o3]
        refine ⟨fun n h => ?_, fun h => ⟨_, rfl⟩⟩
        rcases h with ⟨h, -⟩ | ⟨h1, h2, -⟩
        · exact absurd h c
        · exact absurd h2 c2
    · rw [if_pos (nI_le (by omega) (by omega)), if_pos o3, nm_s, if_neg o2, if_pos o3]
      refine ⟨fun n h => ?_, fun h => ⟨_, rfl⟩⟩
      rcases h with ⟨h, -⟩ | ⟨h1, h2, -⟩
      · exact absurd h c
      · omega
/-- the move at s is read by both -/
def PMok (N k : Nat) (tg mt : Nat → Int32) (s v n : Nat) : Prop := s < n ∧ n ≤ k ∧ v ≤ 9999 ∧ (tg s = 43 ∨ tg s = 45 ∨ (tg s = 61 ∧ v ≤ 1000) ∨ (tg s = 104 ∧ 1 ≤ v ∧ v ≤ 200) ∨ tg s = 122) ∧
  (∀ tn td tx : Int32, ∃ td' : Int32, f_X4_readMove N (nI k) tn td tx tg (nI s) = some (1, tg s, nI v, td', nI n)) ∧ (∀ mn : Int32, ∃ w : Int32, f_X8_readsMove N (nI k) (nI s) mn mt = some (1, nI n, tg s, w) ∧ (¬ tg s = 122 → w = nI v))
def PMno (N k : Nat) (tg mt : Nat → Int32) (s : Nat) : Prop :=
  (∀ tn td tx : Int32, ∃ a b c e : Int32, f_X4_readMove N (nI k) tn td tx tg (nI s) = some (0, a, b, c, e)) ∧ (∀ mn : Int32, ∃ a b c : Int32, f_X8_readsMove N (nI k) (nI s) mn mt = some (0, a, b, c))
theorem nxt_dec {g : Nat → Int32} {k e : Nat} : (∃ n, nxt g k e n ∧ e ≤ n ∧ n ≤ k) ∨ (∀ n, ¬ nxt g k e n) := by
  by_cases c : e = k
  · exact Or.inl ⟨k, Or.inl ⟨c, rfl⟩, by omega, Nat.le_refl _⟩
  · by_cases c2 : e + 1 < k ∧ g e = 59
    · exact Or.inl ⟨e + 1, Or.inr ⟨c2.1, c2.2, rfl⟩, by omega, by omega⟩
    · right
      intro n h
      rcases h with ⟨h, -⟩ | ⟨h1, h2, -⟩
      · exact c h
      · exact c2 ⟨h1, h2⟩
/-- from the two texts' ends to the two facts -/
theorem PM_of {N k s e v : Nat} {tg mt : Nat → Int32} {w td' : Int32} {P : Prop} (hk : k ≤ 80) (hg : ∀ i, i < k → 32 ≤ (tg i).toInt ∧ (tg i).toInt ≤ 126) (hmt : ∀ i, i < k → mt i = tg i) (he : s < e) (he2 : e ≤ k) (hv : v ≤ 9999) (dp : P ∨ ¬ P)
    (hs : P → (tg s = 43 ∨ tg s = 45 ∨ (tg s = 61 ∧ v ≤ 1000) ∨ (tg s = 104 ∧ 1 ≤ v ∧ v ≤ 200) ∨ tg s = 122)) (hw : ¬ tg s = 122 → w = nI v)
    (h1 : P → ∀ tn td tx : Int32, ∃ td', f_X4_readMove N (nI k) tn td tx tg (nI s) = Option.bind (f_X4_stepBehind (nI k) tg (nI e)) (fun u => if u.1 = 0 then some ((0 : Int32), tg s, nI v, td', u.2) else some ((1 : Int32), tg s, nI v, td', u.2)))
    (h2 : ¬ P → ∀ tn td tx : Int32, ∃ a b c e : Int32, f_X4_readMove N (nI k) tn td tx tg (nI s) = some (0, a, b, c, e))
    (h3 : P → ∀ mn : Int32, ∃ w : Int32, (¬ tg s = 122 → w = nI v) ∧ f_X8_readsMove N (nI k) (nI s) mn mt = f_X8_readsMove_b108 (nI k) mt 1 (nI e) (tg s) w)
    (h4 : ¬ P → ∀ mn : Int32, ∃ a b c : Int32, f_X8_readsMove N (nI k) (nI s) mn mt = some (0, a, b, c)) : (∃ v n : Nat, PMok N k tg mt s v n) ∨ PMno N k tg mt s := by
  rcases dp with p | p
  · rcases nxt_dec (g := tg) (k := k) (e := e) with ⟨n, hn, hn1, hn2⟩ | hn
    · refine Or.inl ⟨v, n, by omega, hn2, hv, hs p, fun tn td tx => ?_, fun mn => ?_⟩
      · obtain ⟨td', q⟩ := h1 p tn td tx
        refine ⟨td', ?_⟩
        rw [q, (e_step hk hg he2).1 n hn, ob_s, if_neg o1]
      · obtain ⟨w, q0, q⟩ := h3 p mn
        refine ⟨w, ?_, q0⟩
        rw [q, (e_step8 hk hmt he2).1 n hn]
    · refine Or.inr ⟨fun tn td tx => ?_, fun mn => ?_⟩
      · obtain ⟨td', q⟩ := h1 p tn td tx
        obtain ⟨x, qx⟩ := (e_step hk hg he2).2 hn
        rw [q, qx, ob_s, if_pos o3]
        exact ⟨_, _, _, _, rfl⟩
      · obtain ⟨w, q0, q⟩ := h3 p mn
        obtain ⟨x, qx⟩ := (e_step8 (sg := tg s) (nb := w) hk hmt he2).2 hn
        rw [q, qx]
        exact ⟨_, _, _, rfl⟩
  · exact Or.inr ⟨h2 p, h4 p⟩
theorem PM_num {N k s m hi lo : Nat} {tg mt : Nat → Int32} (hN : 3000 ≤ N) (hk : k ≤ 80) (hg : ∀ i, i < k → 32 ≤ (tg i).toInt ∧ (tg i).toInt ≤ 126) (hmt : ∀ i, i < k → mt i = tg i) (hs : s < k) (hm : 1 ≤ m ∧ m ≤ 4) (hlo : lo < 2147483648) (hhi : hi < 2147483648) :
    ∃ v c : Nat, c ≤ m ∧ s + 1 + c ≤ k ∧ v ≤ 9999 ∧ (m = 1 → v ≤ 9) ∧ f_X4_readNumber N (nI k) tg (nI (s + 1)) (nI m) = some (nI v, nI c) ∧
      (okn lo hi v c → f_X8_readsNumber N (nI k) (nI (s + 1)) mt (nI m) (nI lo) (nI hi) = some (1, nI (s + 1 + c), nI v)) ∧ (¬ okn lo hi v c → f_X8_readsNumber N (nI k) (nI (s + 1)) mt (nI m) (nI lo) (nI hi) = some (0, nI (s + 1 + c), nI v)) := by
  obtain ⟨v, c, h⟩ := RDN_ex (g := tg) (k := k) (p := s + 1) m 0 0
  have b1 := RDN_c _ _ _ _ _ h
  have b2 := RDN_v _ _ _ _ _ h
  have h8 := e_rn8 (lo := lo) (hi := hi) hk hmt (show s + 1 ≤ 81 by omega) hm.2 hlo hhi m 0 0 v c N (by omega) (by decide) (by omega) h
  refine ⟨v, c, by omega, b1.2.2 (by omega), b2.2 hm.2 rfl, fun e => b2.1 e rfl, ?_, h8.1, h8.2⟩
  exact e_rn hk hg (show s + 1 ≤ 81 by omega) hm.2 m 0 0 v c N (by omega) (by decide) (by omega) h
theorem n_le0 {c : Nat} (hc : c < 2147483648) : (nI c ≤ 0) ↔ c = 0 := by
  rw [t_le, t_nI hc, show (0 : Int32).toInt = 0 from by decide]; omega
theorem e_pm {N k s : Nat} {tg mt : Nat → Int32} (hN : 3000 ≤ N) (hk : k ≤ 80) (hg : ∀ i, i < k → mt i = tg i ∧ 32 ≤ (tg i).toInt ∧ (tg i).toInt ≤ 126) (hs : s < k) : (∃ v n : Nat, PMok N k tg mt s v n) ∨ PMno N k tg mt s := by
  have hg1 : ∀ i, i < k → 32 ≤ (tg i).toInt ∧ (tg i).toInt ≤ 126 := fun i hi => (hg i hi).2
  have hg2 : ∀ i, i < k → mt i = tg i := fun i hi => (hg i hi).1
  have b := hg1 s hs
  have es := e_sign (i := s) hk hg1 (by omega)
  rw [if_pos hs] at es
  have ech : ((Int32.toUInt32 (tg s)) % 65536).toInt32 = tg s := chr_ok (by omega) (by omega)
  by_cases c43 : tg s = 43 ∨ tg s = 45
  · obtain ⟨v, c, hc, hck, hv, hv1, r1, r2, r3⟩ := PM_num (m := 1) (lo := 0) (hi := 9) hN hk hg1 hg2 hs (by omega) (by omega) (by omega)
    have hv9 := hv1 rfl
    refine PM_of (P := okn 0 9 v c) (e := s + 1 + c) (v := v) hk hg1 hg2 (by omega) hck hv (Classical.em _) (fun _ => by rcases c43 with q | q <;> simp [q]) (w := nI v) (td' := 0) (fun _ => rfl) ?_ ?_ ?_ ?_
    · intro p tn td tx
      have c1 : c = 1 := by unfold okn at p; omega
      subst c1
      refine ⟨nI 1, ?_⟩
      unfold f_X4_readMove
      rw [es, ob_s, gT_t _ ech]
      rcases c43 with q | q
      · rw [if_pos q, p_1, show (1 : Int32) = nI 1 from rfl, r1, ob_s, if_neg (fun z => z rfl), show nI s + 2 = nI (s + 1 + 1) from by rw [show (2 : Int32) = nI 2 from rfl, nI_add]]
      · rw [if_neg (by rw [q]; decide), if_pos q, p_1, show (1 : Int32) = nI 1 from rfl, r1, ob_s, if_neg (fun z => z rfl), show nI s + 2 = nI (s + 1 + 1) from by rw [show (2 : Int32) = nI 2 from rfl, nI_add]]
    · intro p tn td tx
      have c1 : c = 0 := by unfold okn at p; omega
      subst c1
      unfold f_X4_readMove
      rw [es, ob_s, gT_t _ ech]
      rcases c43 with q | q
      · rw [if_pos q, p_1, show (1 : Int32) = nI 1 from rfl, r1, ob_s, if_pos (show ¬ nI 0 = nI 1 by decide)]
        exact ⟨_, _, _, _, rfl⟩
      · rw [if_neg (by rw [q]; decide), if_pos q, p_1, show (1 : Int32) = nI 1 from rfl, r1, ob_s, if_pos (show ¬ nI 0 = nI 1 by decide)]
        exact ⟨_, _, _, _, rfl⟩
    · intro p mn
      refine ⟨nI v, fun _ => rfl, ?_⟩
      have h50 : f_X8_readsMove_b50 N (nI k) mt (nI (s + 1)) (tg s) = f_X8_readsMove_b108 (nI k) mt 1 (nI (s + 1 + c)) (tg s) (nI v) := by
        unfold f_X8_readsMove_b50 f_X8_readsMove_b103
        rw [show f_X8_readsNumber N (nI k) (nI (s + 1)) mt 1 0 9 = _ from r2 p, ob_s, if_pos o1]
      unfold f_X8_readsMove
      rw [gA_i _ (by omega) (by omega), cl_i (by omega), hg2 s hs, nm_s, p_1, nm_s]
      rcases c43 with q | q
      · rw [if_neg (by rw [q]; decide), if_pos q, h50]
      · rw [if_neg (by rw [q]; decide), if_neg (by rw [q]; decide), if_neg (by rw [q]; decide), h50]
    · intro p mn
      have h50 : f_X8_readsMove_b50 N (nI k) mt (nI (s + 1)) (tg s) = some (0, nI (s + 1 + c), tg s, nI v) := by
        unfold f_X8_readsMove_b50 f_X8_readsMove_b61 f_X8_readsMove_b82 f_X8_readsMove_b107 f_X8_readsMove_b108
        rw [show f_X8_readsNumber N (nI k) (nI (s + 1)) mt 1 0 9 = _ from r3 p, ob_s, if_neg o2]
        rw [if_pos (show ¬ tg s = 61 by rcases c43 with q | q <;> rw [q] <;> decide), if_pos (show ¬ tg s = 104 by rcases c43 with q | q <;> rw [q] <;> decide), if_neg o2]
      refine ⟨nI (s + 1 + c), tg s, nI v, ?_⟩
      unfold f_X8_readsMove
      rw [gA_i _ (by omega) (by omega), cl_i (by omega), hg2 s hs, nm_s, p_1, nm_s]
      rcases c43 with q | q
      · rw [if_neg (by rw [q]; decide), if_pos q, h50]
      · rw [if_neg (by rw [q]; decide), if_neg (by rw [q]; decide), if_neg (by rw [q]; decide), h50]
  · have n43 : ¬ tg s = 43 := fun q => c43 (Or.inl q)
    have n45 : ¬ tg s = 45 := fun q => c43 (Or.inr q)
    by_cases c61 : tg s = 61
    · obtain ⟨v, c, hc, hck, hv, hv1, r1, r2, r3⟩ := PM_num (m := 4) (lo := 0) (hi := 1000) hN hk hg1 hg2 hs (by omega) (by omega) (by omega)
      refine PM_of (P := okn 0 1000 v c) (e := s + 1 + c) (v := v) hk hg1 hg2 (by omega) hck hv (Classical.em _) (fun p => by unfold okn at p; simp [c61, p.2.2]) (w := nI v) (td' := 0) (fun _ => rfl) ?_ ?_ ?_ ?_
      · intro p tn td tx
        refine ⟨nI c, ?_⟩
        unfold f_X4_readMove
        rw [es, ob_s, gT_t _ ech, if_neg n43, if_neg n45, if_pos c61, p_1, show (4 : Int32) = nI 4 from rfl, r1, ob_s]
        dsimp only
        rw [if_neg (by rw [n_le0 (by omega)]; unfold okn at p; omega), if_neg (show ¬ (1000 : Int32) < nI v from (show ¬ nI 1000 < nI v from nI_nlt p.2.2 (by omega))), nI_add]
      · intro p tn td tx
        unfold f_X4_readMove
        rw [es, ob_s, gT_t _ ech, if_neg n43, if_neg n45, if_pos c61, p_1, show (4 : Int32) = nI 4 from rfl, r1, ob_s]
        dsimp only
        by_cases c0 : c = 0
        · rw [if_pos (by rw [n_le0 (by omega)]; exact c0)]
          exact ⟨_, _, _, _, rfl⟩
        · rw [if_neg (by rw [n_le0 (by omega)]; exact c0), if_pos (show (1000 : Int32) < nI v from (show nI 1000 < nI v from nI_lt (by unfold okn at p; omega) (by omega)))]
          exact ⟨_, _, _, _, rfl⟩
      · intro p mn
        refine ⟨nI v, fun _ => rfl, ?_⟩
        unfold f_X8_readsMove
        rw [gA_i _ (by omega) (by omega), cl_i (by omega), hg2 s hs, nm_s, p_1, nm_s, if_neg (by rw [c61]; decide), if_neg n43, if_pos n45]
        unfold f_X8_readsMove_b61 f_X8_readsMove_b103
        rw [if_neg (fun z => z c61), show f_X8_readsNumber N (nI k) (nI (s + 1)) mt 4 0 1000 = _ from r2 p, ob_s, if_pos o1]
      · intro p mn
        refine ⟨nI (s + 1 + c), tg s, nI v, ?_⟩
        unfold f_X8_readsMove
        rw [gA_i _ (by omega) (by omega), cl_i (by omega), hg2 s hs, nm_s, p_1, nm_s, if_neg (by rw [c61]; decide), if_neg n43, if_pos n45]
        unfold f_X8_readsMove_b61 f_X8_readsMove_b82 f_X8_readsMove_b107 f_X8_readsMove_b108
        rw [if_neg (fun z => z c61), show f_X8_readsNumber N (nI k) (nI (s + 1)) mt 4 0 1000 = _ from r3 p, ob_s, if_neg o2, if_pos (by rw [c61]; decide), if_neg o2]
    · by_cases c104 : tg s = 104
      · obtain ⟨v, c, hc, hck, hv, hv1, r1, r2, r3⟩ := PM_num (m := 3) (lo := 1) (hi := 200) hN hk hg1 hg2 hs (by omega) (by omega) (by omega)
        refine PM_of (P := okn 1 200 v c) (e := s + 1 + c) (v := v) hk hg1 hg2 (by omega) hck hv (Classical.em _) (fun p => by unfold okn at p; simp [c104, p.2.2, p.2.1]) (w := nI v) (td' := 0) (fun _ => rfl) ?_ ?_ ?_ ?_
        · intro p tn td tx
          refine ⟨nI c, ?_⟩
          unfold f_X4_readMove
          rw [es, ob_s, gT_t _ ech, if_neg n43, if_neg n45, if_neg c61, if_pos c104, p_1, show (3 : Int32) = nI 3 from rfl, r1, ob_s]
          dsimp only
          rw [if_neg (by rw [n_le0 (by omega)]; unfold okn at p; omega)]
          unfold f_X7_isOutside
          rw [if_neg (show ¬ nI v < (1 : Int32) from (show ¬ nI v < nI 1 from nI_nlt p.2.1 (by omega))), if_pos (show nI v ≤ (200 : Int32) from (show nI v ≤ nI 200 from nI_le p.2.2 (by omega))), ob_s, if_neg o2, nI_add]
        · intro p tn td tx
          unfold f_X4_readMove
          rw [es, ob_s, gT_t _ ech, if_neg n43, if_neg n45, if_neg c61, if_pos c104, p_1, show (3 : Int32) = nI 3 from rfl, r1, ob_s]
          dsimp only
          by_cases c0 : c = 0
          · rw [if_pos (by rw [n_le0 (by omega)]; exact c0)]
            exact ⟨_, _, _, _, rfl⟩
          · rw [if_neg (by rw [n_le0 (by omega)]; exact c0)]
            unfold f_X7_isOutside
            by_cases c5 : v < 1
            · rw [if_pos (show nI v < (1 : Int32) from (show nI v < nI 1 from nI_lt c5 (by omega))), ob_s, if_pos o1]
              exact ⟨_, _, _, _, rfl⟩
            · rw [if_neg (show ¬ nI v < (1 : Int32) from (show ¬ nI v < nI 1 from nI_nlt (by omega) (by omega))), if_neg (show ¬ nI v ≤ (200 : Int32) from (show ¬ nI v ≤ nI 200 from nI_ge (by unfold okn at p; omega) (by omega))), ob_s, if_pos o1]
              exact ⟨_, _, _, _, rfl⟩
        · intro p mn
          refine ⟨nI v, fun _ => rfl, ?_⟩
          unfold f_X8_readsMove
          rw [gA_i _ (by omega) (by omega), cl_i (by omega), hg2 s hs, nm_s, p_1, nm_s, if_neg (by rw [c104]; decide), if_neg n43, if_pos n45]
          unfold f_X8_readsMove_b61 f_X8_readsMove_b82 f_X8_readsMove_b103
          rw [if_pos c61, if_neg (fun z => z c104), show f_X8_readsNumber N (nI k) (nI (s + 1)) mt 3 1 200 = _ from r2 p, ob_s, if_neg o1]
        · intro p mn
          refine ⟨nI (s + 1 + c), tg s, nI v, ?_⟩
          unfold f_X8_readsMove
          rw [gA_i _ (by omega) (by omega), cl_i (by omega), hg2 s hs, nm_s, p_1, nm_s, if_neg (by rw [c104]; decide), if_neg n43, if_pos n45]
          unfold f_X8_readsMove_b61 f_X8_readsMove_b82 f_X8_readsMove_b107 f_X8_readsMove_b108
          rw [if_pos c61, if_neg (fun z => z c104), show f_X8_readsNumber N (nI k) (nI (s + 1)) mt 3 1 200 = _ from r3 p, ob_s, if_pos o3, if_neg o2]
      · by_cases c122 : tg s = 122
        · refine PM_of (P := True) (e := s + 1) (v := 0) hk hg1 hg2 (by omega) (by omega) (by omega) (Or.inl trivial) (fun _ => by simp [c122]) (w := 0) (td' := 0) (fun _ => rfl) ?_ (fun h => absurd trivial h) ?_ (fun h => absurd trivial h)
          · intro _ tn td tx
            refine ⟨td, ?_⟩
            unfold f_X4_readMove
            rw [es, ob_s, gT_t _ ech, if_neg n43, if_neg n45, if_neg c61, if_neg c104, if_pos c122, p_1]
            rcases nxt_dec (g := tg) (k := k) (e := s + 1) with ⟨n, hn, -, -⟩ | hn
            · rw [(e_step hk hg1 (by omega)).1 n hn, ob_s, ob_s, gT_t _ (Or.inr rfl), if_neg o1]
              rfl
            · obtain ⟨x, qx⟩ := (e_step hk hg1 (show s + 1 ≤ k by omega)).2 hn
              rw [qx, ob_s, ob_s, gT_t _ (Or.inl rfl), if_pos o3]
              rfl
          · intro _ mn
            refine ⟨mn, fun z => absurd c122 z, ?_⟩
            unfold f_X8_readsMove
            rw [gA_i _ (by omega) (by omega), cl_i (by omega), hg2 s hs, nm_s, p_1, nm_s, if_pos c122]
            rfl
        · refine Or.inr ⟨fun tn td tx => ?_, fun mn => ?_⟩
          · unfold f_X4_readMove
            rw [es, ob_s, gT_t _ ech, if_neg n43, if_neg n45, if_neg c61, if_neg c104, if_neg c122]
            exact ⟨_, _, _, _, rfl⟩
          · unfold f_X8_readsMove
            rw [gA_i _ (by omega) (by omega), cl_i (by omega), hg2 s hs, nm_s, p_1, nm_s, if_neg c122, if_neg n43, if_pos n45]
            unfold f_X8_readsMove_b61 f_X8_readsMove_b82 f_X8_readsMove_b107 f_X8_readsMove_b108
            rw [if_pos c61, if_pos c104, if_neg o2]
            exact ⟨_, _, _, rfl⟩

