-- X8_in
def f_X8_in (p0 : Int32) (p1 : Int32) (p2 : Int32) : Option (Int32) :=
  (if p0 < p1 then some (0 : Int32)
    else (if p2 < p0 then some (0 : Int32)
    else some (1 : Int32)))

set_option maxHeartbeats 8000000 in
set_option maxRecDepth 100000 in
theorem k_X8_in (l : Launch) (D : va_G) (cI cC cJ cB : ClassId) (N : Nat) (p0 : Int32) (p1 : Int32) (p2 : Int32) (sz : Nat) (u : Int32) (hu : f_X8_in p0 p1 p2 = some u) :
    Met l yX8_in wsX8_in ({ frames := 0, cells := 0, slots := 0, locals := 0 } : Room) (va_Pc [.int p0, .int p1, .int p2] (PreW D (ty4 cI cC cJ cB) sz []))
      (QI D (ty4 cI cC cJ cB) (va_A [] sz) [] u) 0 0 (va_A [] sz) := by
  refine met_go (y := yX8_in) (wsy := wsX8_in) (cc := cX8_in) (maxL := 3) (ret := (some .boolean)) (av := [.int p0, .int p1, .int p2]) (Qc := fun A => QI D (ty4 cI cC cJ cB) A [] u) (by decide) rfl (Nat.le_of_ble_eq_true rfl) ?_
  intro p e s m below meth c A ls hx hb hr hml hown hts hlocks hnm hN hK hP hD hS hA hl
  have h := hu
  clear hu
  unfold f_X8_in at h
  have hl : lv_has ls 3 [(0, .int p0), (1, .int p1), (2, .int p2)] := hl
  refine lv_iload_n hx hb dX8_in_0 rfl (lv_at hl 0 rfl) ?_
  refine lv_iload_n hx hb dX8_in_1 rfl (lv_at hl 1 rfl) ?_
  refine lv_icmp_lt (tgt := 14) hx hb dX8_in_2 (by decide) (fun hc1 => ?_) (fun hc1 => ?_)
  · replace h := it_e hc1 h
    refine lv_iconst (v := (0 : Int32)) hx hb dX8_in_14 (by decide) ?_
    obtain rfl := sm_e h
    exact rx_z hx hb hr rfl hP hK hD hS dX8_in_15 hlocks
  · replace h := if_e hc1 h
    refine lv_iload_n hx hb dX8_in_5 rfl (lv_at hl 0 rfl) ?_
    refine lv_iload_n hx hb dX8_in_6 rfl (lv_at hl 2 rfl) ?_
    refine lv_icmp_gt (tgt := 14) hx hb dX8_in_7 (by decide) (fun hc2 => ?_) (fun hc2 => ?_)
    · replace h := it_e hc2 h
      refine lv_iconst (v := (0 : Int32)) hx hb dX8_in_14 (by decide) ?_
      obtain rfl := sm_e h
      exact rx_z hx hb hr rfl hP hK hD hS dX8_in_15 hlocks
    · replace h := if_e hc2 h
      refine lv_iconst (v := (1 : Int32)) hx hb dX8_in_10 (by decide) ?_
      refine lv_goto (tgt := 15) hx hb dX8_in_11 (by decide) ?_
      obtain rfl := sm_e h
      exact rx_z hx hb hr rfl hP hK hD hS dX8_in_15 hlocks
-- X8_down
def f_X8_down (p0 : Int64) (p1 : Int64) : Option (Int32) :=
  gL p1 (nm (p0 / p1) (fun t2 => (if (lg_cmp (t2 * p1) p0) ≤ 0 then some (Int64.toInt32 t2)
    else some (Int64.toInt32 (t2 - (1 : Int64))))))

set_option maxHeartbeats 8000000 in
set_option maxRecDepth 100000 in
theorem k_X8_down (l : Launch) (D : va_G) (cI cC cJ cB : ClassId) (N : Nat) (p0 : Int64) (p1 : Int64) (sz : Nat) (u : Int32) (hu : f_X8_down p0 p1 = some u) :
    Met l yX8_down wsX8_down ({ frames := 0, cells := 0, slots := 0, locals := 0 } : Room) (va_Pc [.long p0, .long p1] (PreW D (ty4 cI cC cJ cB) sz []))
      (QI D (ty4 cI cC cJ cB) (va_A [] sz) [] u) 0 0 (va_A [] sz) := by
  refine met_go (y := yX8_down) (wsy := wsX8_down) (cc := cX8_down) (maxL := 6) (ret := (some .int)) (av := [.long p0, .long p1]) (Qc := fun A => QI D (ty4 cI cC cJ cB) A [] u) (by decide) rfl (Nat.le_of_ble_eq_true rfl) ?_
  intro p e s m below meth c A ls hx hb hr hml hown hts hlocks hnm hN hK hP hD hS hA hl
  have h := hu
  clear hu
  unfold f_X8_down at h
  have hl : lv_has ls 6 [(0, .long p0), (2, .long p1)] := hl
  refine lv_lload_n hx hb dX8_down_0 rfl (lv_at hl 0 rfl) ?_
  refine lv_lload_n hx hb dX8_down_1 rfl (lv_at hl 1 rfl) ?_
  obtain ⟨hz1, h⟩ := gL_e h
  refine lv_ldiv hx hb dX8_down_2 hz1 ?_
  refine lv_topl (fun t2 et2 => ?_)
  replace h := nm_at h et2
  refine lv_lstore (lv' := [(4, .long t2), (0, .long p0), (2, .long p1)]) hx hb dX8_down_3 hl (by decide) rfl (fun ls hl => ?_)
  refine lv_lload hx hb dX8_down_5 (lv_at hl 0 rfl) ?_
  refine lv_lload_n hx hb dX8_down_7 rfl (lv_at hl 2 rfl) ?_
  refine lv_lmul hx hb dX8_down_8 ?_
  refine lv_lload_n hx hb dX8_down_9 rfl (lv_at hl 1 rfl) ?_
  refine W.lcmp hx hb dX8_down_10 ?_
  refine lv_if_le (tgt := 21) hx hb dX8_down_11 (by decide) (fun hc3 => ?_) (fun hc3 => ?_)
  · replace h := it_e hc3 h
    refine lv_lload hx hb dX8_down_21 (lv_at hl 0 rfl) ?_
    refine lv_l2i (v := (Int64.toInt32 t2)) hx hb dX8_down_23 rfl ?_
    obtain rfl := sm_e h
    exact rx_i hx hb hr  hP hK hD hS dX8_down_24 hlocks
  · replace h := if_e hc3 h
    refine lv_lload hx hb dX8_down_14 (lv_at hl 0 rfl) ?_
    refine lv_lconst (v := (1 : Int64)) hx hb dX8_down_16 rfl ?_
    refine lv_lsub hx hb dX8_down_17 ?_
    refine lv_goto (tgt := 23) hx hb dX8_down_18 (by decide) ?_
    refine lv_l2i (v := (Int64.toInt32 (t2 - (1 : Int64)))) hx hb dX8_down_23 rfl ?_
    obtain rfl := sm_e h
    exact rx_i hx hb hr  hP hK hD hS dX8_down_24 hlocks
-- X8_records
def f_X8_records_b78 (v_account : Int64) (v_d_A : Nat → Int32) (m_states : Int32) (m_accounts_A : Nat → Int64) : Nat → Int32 → (Nat → Int32) → Option (Int32 × (Nat → Int32) × (Nat → Int64))
  | 0, _, _ => none
  | k + 1, x1, m_was_A =>
    (if (2086 : Int32) ≤ x1 then gA m_states 5 (nm (vp_updL m_accounts_A (Int32.toNatClampNeg m_states) v_account) (fun g4 => nm (m_states + (1 : Int32)) (fun t5 => some (t5, m_was_A, g4))))
    else gA x1 2086 (nm (v_d_A (Int32.toNatClampNeg x1)) (fun t7 => gA (((2086 : Int32) * m_states) + x1) 10430 (nm (upd m_was_A (Int32.toNatClampNeg (((2086 : Int32) * m_states) + x1)) t7) (fun g9 => nm (x1 + (1 : Int32)) (fun t10 => (f_X8_records_b78 v_account v_d_A m_states m_accounts_A k t10 g9)))))))
def f_X8_records_b41 (N : Nat) (v_account : Int64) (v_d_A : Nat → Int32) (m_states : Int32) (m_was_A : Nat → Int32) : Nat → Int32 → (Nat → Int64) → Option (Int32 × (Nat → Int32) × (Nat → Int64))
  | 0, _, _ => none
  | k + 1, x1, m_accounts_A =>
    (if (4 : Int32) ≤ x1 then nm (m_states - (1 : Int32)) (fun t13 => (f_X8_records_b78 v_account v_d_A t13 m_accounts_A N (0 : Int32) m_was_A))
    else gA (x1 + (1 : Int32)) 5 (nm (m_accounts_A (Int32.toNatClampNeg (x1 + (1 : Int32)))) (fun t15 => gA x1 5 (nm (vp_updL m_accounts_A (Int32.toNatClampNeg x1) t15) (fun g17 => nm (x1 + (1 : Int32)) (fun t18 => (f_X8_records_b41 N v_account v_d_A m_states m_was_A k t18 g17)))))))
def f_X8_records_b10 (N : Nat) (v_account : Int64) (v_d_A : Nat → Int32) (m_states : Int32) (m_accounts_A : Nat → Int64) : Nat → Int32 → (Nat → Int32) → Option (Int32 × (Nat → Int32) × (Nat → Int64))
  | 0, _, _ => none
  | k + 1, x1, m_was_A =>
    (if (8344 : Int32) ≤ x1 then (f_X8_records_b41 N v_account v_d_A m_states m_was_A N (0 : Int32) m_accounts_A)
    else gA (x1 + (2086 : Int32)) 10430 (nm (m_was_A (Int32.toNatClampNeg (x1 + (2086 : Int32)))) (fun t20 => gA x1 10430 (nm (upd m_was_A (Int32.toNatClampNeg x1) t20) (fun g22 => nm (x1 + (1 : Int32)) (fun t23 => (f_X8_records_b10 N v_account v_d_A m_states m_accounts_A k t23 g22)))))))
def f_X8_records (N : Nat) (v_account : Int64) (v_states : Int32) (v_d_A : Nat → Int32) (v_was_A : Nat → Int32) (v_accounts_A : Nat → Int64) : Option (Int32 × (Nat → Int32) × (Nat → Int64)) :=
  (if ¬ v_states = (5 : Int32) then (f_X8_records_b78 v_account v_d_A v_states v_accounts_A N (0 : Int32) v_was_A)
    else (f_X8_records_b10 N v_account v_d_A v_states v_accounts_A N (0 : Int32) v_was_A))
theorem q_X8_records_1 : (.fieldLink RX8 33 "SpringBalanceModel" "states" "I" : Cond) ∈ wsX8_records := List.mem_of_getElem? (i := 1) (by decide +kernel)
set_option maxRecDepth 20000 in
theorem in_X8_records_X8 : ∀ w ∈ u_ws RX8 TX8 14, w ∈ wsX8_records := by decide +kernel
theorem q_X8_records_3 : (.fieldLink RX8 16 "SpringBalanceModel" "accounts" "[J" : Cond) ∈ wsX8_records := List.mem_of_getElem? (i := 3) (by decide +kernel)
theorem q_X8_records_5 : (.fieldLink RX8 37 "SpringBalanceModel" "account" "J" : Cond) ∈ wsX8_records := List.mem_of_getElem? (i := 5) (by decide +kernel)
theorem q_X8_records_2 : (.fieldLink RX8 13 "SpringBalanceModel" "was" "[I" : Cond) ∈ wsX8_records := List.mem_of_getElem? (i := 2) (by decide +kernel)
theorem q_X8_records_4 : (.fieldLink RX8 7 "SpringBalanceModel" "d" "[I" : Cond) ∈ wsX8_records := List.mem_of_getElem? (i := 4) (by decide +kernel)
set_option maxHeartbeats 8000000 in
set_option maxRecDepth 100000 in
theorem k_X8_records (l : Launch) (D : va_G) (cI cC cJ cB : ClassId) (a_h a_h_d a_h_was a_h_accounts a_h_text a_h_aside a_h_places a_h_told : Nat) (v_account : Int64) (v_states : Int32) (v_refused : Int32) (v_typed : Int32) (v_at : Int32) (v_sign : Int32) (v_number : Int32) (v_d_A : Nat → Int32) (v_was_A : Nat → Int32) (v_accounts_A : Nat → Int64) (N : Nat) (sz : Nat) (u : Int32 × (Nat → Int32) × (Nat → Int64)) (hu : f_X8_records N v_account v_states v_d_A v_was_A v_accounts_A = some u) :
    Met l yX8_records wsX8_records ({ frames := 0, cells := 0, slots := 0, locals := 0 } : Room) (va_Pc [.ref a_h] (PreW D (ty4 cI cC cJ cB) sz [(a_h, .inr (8, [.ref a_h_d, .long v_account, .ref a_h_was, .ref a_h_accounts, .int v_states, .int v_refused, .ref a_h_text, .int v_typed, .int v_at, .int v_sign, .int v_number, .ref a_h_aside, .ref a_h_places, .ref a_h_told])), (a_h_d, .inl (cI, 2086, .inl v_d_A)), (a_h_was, .inl (cI, 10430, .inl v_was_A)), (a_h_accounts, .inl (cJ, 5, .inr (.inl v_accounts_A)))]))
      (QV D (ty4 cI cC cJ cB) (va_A [(a_h, .inr (8, [.ref a_h_d, .long v_account, .ref a_h_was, .ref a_h_accounts, .int v_states, .int v_refused, .ref a_h_text, .int v_typed, .int v_at, .int v_sign, .int v_number, .ref a_h_aside, .ref a_h_places, .ref a_h_told])), (a_h_d, .inl (cI, 2086, .inl v_d_A)), (a_h_was, .inl (cI, 10430, .inl v_was_A)), (a_h_accounts, .inl (cJ, 5, .inr (.inl v_accounts_A)))] sz) [(a_h, .inr (8, [.ref a_h_d, .long v_account, .ref a_h_was, .ref a_h_accounts, .int u.1, .int v_refused, .ref a_h_text, .int v_typed, .int v_at, .int v_sign, .int v_number, .ref a_h_aside, .ref a_h_places, .ref a_h_told])), (a_h_d, .inl (cI, 2086, .inl v_d_A)), (a_h_was, .inl (cI, 10430, .inl u.2.1)), (a_h_accounts, .inl (cJ, 5, .inr (.inl u.2.2)))]) 0 0 (va_A [(a_h, .inr (8, [.ref a_h_d, .long v_account, .ref a_h_was, .ref a_h_accounts, .int v_states, .int v_refused, .ref a_h_text, .int v_typed, .int v_at, .int v_sign, .int v_number, .ref a_h_aside, .ref a_h_places, .ref a_h_told])), (a_h_d, .inl (cI, 2086, .inl v_d_A)), (a_h_was, .inl (cI, 10430, .inl v_was_A)), (a_h_accounts, .inl (cJ, 5, .inr (.inl v_accounts_A)))] sz) := by
  refine met_go (y := yX8_records) (wsy := wsX8_records) (cc := cX8_records) (maxL := 2) (ret := none) (av := [.ref a_h]) (Qc := fun A => QV D (ty4 cI cC cJ cB) A [(a_h, .inr (8, [.ref a_h_d, .long v_account, .ref a_h_was, .ref a_h_accounts, .int u.1, .int v_refused, .ref a_h_text, .int v_typed, .int v_at, .int v_sign, .int v_number, .ref a_h_aside, .ref a_h_places, .ref a_h_told])), (a_h_d, .inl (cI, 2086, .inl v_d_A)), (a_h_was, .inl (cI, 10430, .inl u.2.1)), (a_h_accounts, .inl (cJ, 5, .inr (.inl u.2.2)))]) (by decide) rfl (Nat.le_of_ble_eq_true rfl) ?_
  intro p e s m below meth c A ls hx hb hr hml hown hts hlocks hnm hN hK hP hD hS hA hl
  have h := hu
  clear hu
  unfold f_X8_records at h
  have hl : lv_has ls 2 [(0, .ref a_h)] := hl
  have B78 : ∀ (k : Nat) (x1 : Int32) (m_states : Int32) (m_was_A : Nat → Int32) (m_accounts_A : Nat → Int64) (H : Heap) (locs : List Loc) (ls : Array Slot), f_X8_records_b78 v_account v_d_A m_states m_accounts_A k x1 m_was_A = some u → va_P D vwCl [(a_h, .inr (8, [.ref a_h_d, .long v_account, .ref a_h_was, .ref a_h_accounts, .int m_states, .int v_refused, .ref a_h_text, .int v_typed, .int v_at, .int v_sign, .int v_number, .ref a_h_aside, .ref a_h_places, .ref a_h_told])), (a_h_d, .inl (cI, 2086, .inl v_d_A)), (a_h_was, .inl (cI, 10430, .inl m_was_A)), (a_h_accounts, .inl (cJ, 5, .inr (.inl m_accounts_A)))] H → va_D A [(a_h, .inr (8, [.ref a_h_d, .long v_account, .ref a_h_was, .ref a_h_accounts, .int m_states, .int v_refused, .ref a_h_text, .int v_typed, .int v_at, .int v_sign, .int v_number, .ref a_h_aside, .ref a_h_places, .ref a_h_told])), (a_h_d, .inl (cI, 2086, .inl v_d_A)), (a_h_was, .inl (cI, 10430, .inl m_was_A)), (a_h_accounts, .inl (cJ, 5, .inr (.inl m_accounts_A)))] → va_S A s.heap H locs → lv_has ls 2 [(0, .ref a_h), (1, .int x1)] → W p l e ({ frames := 0, cells := 0, slots := 0, locals := 0 } : Room) s m ([.ref a_h] : List Value).toArray below meth c H locs 0 0 (MQ below (QV D (ty4 cI cC cJ cB) A [(a_h, .inr (8, [.ref a_h_d, .long v_account, .ref a_h_was, .ref a_h_accounts, .int u.1, .int v_refused, .ref a_h_text, .int v_typed, .int v_at, .int v_sign, .int v_number, .ref a_h_aside, .ref a_h_places, .ref a_h_told])), (a_h_d, .inl (cI, 2086, .inl v_d_A)), (a_h_was, .inl (cI, 10430, .inl u.2.1)), (a_h_accounts, .inl (cJ, 5, .inr (.inl u.2.2)))]) ([.ref a_h] : List Value).toArray s 0 0 A) (F0 m 78 ls []) := by
    intro k
    induction k with
    | zero =>
      intro x1 m_states m_was_A m_accounts_A H locs ls h
      exact nomatch (show (none : Option (Int32 × (Nat → Int32) × (Nat → Int64))) = some u from h)
    | succ k ih =>
      intro x1 m_states m_was_A m_accounts_A H locs ls h hP hD hS hl
      rw [f_X8_records_b78.eq_2] at h
      refine lv_iload_n hx hb dX8_records_78 rfl (lv_at hl 1 rfl) ?_
      refine lv_sipush (v := (2086 : Int32)) hx hb dX8_records_79 (by decide) ?_
      refine lv_icmp_ge (tgt := 112) hx hb dX8_records_82 (by decide) (fun hc2 => ?_) (fun hc2 => ?_)
      · replace h := it_e hc2 h
        refine lv_aload_n hx hb dX8_records_112 rfl (lv_at hl 0 rfl) ?_
        refine va_get (D := D) (ci := 8) (v := .ref a_h_accounts) (C := RX8) (T := TX8) (N := 14) hx hb hts in_X8_records_X8 hown hK hP 0 rfl rfl 3 (by decide) (hts _ q_X8_records_3) (fun _ h9 => h9) rfl dX8_records_113 ?_
        refine lv_aload_n hx hb dX8_records_116 rfl (lv_at hl 0 rfl) ?_
        refine va_get (D := D) (ci := 8) (v := .int m_states) (C := RX8) (T := TX8) (N := 14) hx hb hts in_X8_records_X8 hown hK hP 0 rfl rfl 4 (by decide) (hts _ q_X8_records_1) (fun _ h9 => h9) rfl dX8_records_117 ?_
        refine lv_aload_n hx hb dX8_records_120 rfl (lv_at hl 0 rfl) ?_
        refine va_get (D := D) (ci := 8) (v := .long v_account) (C := RX8) (T := TX8) (N := 14) hx hb hts in_X8_records_X8 hown hK hP 0 rfl rfl 1 (by decide) (hts _ q_X8_records_5) (fun _ h9 => h9) rfl dX8_records_121 ?_
        obtain ⟨hi3, h⟩ := gA_e h
        refine va_last hx hb hK hP hD hS 3 2 rfl rfl hi3 dX8_records_124 (fun H locs hP hD hS => ?_)
        obtain ⟨g4, eg4, h⟩ := nm_x h
        have hP : va_P D vwCl [(a_h, .inr (8, [.ref a_h_d, .long v_account, .ref a_h_was, .ref a_h_accounts, .int m_states, .int v_refused, .ref a_h_text, .int v_typed, .int v_at, .int v_sign, .int v_number, .ref a_h_aside, .ref a_h_places, .ref a_h_told])), (a_h_d, .inl (cI, 2086, .inl v_d_A)), (a_h_was, .inl (cI, 10430, .inl m_was_A)), (a_h_accounts, .inl (cJ, 5, .inr (.inl g4)))] H := by rw [eg4]; exact hP
        have hD : va_D A [(a_h, .inr (8, [.ref a_h_d, .long v_account, .ref a_h_was, .ref a_h_accounts, .int m_states, .int v_refused, .ref a_h_text, .int v_typed, .int v_at, .int v_sign, .int v_number, .ref a_h_aside, .ref a_h_places, .ref a_h_told])), (a_h_d, .inl (cI, 2086, .inl v_d_A)), (a_h_was, .inl (cI, 10430, .inl m_was_A)), (a_h_accounts, .inl (cJ, 5, .inr (.inl g4)))] := by rw [eg4]; exact hD
        refine lv_aload_n hx hb dX8_records_125 rfl (lv_at hl 0 rfl) ?_
        refine lv_dup hx hb dX8_records_126 rfl ?_
        refine va_get (D := D) (ci := 8) (v := .int m_states) (C := RX8) (T := TX8) (N := 14) hx hb hts in_X8_records_X8 hown hK hP 0 rfl rfl 4 (by decide) (hts _ q_X8_records_1) (fun _ h9 => h9) rfl dX8_records_127 ?_
        refine lv_iconst (v := (1 : Int32)) hx hb dX8_records_130 (by decide) ?_
        refine lv_iadd hx hb dX8_records_131 ?_
        refine lv_topi (fun t5 et5 => ?_)
        replace h := nm_at h et5
        refine va_put (D := D) (ci := 8) (v := .int t5) (ty := .int) (C := RX8) (T := TX8) (N := 14) hx hb hts in_X8_records_X8 tyX8 tyX8_ok nmX8 hown hK hP hD hS 0 rfl rfl 4 (by decide) (hts _ q_X8_records_1) (fun _ h9 => h9) rfl (by decide +kernel) rfl rfl (Nat.le_of_ble_eq_true rfl) dX8_records_132 (fun H locs hP hD hS => ?_)
        have hP : va_P D vwCl [(a_h, .inr (8, [.ref a_h_d, .long v_account, .ref a_h_was, .ref a_h_accounts, .int t5, .int v_refused, .ref a_h_text, .int v_typed, .int v_at, .int v_sign, .int v_number, .ref a_h_aside, .ref a_h_places, .ref a_h_told])), (a_h_d, .inl (cI, 2086, .inl v_d_A)), (a_h_was, .inl (cI, 10430, .inl m_was_A)), (a_h_accounts, .inl (cJ, 5, .inr (.inl g4)))] H := hP
        have hD : va_D A [(a_h, .inr (8, [.ref a_h_d, .long v_account, .ref a_h_was, .ref a_h_accounts, .int t5, .int v_refused, .ref a_h_text, .int v_typed, .int v_at, .int v_sign, .int v_number, .ref a_h_aside, .ref a_h_places, .ref a_h_told])), (a_h_d, .inl (cI, 2086, .inl v_d_A)), (a_h_was, .inl (cI, 10430, .inl m_was_A)), (a_h_accounts, .inl (cJ, 5, .inr (.inl g4)))] := hD
        obtain rfl := sm_e h
        exact rx_v hx hb hr  hP hK hD hS dX8_records_135 hlocks
      · replace h := if_e hc2 h
        refine lv_aload_n hx hb dX8_records_85 rfl (lv_at hl 0 rfl) ?_
        refine va_get (D := D) (ci := 8) (v := .ref a_h_was) (C := RX8) (T := TX8) (N := 14) hx hb hts in_X8_records_X8 hown hK hP 0 rfl rfl 2 (by decide) (hts _ q_X8_records_2) (fun _ h9 => h9) rfl dX8_records_86 ?_
        refine lv_sipush (v := (2086 : Int32)) hx hb dX8_records_89 (by decide) ?_
        refine lv_aload_n hx hb dX8_records_92 rfl (lv_at hl 0 rfl) ?_
        refine va_get (D := D) (ci := 8) (v := .int m_states) (C := RX8) (T := TX8) (N := 14) hx hb hts in_X8_records_X8 hown hK hP 0 rfl rfl 4 (by decide) (hts _ q_X8_records_1) (fun _ h9 => h9) rfl dX8_records_93 ?_
        refine lv_imul hx hb dX8_records_96 ?_
        refine lv_iload_n hx hb dX8_records_97 rfl (lv_at hl 1 rfl) ?_
        refine lv_iadd hx hb dX8_records_98 ?_
        refine lv_aload_n hx hb dX8_records_99 rfl (lv_at hl 0 rfl) ?_
        refine va_get (D := D) (ci := 8) (v := .ref a_h_d) (C := RX8) (T := TX8) (N := 14) hx hb hts in_X8_records_X8 hown hK hP 0 rfl rfl 0 (by decide) (hts _ q_X8_records_4) (fun _ h9 => h9) rfl dX8_records_100 ?_
        refine lv_iload_n hx hb dX8_records_103 rfl (lv_at hl 1 rfl) ?_
        obtain ⟨hi6, h⟩ := gA_e h
        refine wx_iald hx hb hK hP 1 0 rfl rfl (Int32.toNatClampNeg x1) rfl hi6 dX8_records_104 ?_
        refine lv_topi (fun t7 et7 => ?_)
        replace h := nm_at h et7
        obtain ⟨hi8, h⟩ := gA_e h
        refine wx_iast hx hb hK hP hD hS 2 0 rfl rfl (Int32.toNatClampNeg (((2086 : Int32) * m_states) + x1)) rfl hi8 dX8_records_105 rfl (fun H locs hP hD hS => ?_)
        obtain ⟨g9, eg9, h⟩ := nm_x h
        have hP : va_P D vwCl [(a_h, .inr (8, [.ref a_h_d, .long v_account, .ref a_h_was, .ref a_h_accounts, .int m_states, .int v_refused, .ref a_h_text, .int v_typed, .int v_at, .int v_sign, .int v_number, .ref a_h_aside, .ref a_h_places, .ref a_h_told])), (a_h_d, .inl (cI, 2086, .inl v_d_A)), (a_h_was, .inl (cI, 10430, .inl g9)), (a_h_accounts, .inl (cJ, 5, .inr (.inl m_accounts_A)))] H := by rw [eg9]; exact hP
        have hD : va_D A [(a_h, .inr (8, [.ref a_h_d, .long v_account, .ref a_h_was, .ref a_h_accounts, .int m_states, .int v_refused, .ref a_h_text, .int v_typed, .int v_at, .int v_sign, .int v_number, .ref a_h_aside, .ref a_h_places, .ref a_h_told])), (a_h_d, .inl (cI, 2086, .inl v_d_A)), (a_h_was, .inl (cI, 10430, .inl g9)), (a_h_accounts, .inl (cJ, 5, .inr (.inl m_accounts_A)))] := by rw [eg9]; exact hD
        obtain ⟨t10, et10, h⟩ := nm_x h
        refine lv_iinc (v := t10) (lv' := [(1, .int t10), (0, .ref a_h)]) hx hb dX8_records_106 hl (k := 1) rfl (by rw [et10]; rfl) (by decide) rfl (fun ls hl => ?_)
        refine lv_goto (tgt := 78) hx hb dX8_records_109 (by decide) ?_
        exact ih t10 m_states g9 m_accounts_A _ _ _ h hP hD hS (lv_sub hl [1, 0] rfl)
  have B41 : ∀ (k : Nat) (x1 : Int32) (m_states : Int32) (m_was_A : Nat → Int32) (m_accounts_A : Nat → Int64) (H : Heap) (locs : List Loc) (ls : Array Slot), f_X8_records_b41 N v_account v_d_A m_states m_was_A k x1 m_accounts_A = some u → va_P D vwCl [(a_h, .inr (8, [.ref a_h_d, .long v_account, .ref a_h_was, .ref a_h_accounts, .int m_states, .int v_refused, .ref a_h_text, .int v_typed, .int v_at, .int v_sign, .int v_number, .ref a_h_aside, .ref a_h_places, .ref a_h_told])), (a_h_d, .inl (cI, 2086, .inl v_d_A)), (a_h_was, .inl (cI, 10430, .inl m_was_A)), (a_h_accounts, .inl (cJ, 5, .inr (.inl m_accounts_A)))] H → va_D A [(a_h, .inr (8, [.ref a_h_d, .long v_account, .ref a_h_was, .ref a_h_accounts, .int m_states, .int v_refused, .ref a_h_text, .int v_typed, .int v_at, .int v_sign, .int v_number, .ref a_h_aside, .ref a_h_places, .ref a_h_told])), (a_h_d, .inl (cI, 2086, .inl v_d_A)), (a_h_was, .inl (cI, 10430, .inl m_was_A)), (a_h_accounts, .inl (cJ, 5, .inr (.inl m_accounts_A)))] → va_S A s.heap H locs → lv_has ls 2 [(0, .ref a_h), (1, .int x1)] → W p l e ({ frames := 0, cells := 0, slots := 0, locals := 0 } : Room) s m ([.ref a_h] : List Value).toArray below meth c H locs 0 0 (MQ below (QV D (ty4 cI cC cJ cB) A [(a_h, .inr (8, [.ref a_h_d, .long v_account, .ref a_h_was, .ref a_h_accounts, .int u.1, .int v_refused, .ref a_h_text, .int v_typed, .int v_at, .int v_sign, .int v_number, .ref a_h_aside, .ref a_h_places, .ref a_h_told])), (a_h_d, .inl (cI, 2086, .inl v_d_A)), (a_h_was, .inl (cI, 10430, .inl u.2.1)), (a_h_accounts, .inl (cJ, 5, .inr (.inl u.2.2)))]) ([.ref a_h] : List Value).toArray s 0 0 A) (F0 m 41 ls []) := by
    intro k
    induction k with
    | zero =>
      intro x1 m_states m_was_A m_accounts_A H locs ls h
      exact nomatch (show (none : Option (Int32 × (Nat → Int32) × (Nat → Int64))) = some u from h)
    | succ k ih =>
      intro x1 m_states m_was_A m_accounts_A H locs ls h hP hD hS hl
      rw [f_X8_records_b41.eq_2] at h
      refine lv_iload_n hx hb dX8_records_41 rfl (lv_at hl 1 rfl) ?_
      refine lv_iconst (v := (4 : Int32)) hx hb dX8_records_42 (by decide) ?_
      refine lv_icmp_ge (tgt := 66) hx hb dX8_records_43 (by decide) (fun hc12 => ?_) (fun hc12 => ?_)
      · replace h := it_e hc12 h
        refine lv_aload_n hx hb dX8_records_66 rfl (lv_at hl 0 rfl) ?_
        refine lv_dup hx hb dX8_records_67 rfl ?_
        refine va_get (D := D) (ci := 8) (v := .int m_states) (C := RX8) (T := TX8) (N := 14) hx hb hts in_X8_records_X8 hown hK hP 0 rfl rfl 4 (by decide) (hts _ q_X8_records_1) (fun _ h9 => h9) rfl dX8_records_68 ?_
        refine lv_iconst (v := (1 : Int32)) hx hb dX8_records_71 (by decide) ?_
        refine lv_isub hx hb dX8_records_72 ?_
        refine lv_topi (fun t13 et13 => ?_)
        replace h := nm_at h et13
        refine va_put (D := D) (ci := 8) (v := .int t13) (ty := .int) (C := RX8) (T := TX8) (N := 14) hx hb hts in_X8_records_X8 tyX8 tyX8_ok nmX8 hown hK hP hD hS 0 rfl rfl 4 (by decide) (hts _ q_X8_records_1) (fun _ h9 => h9) rfl (by decide +kernel) rfl rfl (Nat.le_of_ble_eq_true rfl) dX8_records_73 (fun H locs hP hD hS => ?_)
        have hP : va_P D vwCl [(a_h, .inr (8, [.ref a_h_d, .long v_account, .ref a_h_was, .ref a_h_accounts, .int t13, .int v_refused, .ref a_h_text, .int v_typed, .int v_at, .int v_sign, .int v_number, .ref a_h_aside, .ref a_h_places, .ref a_h_told])), (a_h_d, .inl (cI, 2086, .inl v_d_A)), (a_h_was, .inl (cI, 10430, .inl m_was_A)), (a_h_accounts, .inl (cJ, 5, .inr (.inl m_accounts_A)))] H := hP
        have hD : va_D A [(a_h, .inr (8, [.ref a_h_d, .long v_account, .ref a_h_was, .ref a_h_accounts, .int t13, .int v_refused, .ref a_h_text, .int v_typed, .int v_at, .int v_sign, .int v_number, .ref a_h_aside, .ref a_h_places, .ref a_h_told])), (a_h_d, .inl (cI, 2086, .inl v_d_A)), (a_h_was, .inl (cI, 10430, .inl m_was_A)), (a_h_accounts, .inl (cJ, 5, .inr (.inl m_accounts_A)))] := hD
        refine lv_iconst (v := (0 : Int32)) hx hb dX8_records_76 (by decide) ?_
        refine lv_istore_n (lv' := [(1, .int (0 : Int32)), (0, .ref a_h)]) hx hb dX8_records_77 rfl hl (by decide) rfl (fun ls hl => ?_)
        exact B78 N (0 : Int32) t13 m_was_A m_accounts_A _ _ _ h hP hD hS (lv_sub hl [1, 0] rfl)
      · replace h := if_e hc12 h
        refine lv_aload_n hx hb dX8_records_46 rfl (lv_at hl 0 rfl) ?_
        refine va_get (D := D) (ci := 8) (v := .ref a_h_accounts) (C := RX8) (T := TX8) (N := 14) hx hb hts in_X8_records_X8 hown hK hP 0 rfl rfl 3 (by decide) (hts _ q_X8_records_3) (fun _ h9 => h9) rfl dX8_records_47 ?_
        refine lv_iload_n hx hb dX8_records_50 rfl (lv_at hl 1 rfl) ?_
        refine lv_aload_n hx hb dX8_records_51 rfl (lv_at hl 0 rfl) ?_
        refine va_get (D := D) (ci := 8) (v := .ref a_h_accounts) (C := RX8) (T := TX8) (N := 14) hx hb hts in_X8_records_X8 hown hK hP 0 rfl rfl 3 (by decide) (hts _ q_X8_records_3) (fun _ h9 => h9) rfl dX8_records_52 ?_
        refine lv_iload_n hx hb dX8_records_55 rfl (lv_at hl 1 rfl) ?_
        refine lv_iconst (v := (1 : Int32)) hx hb dX8_records_56 (by decide) ?_
        refine lv_iadd hx hb dX8_records_57 ?_
        obtain ⟨hi14, h⟩ := gA_e h
        refine va_lald hx hb hK hP 3 2 rfl rfl hi14 dX8_records_58 ?_
        refine lv_topl (fun t15 et15 => ?_)
        replace h := nm_at h et15
        obtain ⟨hi16, h⟩ := gA_e h
        refine va_last hx hb hK hP hD hS 3 2 rfl rfl hi16 dX8_records_59 (fun H locs hP hD hS => ?_)
        obtain ⟨g17, eg17, h⟩ := nm_x h
        have hP : va_P D vwCl [(a_h, .inr (8, [.ref a_h_d, .long v_account, .ref a_h_was, .ref a_h_accounts, .int m_states, .int v_refused, .ref a_h_text, .int v_typed, .int v_at, .int v_sign, .int v_number, .ref a_h_aside, .ref a_h_places, .ref a_h_told])), (a_h_d, .inl (cI, 2086, .inl v_d_A)), (a_h_was, .inl (cI, 10430, .inl m_was_A)), (a_h_accounts, .inl (cJ, 5, .inr (.inl g17)))] H := by rw [eg17]; exact hP
        have hD : va_D A [(a_h, .inr (8, [.ref a_h_d, .long v_account, .ref a_h_was, .ref a_h_accounts, .int m_states, .int v_refused, .ref a_h_text, .int v_typed, .int v_at, .int v_sign, .int v_number, .ref a_h_aside, .ref a_h_places, .ref a_h_told])), (a_h_d, .inl (cI, 2086, .inl v_d_A)), (a_h_was, .inl (cI, 10430, .inl m_was_A)), (a_h_accounts, .inl (cJ, 5, .inr (.inl g17)))] := by rw [eg17]; exact hD
        obtain ⟨t18, et18, h⟩ := nm_x h
        refine lv_iinc (v := t18) (lv' := [(1, .int t18), (0, .ref a_h)]) hx hb dX8_records_60 hl (k := 1) rfl (by rw [et18]; rfl) (by decide) rfl (fun ls hl => ?_)
        refine lv_goto (tgt := 41) hx hb dX8_records_63 (by decide) ?_
        exact ih t18 m_states m_was_A g17 _ _ _ h hP hD hS (lv_sub hl [1, 0] rfl)
  have B10 : ∀ (k : Nat) (x1 : Int32) (m_states : Int32) (m_was_A : Nat → Int32) (m_accounts_A : Nat → Int64) (H : Heap) (locs : List Loc) (ls : Array Slot), f_X8_records_b10 N v_account v_d_A m_states m_accounts_A k x1 m_was_A = some u → va_P D vwCl [(a_h, .inr (8, [.ref a_h_d, .long v_account, .ref a_h_was, .ref a_h_accounts, .int m_states, .int v_refused, .ref a_h_text, .int v_typed, .int v_at, .int v_sign, .int v_number, .ref a_h_aside, .ref a_h_places, .ref a_h_told])), (a_h_d, .inl (cI, 2086, .inl v_d_A)), (a_h_was, .inl (cI, 10430, .inl m_was_A)), (a_h_accounts, .inl (cJ, 5, .inr (.inl m_accounts_A)))] H → va_D A [(a_h, .inr (8, [.ref a_h_d, .long v_account, .ref a_h_was, .ref a_h_accounts, .int m_states, .int v_refused, .ref a_h_text, .int v_typed, .int v_at, .int v_sign, .int v_number, .ref a_h_aside, .ref a_h_places, .ref a_h_told])), (a_h_d, .inl (cI, 2086, .inl v_d_A)), (a_h_was, .inl (cI, 10430, .inl m_was_A)), (a_h_accounts, .inl (cJ, 5, .inr (.inl m_accounts_A)))] → va_S A s.heap H locs → lv_has ls 2 [(0, .ref a_h), (1, .int x1)] → W p l e ({ frames := 0, cells := 0, slots := 0, locals := 0 } : Room) s m ([.ref a_h] : List Value).toArray below meth c H locs 0 0 (MQ below (QV D (ty4 cI cC cJ cB) A [(a_h, .inr (8, [.ref a_h_d, .long v_account, .ref a_h_was, .ref a_h_accounts, .int u.1, .int v_refused, .ref a_h_text, .int v_typed, .int v_at, .int v_sign, .int v_number, .ref a_h_aside, .ref a_h_places, .ref a_h_told])), (a_h_d, .inl (cI, 2086, .inl v_d_A)), (a_h_was, .inl (cI, 10430, .inl u.2.1)), (a_h_accounts, .inl (cJ, 5, .inr (.inl u.2.2)))]) ([.ref a_h] : List Value).toArray s 0 0 A) (F0 m 10 ls []) := by
    intro k
    induction k with
    | zero =>
      intro x1 m_states m_was_A m_accounts_A H locs ls h
      exact nomatch (show (none : Option (Int32 × (Nat → Int32) × (Nat → Int64))) = some u from h)
    | succ k ih =>
      intro x1 m_states m_was_A m_accounts_A H locs ls h hP hD hS hl
      rw [f_X8_records_b10.eq_2] at h
      refine lv_iload_n hx hb dX8_records_10 rfl (lv_at hl 1 rfl) ?_
      refine lv_sipush (v := (8344 : Int32)) hx hb dX8_records_11 (by decide) ?_
      refine lv_icmp_ge (tgt := 39) hx hb dX8_records_14 (by decide) (fun hc11 => ?_) (fun hc11 => ?_)
      · replace h := it_e hc11 h
        refine lv_iconst (v := (0 : Int32)) hx hb dX8_records_39 (by decide) ?_
        refine lv_istore_n (lv' := [(1, .int (0 : Int32)), (0, .ref a_h)]) hx hb dX8_records_40 rfl hl (by decide) rfl (fun ls hl => ?_)
        exact B41 N (0 : Int32) m_states m_was_A m_accounts_A _ _ _ h hP hD hS (lv_sub hl [1, 0] rfl)
      · replace h := if_e hc11 h
        refine lv_aload_n hx hb dX8_records_17 rfl (lv_at hl 0 rfl) ?_
        refine va_get (D := D) (ci := 8) (v := .ref a_h_was) (C := RX8) (T := TX8) (N := 14) hx hb hts in_X8_records_X8 hown hK hP 0 rfl rfl 2 (by decide) (hts _ q_X8_records_2) (fun _ h9 => h9) rfl dX8_records_18 ?_
        refine lv_iload_n hx hb dX8_records_21 rfl (lv_at hl 1 rfl) ?_
        refine lv_aload_n hx hb dX8_records_22 rfl (lv_at hl 0 rfl) ?_
        refine va_get (D := D) (ci := 8) (v := .ref a_h_was) (C := RX8) (T := TX8) (N := 14) hx hb hts in_X8_records_X8 hown hK hP 0 rfl rfl 2 (by decide) (hts _ q_X8_records_2) (fun _ h9 => h9) rfl dX8_records_23 ?_
        refine lv_iload_n hx hb dX8_records_26 rfl (lv_at hl 1 rfl) ?_
        refine lv_sipush (v := (2086 : Int32)) hx hb dX8_records_27 (by decide) ?_
        refine lv_iadd hx hb dX8_records_30 ?_
        obtain ⟨hi19, h⟩ := gA_e h
        refine wx_iald hx hb hK hP 2 0 rfl rfl (Int32.toNatClampNeg (x1 + (2086 : Int32))) rfl hi19 dX8_records_31 ?_
        refine lv_topi (fun t20 et20 => ?_)
        replace h := nm_at h et20
        obtain ⟨hi21, h⟩ := gA_e h
        refine wx_iast hx hb hK hP hD hS 2 0 rfl rfl (Int32.toNatClampNeg x1) rfl hi21 dX8_records_32 rfl (fun H locs hP hD hS => ?_)
        obtain ⟨g22, eg22, h⟩ := nm_x h
        have hP : va_P D vwCl [(a_h, .inr (8, [.ref a_h_d, .long v_account, .ref a_h_was, .ref a_h_accounts, .int m_states, .int v_refused, .ref a_h_text, .int v_typed, .int v_at, .int v_sign, .int v_number, .ref a_h_aside, .ref a_h_places, .ref a_h_told])), (a_h_d, .inl (cI, 2086, .inl v_d_A)), (a_h_was, .inl (cI, 10430, .inl g22)), (a_h_accounts, .inl (cJ, 5, .inr (.inl m_accounts_A)))] H := by rw [eg22]; exact hP
        have hD : va_D A [(a_h, .inr (8, [.ref a_h_d, .long v_account, .ref a_h_was, .ref a_h_accounts, .int m_states, .int v_refused, .ref a_h_text, .int v_typed, .int v_at, .int v_sign, .int v_number, .ref a_h_aside, .ref a_h_places, .ref a_h_told])), (a_h_d, .inl (cI, 2086, .inl v_d_A)), (a_h_was, .inl (cI, 10430, .inl g22)), (a_h_accounts, .inl (cJ, 5, .inr (.inl m_accounts_A)))] := by rw [eg22]; exact hD
        obtain ⟨t23, et23, h⟩ := nm_x h
        refine lv_iinc (v := t23) (lv' := [(1, .int t23), (0, .ref a_h)]) hx hb dX8_records_33 hl (k := 1) rfl (by rw [et23]; rfl) (by decide) rfl (fun ls hl => ?_)
        refine lv_goto (tgt := 10) hx hb dX8_records_36 (by decide) ?_
        exact ih t23 m_states g22 m_accounts_A _ _ _ h hP hD hS (lv_sub hl [1, 0] rfl)
  refine lv_aload_n hx hb dX8_records_0 rfl (lv_at hl 0 rfl) ?_
  refine va_get (D := D) (ci := 8) (v := .int v_states) (C := RX8) (T := TX8) (N := 14) hx hb hts in_X8_records_X8 hown hK hP 0 rfl rfl 4 (by decide) (hts _ q_X8_records_1) (fun _ h9 => h9) rfl dX8_records_1 ?_
  refine lv_iconst (v := (5 : Int32)) hx hb dX8_records_4 (by decide) ?_
  refine lv_icmp_ne (tgt := 76) hx hb dX8_records_5 (by decide) (fun hc1 => ?_) (fun hc1 => ?_)
  · replace h := it_e hc1 h
    refine lv_iconst (v := (0 : Int32)) hx hb dX8_records_76 (by decide) ?_
    refine lv_istore_n (lv' := [(1, .int (0 : Int32)), (0, .ref a_h)]) hx hb dX8_records_77 rfl hl (by decide) rfl (fun ls hl => ?_)
    exact B78 N (0 : Int32) v_states v_was_A v_accounts_A _ _ _ h hP hD hS (lv_sub hl [1, 0] rfl)
  · replace h := in_e hc1 h
    refine lv_iconst (v := (0 : Int32)) hx hb dX8_records_8 (by decide) ?_
    refine lv_istore_n (lv' := [(1, .int (0 : Int32)), (0, .ref a_h)]) hx hb dX8_records_9 rfl hl (by decide) rfl (fun ls hl => ?_)
    exact B10 N (0 : Int32) v_states v_was_A v_accounts_A _ _ _ h hP hD hS (lv_sub hl [1, 0] rfl)
-- X8_curveAt
def f_X8_curveAt_b38 (v_d_A : Nat → Int32) (p0 : Int32) (p1 : Int32) (x3 : Int32) : Option (Int32) :=
  gA ((10 : Int32) + x3) 2086 (nm (p1 * (v_d_A (Int32.toNatClampNeg ((10 : Int32) + x3)))) (fun t3 => gA ((18 : Int32) + x3) 2086 (nm (p1 * (v_d_A (Int32.toNatClampNeg ((18 : Int32) + x3)))) (fun t5 => gA (((18 : Int32) + x3) + (1 : Int32)) 2086 (nm (Int32.toInt64 ((p1 * (v_d_A (Int32.toNatClampNeg (((18 : Int32) + x3) + (1 : Int32))))) - t5)) (fun t7 => gA (((10 : Int32) + x3) + (1 : Int32)) 2086 (Option.bind (f_X8_down (t7 * (Int32.toInt64 (p0 - t3))) (Int32.toInt64 ((p1 * (v_d_A (Int32.toNatClampNeg (((10 : Int32) + x3) + (1 : Int32))))) - t3))) (fun u9 => some (t5 + u9)))))))))
def f_X8_curveAt_b2 (v_d_A : Nat → Int32) (p0 : Int32) (p1 : Int32) : Nat → Int32 → Option (Int32)
  | 0, _ => none
  | k + 1, x3 =>
    (if (v_d_A 9) ≤ (x3 + (2 : Int32)) then (f_X8_curveAt_b38 v_d_A p0 p1 x3 )
    else gA (((10 : Int32) + x3) + (1 : Int32)) 2086 ((if p0 < (p1 * (v_d_A (Int32.toNatClampNeg (((10 : Int32) + x3) + (1 : Int32))))) then (f_X8_curveAt_b38 v_d_A p0 p1 x3 )
    else nm (x3 + (1 : Int32)) (fun t12 => (f_X8_curveAt_b2 v_d_A p0 p1 k t12)))))
def f_X8_curveAt (N : Nat) (v_d_A : Nat → Int32) (p0 : Int32) (p1 : Int32) : Option (Int32) :=
  (f_X8_curveAt_b2 v_d_A p0 p1 N (0 : Int32))
theorem q_X8_curveAt_1 : (.fieldLink RX8 7 "SpringBalanceModel" "d" "[I" : Cond) ∈ wsX8_curveAt := List.mem_of_getElem? (i := 1) (by decide +kernel)
set_option maxRecDepth 20000 in
theorem in_X8_curveAt_X8 : ∀ w ∈ u_ws RX8 TX8 14, w ∈ wsX8_curveAt := by decide +kernel
set_option maxHeartbeats 8000000 in
set_option maxRecDepth 100000 in
theorem k_X8_curveAt (l : Launch) (D : va_G) (cI cC cJ cB : ClassId) (a_h a_h_d a_h_was a_h_accounts a_h_text a_h_aside a_h_places a_h_told : Nat) (v_account : Int64) (v_states : Int32) (v_refused : Int32) (v_typed : Int32) (v_at : Int32) (v_sign : Int32) (v_number : Int32) (v_d_A : Nat → Int32) (N : Nat) (p0 : Int32) (p1 : Int32) (sz : Nat) (u : Int32) (hu : f_X8_curveAt N v_d_A p0 p1 = some u) :
    Met l yX8_curveAt wsX8_curveAt ({ frames := 1, cells := 0, slots := 0, locals := 25 } : Room) (va_Pc [.ref a_h, .int p0, .int p1] (PreW D (ty4 cI cC cJ cB) sz [(a_h, .inr (8, [.ref a_h_d, .long v_account, .ref a_h_was, .ref a_h_accounts, .int v_states, .int v_refused, .ref a_h_text, .int v_typed, .int v_at, .int v_sign, .int v_number, .ref a_h_aside, .ref a_h_places, .ref a_h_told])), (a_h_d, .inl (cI, 2086, .inl v_d_A))]))
      (QI D (ty4 cI cC cJ cB) (va_A [(a_h, .inr (8, [.ref a_h_d, .long v_account, .ref a_h_was, .ref a_h_accounts, .int v_states, .int v_refused, .ref a_h_text, .int v_typed, .int v_at, .int v_sign, .int v_number, .ref a_h_aside, .ref a_h_places, .ref a_h_told])), (a_h_d, .inl (cI, 2086, .inl v_d_A))] sz) [(a_h, .inr (8, [.ref a_h_d, .long v_account, .ref a_h_was, .ref a_h_accounts, .int v_states, .int v_refused, .ref a_h_text, .int v_typed, .int v_at, .int v_sign, .int v_number, .ref a_h_aside, .ref a_h_places, .ref a_h_told])), (a_h_d, .inl (cI, 2086, .inl v_d_A))] u) 0 0 (va_A [(a_h, .inr (8, [.ref a_h_d, .long v_account, .ref a_h_was, .ref a_h_accounts, .int v_states, .int v_refused, .ref a_h_text, .int v_typed, .int v_at, .int v_sign, .int v_number, .ref a_h_aside, .ref a_h_places, .ref a_h_told])), (a_h_d, .inl (cI, 2086, .inl v_d_A))] sz) := by
  refine met_go (y := yX8_curveAt) (wsy := wsX8_curveAt) (cc := cX8_curveAt) (maxL := 8) (ret := (some .int)) (av := [.ref a_h, .int p0, .int p1]) (Qc := fun A => QI D (ty4 cI cC cJ cB) A [(a_h, .inr (8, [.ref a_h_d, .long v_account, .ref a_h_was, .ref a_h_accounts, .int v_states, .int v_refused, .ref a_h_text, .int v_typed, .int v_at, .int v_sign, .int v_number, .ref a_h_aside, .ref a_h_places, .ref a_h_told])), (a_h_d, .inl (cI, 2086, .inl v_d_A))] u) (by decide) rfl (Nat.le_of_ble_eq_true rfl) ?_
  intro p e s m below meth c A ls hx hb hr hml hown hts hlocks hnm hN hK hP hD hS hA hl
  have h := hu
  clear hu
  unfold f_X8_curveAt at h
  have hl : lv_has ls 8 [(0, .ref a_h), (1, .int p0), (2, .int p1)] := hl
  have B38 : ∀ (x3 : Int32) (H : Heap) (locs : List Loc) (ls : Array Slot), f_X8_curveAt_b38 v_d_A p0 p1 x3  = some u → va_P D vwCl [(a_h, .inr (8, [.ref a_h_d, .long v_account, .ref a_h_was, .ref a_h_accounts, .int v_states, .int v_refused, .ref a_h_text, .int v_typed, .int v_at, .int v_sign, .int v_number, .ref a_h_aside, .ref a_h_places, .ref a_h_told])), (a_h_d, .inl (cI, 2086, .inl v_d_A))] H → va_D A [(a_h, .inr (8, [.ref a_h_d, .long v_account, .ref a_h_was, .ref a_h_accounts, .int v_states, .int v_refused, .ref a_h_text, .int v_typed, .int v_at, .int v_sign, .int v_number, .ref a_h_aside, .ref a_h_places, .ref a_h_told])), (a_h_d, .inl (cI, 2086, .inl v_d_A))] → va_S A s.heap H locs → lv_has ls 8 [(0, .ref a_h), (1, .int p0), (2, .int p1), (3, .int x3)] → W p l e ({ frames := 1, cells := 0, slots := 0, locals := 25 } : Room) s m ([.ref a_h, .int p0, .int p1] : List Value).toArray below meth c H locs 0 0 (MQ below (QI D (ty4 cI cC cJ cB) A [(a_h, .inr (8, [.ref a_h_d, .long v_account, .ref a_h_was, .ref a_h_accounts, .int v_states, .int v_refused, .ref a_h_text, .int v_typed, .int v_at, .int v_sign, .int v_number, .ref a_h_aside, .ref a_h_places, .ref a_h_told])), (a_h_d, .inl (cI, 2086, .inl v_d_A))] u) ([.ref a_h, .int p0, .int p1] : List Value).toArray s 0 0 A) (F0 m 38 ls []) := by
    intro x3 H locs ls h hP hD hS hl
    unfold f_X8_curveAt_b38 at h
    refine lv_iload_n hx hb dX8_curveAt_38 rfl (lv_at hl 2 rfl) ?_
    refine lv_aload_n hx hb dX8_curveAt_39 rfl (lv_at hl 0 rfl) ?_
    refine va_get (D := D) (ci := 8) (v := .ref a_h_d) (C := RX8) (T := TX8) (N := 14) hx hb hts in_X8_curveAt_X8 hown hK hP 0 rfl rfl 0 (by decide) (hts _ q_X8_curveAt_1) (fun _ h9 => h9) rfl dX8_curveAt_40 ?_
    refine lv_bipush (v := (10 : Int32)) hx hb dX8_curveAt_43 (by decide) ?_
    refine lv_iload_n hx hb dX8_curveAt_45 rfl (lv_at hl 3 rfl) ?_
    refine lv_iadd hx hb dX8_curveAt_46 ?_
    obtain ⟨hi2, h⟩ := gA_e h
    refine wx_iald hx hb hK hP 1 0 rfl rfl (Int32.toNatClampNeg ((10 : Int32) + x3)) rfl hi2 dX8_curveAt_47 ?_
    refine lv_imul hx hb dX8_curveAt_48 ?_
    refine lv_topi (fun t3 et3 => ?_)
    replace h := nm_at h et3
    refine lv_istore (lv' := [(4, .int t3), (0, .ref a_h), (1, .int p0), (2, .int p1), (3, .int x3)]) hx hb dX8_curveAt_49 hl (by decide) rfl (fun ls hl => ?_)
    refine lv_iload_n hx hb dX8_curveAt_51 rfl (lv_at hl 3 rfl) ?_
    refine lv_aload_n hx hb dX8_curveAt_52 rfl (lv_at hl 1 rfl) ?_
    refine va_get (D := D) (ci := 8) (v := .ref a_h_d) (C := RX8) (T := TX8) (N := 14) hx hb hts in_X8_curveAt_X8 hown hK hP 0 rfl rfl 0 (by decide) (hts _ q_X8_curveAt_1) (fun _ h9 => h9) rfl dX8_curveAt_53 ?_
    refine lv_bipush (v := (18 : Int32)) hx hb dX8_curveAt_56 (by decide) ?_
    refine lv_iload_n hx hb dX8_curveAt_58 rfl (lv_at hl 4 rfl) ?_
    refine lv_iadd hx hb dX8_curveAt_59 ?_
    obtain ⟨hi4, h⟩ := gA_e h
    refine wx_iald hx hb hK hP 1 0 rfl rfl (Int32.toNatClampNeg ((18 : Int32) + x3)) rfl hi4 dX8_curveAt_60 ?_
    refine lv_imul hx hb dX8_curveAt_61 ?_
    refine lv_topi (fun t5 et5 => ?_)
    replace h := nm_at h et5
    refine lv_istore (lv' := [(5, .int t5), (4, .int t3), (0, .ref a_h), (1, .int p0), (2, .int p1), (3, .int x3)]) hx hb dX8_curveAt_62 hl (by decide) rfl (fun ls hl => ?_)
    refine lv_iload_n hx hb dX8_curveAt_64 rfl (lv_at hl 4 rfl) ?_
    refine lv_aload_n hx hb dX8_curveAt_65 rfl (lv_at hl 2 rfl) ?_
    refine va_get (D := D) (ci := 8) (v := .ref a_h_d) (C := RX8) (T := TX8) (N := 14) hx hb hts in_X8_curveAt_X8 hown hK hP 0 rfl rfl 0 (by decide) (hts _ q_X8_curveAt_1) (fun _ h9 => h9) rfl dX8_curveAt_66 ?_
    refine lv_bipush (v := (18 : Int32)) hx hb dX8_curveAt_69 (by decide) ?_
    refine lv_iload_n hx hb dX8_curveAt_71 rfl (lv_at hl 5 rfl) ?_
    refine lv_iadd hx hb dX8_curveAt_72 ?_
    refine lv_iconst (v := (1 : Int32)) hx hb dX8_curveAt_73 (by decide) ?_
    refine lv_iadd hx hb dX8_curveAt_74 ?_
    obtain ⟨hi6, h⟩ := gA_e h
    refine wx_iald hx hb hK hP 1 0 rfl rfl (Int32.toNatClampNeg (((18 : Int32) + x3) + (1 : Int32))) rfl hi6 dX8_curveAt_75 ?_
    refine lv_imul hx hb dX8_curveAt_76 ?_
    refine lv_iload hx hb dX8_curveAt_77 (lv_at hl 0 rfl) ?_
    refine lv_isub hx hb dX8_curveAt_79 ?_
    refine lv_i2l (v := (Int32.toInt64 ((p1 * (v_d_A (Int32.toNatClampNeg (((18 : Int32) + x3) + (1 : Int32))))) - t5))) hx hb dX8_curveAt_80 rfl ?_
    refine lv_topl (fun t7 et7 => ?_)
    replace h := nm_at h et7
    refine lv_lstore (lv' := [(6, .long t7), (5, .int t5), (4, .int t3), (0, .ref a_h), (1, .int p0), (2, .int p1), (3, .int x3)]) hx hb dX8_curveAt_81 hl (by decide) rfl (fun ls hl => ?_)
    refine lv_iload hx hb dX8_curveAt_83 (lv_at hl 1 rfl) ?_
    refine lv_lload hx hb dX8_curveAt_85 (lv_at hl 0 rfl) ?_
    refine lv_iload_n hx hb dX8_curveAt_87 rfl (lv_at hl 4 rfl) ?_
    refine lv_iload hx hb dX8_curveAt_88 (lv_at hl 2 rfl) ?_
    refine lv_isub hx hb dX8_curveAt_90 ?_
    refine lv_i2l (v := (Int32.toInt64 (p0 - t3))) hx hb dX8_curveAt_91 rfl ?_
    refine lv_lmul hx hb dX8_curveAt_92 ?_
    refine lv_iload_n hx hb dX8_curveAt_93 rfl (lv_at hl 5 rfl) ?_
    refine lv_aload_n hx hb dX8_curveAt_94 rfl (lv_at hl 3 rfl) ?_
    refine va_get (D := D) (ci := 8) (v := .ref a_h_d) (C := RX8) (T := TX8) (N := 14) hx hb hts in_X8_curveAt_X8 hown hK hP 0 rfl rfl 0 (by decide) (hts _ q_X8_curveAt_1) (fun _ h9 => h9) rfl dX8_curveAt_95 ?_
    refine lv_bipush (v := (10 : Int32)) hx hb dX8_curveAt_98 (by decide) ?_
    refine lv_iload_n hx hb dX8_curveAt_100 rfl (lv_at hl 6 rfl) ?_
    refine lv_iadd hx hb dX8_curveAt_101 ?_
    refine lv_iconst (v := (1 : Int32)) hx hb dX8_curveAt_102 (by decide) ?_
    refine lv_iadd hx hb dX8_curveAt_103 ?_
    obtain ⟨hi8, h⟩ := gA_e h
    refine wx_iald hx hb hK hP 1 0 rfl rfl (Int32.toNatClampNeg (((10 : Int32) + x3) + (1 : Int32))) rfl hi8 dX8_curveAt_104 ?_
    refine lv_imul hx hb dX8_curveAt_105 ?_
    refine lv_iload hx hb dX8_curveAt_106 (lv_at hl 2 rfl) ?_
    refine lv_isub hx hb dX8_curveAt_108 ?_
    refine lv_i2l (v := (Int32.toInt64 ((p1 * (v_d_A (Int32.toNatClampNeg (((10 : Int32) + x3) + (1 : Int32))))) - t3))) hx hb dX8_curveAt_109 rfl ?_
    obtain ⟨u9, hu9, h⟩ := bd_e h
    refine kx_i (mc := 0) (ms := 0) (wr := [(a_h, .inr (8, [.ref a_h_d, .long v_account, .ref a_h_was, .ref a_h_accounts, .int v_states, .int v_refused, .ref a_h_text, .int v_typed, .int v_at, .int v_sign, .int v_number, .ref a_h_aside, .ref a_h_places, .ref a_h_told])), (a_h_d, .inl (cI, 2086, .inl v_d_A))]) (ws2 := [(a_h, .inr (8, [.ref a_h_d, .long v_account, .ref a_h_was, .ref a_h_accounts, .int v_states, .int v_refused, .ref a_h_text, .int v_typed, .int v_at, .int v_sign, .int v_number, .ref a_h_aside, .ref a_h_places, .ref a_h_told])), (a_h_d, .inl (cI, 2086, .inl v_d_A))]) (va_runS (As := [.long (t7 * (Int32.toInt64 (p0 - t3))), .long (Int32.toInt64 ((p1 * (v_d_A (Int32.toNatClampNeg (((10 : Int32) + x3) + (1 : Int32))))) - t3))]) (rest := [.int t5]) ⟨hx, hb, hml, hown, hts⟩ (k_X8_down l D cI cC cJ cB N (t7 * (Int32.toInt64 (p0 - t3))) (Int32.toInt64 ((p1 * (v_d_A (Int32.toNatClampNeg (((10 : Int32) + x3) + (1 : Int32))))) - t3)) H.size _ hu9) (va_cwS 2 hts gX8_curveAt_X8_down rfl rfl rfl (by decide +kernel) ⟨Nat.le_of_ble_eq_true rfl, Nat.le_of_ble_eq_true rfl⟩) (pv_S hP hD hK hN [] rfl rfl) rfl rfl hl.1 rfl (lv_room (Nat.le_of_ble_eq_true rfl)) dX8_curveAt_110 ⟨Nat.zero_le _, Nat.zero_le _⟩) hP hD hS hA [] [0, 1] [0, 1] rfl rfl rfl rfl rfl rfl (fun H locs hP hD hS => ?_)
    refine lv_iadd hx hb dX8_curveAt_113 ?_
    obtain rfl := sm_e h
    exact rx_i hx hb hr  hP hK hD hS dX8_curveAt_114 hlocks
  have B2 : ∀ (k : Nat) (x3 : Int32) (H : Heap) (locs : List Loc) (ls : Array Slot), f_X8_curveAt_b2 v_d_A p0 p1 k x3 = some u → va_P D vwCl [(a_h, .inr (8, [.ref a_h_d, .long v_account, .ref a_h_was, .ref a_h_accounts, .int v_states, .int v_refused, .ref a_h_text, .int v_typed, .int v_at, .int v_sign, .int v_number, .ref a_h_aside, .ref a_h_places, .ref a_h_told])), (a_h_d, .inl (cI, 2086, .inl v_d_A))] H → va_D A [(a_h, .inr (8, [.ref a_h_d, .long v_account, .ref a_h_was, .ref a_h_accounts, .int v_states, .int v_refused, .ref a_h_text, .int v_typed, .int v_at, .int v_sign, .int v_number, .ref a_h_aside, .ref a_h_places, .ref a_h_told])), (a_h_d, .inl (cI, 2086, .inl v_d_A))] → va_S A s.heap H locs → lv_has ls 8 [(0, .ref a_h), (1, .int p0), (2, .int p1), (3, .int x3)] → W p l e ({ frames := 1, cells := 0, slots := 0, locals := 25 } : Room) s m ([.ref a_h, .int p0, .int p1] : List Value).toArray below meth c H locs 0 0 (MQ below (QI D (ty4 cI cC cJ cB) A [(a_h, .inr (8, [.ref a_h_d, .long v_account, .ref a_h_was, .ref a_h_accounts, .int v_states, .int v_refused, .ref a_h_text, .int v_typed, .int v_at, .int v_sign, .int v_number, .ref a_h_aside, .ref a_h_places, .ref a_h_told])), (a_h_d, .inl (cI, 2086, .inl v_d_A))] u) ([.ref a_h, .int p0, .int p1] : List Value).toArray s 0 0 A) (F0 m 2 ls []) := by
    intro k
    induction k with
    | zero =>
      intro x3 H locs ls h
      exact nomatch (show (none : Option (Int32)) = some u from h)
    | succ k ih =>
      intro x3 H locs ls h hP hD hS hl
      rw [f_X8_curveAt_b2.eq_2] at h
      refine lv_iload_n hx hb dX8_curveAt_2 rfl (lv_at hl 3 rfl) ?_
      refine lv_iconst (v := (2 : Int32)) hx hb dX8_curveAt_3 (by decide) ?_
      refine lv_iadd hx hb dX8_curveAt_4 ?_
      refine lv_aload_n hx hb dX8_curveAt_5 rfl (lv_at hl 0 rfl) ?_
      refine va_get (D := D) (ci := 8) (v := .ref a_h_d) (C := RX8) (T := TX8) (N := 14) hx hb hts in_X8_curveAt_X8 hown hK hP 0 rfl rfl 0 (by decide) (hts _ q_X8_curveAt_1) (fun _ h9 => h9) rfl dX8_curveAt_6 ?_
      refine lv_bipush (v := (9 : Int32)) hx hb dX8_curveAt_9 (by decide) ?_
      refine wx_iald hx hb hK hP 1 0 rfl rfl 9 (by decide) (by unfold vp_in; decide) dX8_curveAt_11 ?_
      refine lv_icmp_ge (tgt := 38) hx hb dX8_curveAt_12 (by decide) (fun hc1 => ?_) (fun hc1 => ?_)
      · replace h := it_e hc1 h
        exact B38 x3 _ _ _ h hP hD hS hl
      · replace h := if_e hc1 h
        refine lv_iload_n hx hb dX8_curveAt_15 rfl (lv_at hl 2 rfl) ?_
        refine lv_aload_n hx hb dX8_curveAt_16 rfl (lv_at hl 0 rfl) ?_
        refine va_get (D := D) (ci := 8) (v := .ref a_h_d) (C := RX8) (T := TX8) (N := 14) hx hb hts in_X8_curveAt_X8 hown hK hP 0 rfl rfl 0 (by decide) (hts _ q_X8_curveAt_1) (fun _ h9 => h9) rfl dX8_curveAt_17 ?_
        refine lv_bipush (v := (10 : Int32)) hx hb dX8_curveAt_20 (by decide) ?_
        refine lv_iload_n hx hb dX8_curveAt_22 rfl (lv_at hl 3 rfl) ?_
        refine lv_iadd hx hb dX8_curveAt_23 ?_
        refine lv_iconst (v := (1 : Int32)) hx hb dX8_curveAt_24 (by decide) ?_
        refine lv_iadd hx hb dX8_curveAt_25 ?_
        obtain ⟨hi10, h⟩ := gA_e h
        refine wx_iald hx hb hK hP 1 0 rfl rfl (Int32.toNatClampNeg (((10 : Int32) + x3) + (1 : Int32))) rfl hi10 dX8_curveAt_26 ?_
        refine lv_imul hx hb dX8_curveAt_27 ?_
        refine lv_iload_n hx hb dX8_curveAt_28 rfl (lv_at hl 1 rfl) ?_
        refine lv_icmp_gt (tgt := 38) hx hb dX8_curveAt_29 (by decide) (fun hc11 => ?_) (fun hc11 => ?_)
        · replace h := it_e hc11 h
          exact B38 x3 _ _ _ h hP hD hS hl
        · replace h := if_e hc11 h
          obtain ⟨t12, et12, h⟩ := nm_x h
          refine lv_iinc (v := t12) (lv' := [(3, .int t12), (0, .ref a_h), (1, .int p0), (2, .int p1)]) hx hb dX8_curveAt_32 hl (k := 3) rfl (by rw [et12]; rfl) (by decide) rfl (fun ls hl => ?_)
          refine lv_goto (tgt := 2) hx hb dX8_curveAt_35 (by decide) ?_
          exact ih t12 _ _ _ h hP hD hS (lv_sub hl [1, 2, 3, 0] rfl)
  refine lv_iconst (v := (0 : Int32)) hx hb dX8_curveAt_0 (by decide) ?_
  refine lv_istore_n (lv' := [(3, .int (0 : Int32)), (0, .ref a_h), (1, .int p0), (2, .int p1)]) hx hb dX8_curveAt_1 rfl hl (by decide) rfl (fun ls hl => ?_)
  exact B2 N (0 : Int32) _ _ _ h hP hD hS (lv_sub hl [1, 2, 3, 0] rfl)
-- X8_follows
def f_X8_follows (v_d_A : Nat → Int32) : Option ((Nat → Int32)) :=
  nm ((v_d_A 1) + (v_d_A 2)) (fun t1 => (if t1 ≤ ((v_d_A 3) + (v_d_A 6)) then (if ((v_d_A 3) - (v_d_A 6)) ≤ t1 then some v_d_A
    else nm (t1 + (v_d_A 6)) (fun t4 => nm (upd v_d_A 3 t4) (fun g5 => some g5)))
    else nm (t1 - (v_d_A 6)) (fun t6 => nm (upd v_d_A 3 t6) (fun g7 => some g7))))
theorem q_X8_follows_1 : (.fieldLink RX8 7 "SpringBalanceModel" "d" "[I" : Cond) ∈ wsX8_follows := List.mem_of_getElem? (i := 1) (by decide +kernel)
set_option maxRecDepth 20000 in
theorem in_X8_follows_X8 : ∀ w ∈ u_ws RX8 TX8 14, w ∈ wsX8_follows := by decide +kernel
set_option maxHeartbeats 8000000 in
set_option maxRecDepth 100000 in
theorem k_X8_follows (l : Launch) (D : va_G) (cI cC cJ cB : ClassId) (a_h a_h_d a_h_was a_h_accounts a_h_text a_h_aside a_h_places a_h_told : Nat) (v_account : Int64) (v_states : Int32) (v_refused : Int32) (v_typed : Int32) (v_at : Int32) (v_sign : Int32) (v_number : Int32) (v_d_A : Nat → Int32) (N : Nat) (sz : Nat) (u : (Nat → Int32)) (hu : f_X8_follows v_d_A = some u) :
    Met l yX8_follows wsX8_follows ({ frames := 0, cells := 0, slots := 0, locals := 0 } : Room) (va_Pc [.ref a_h] (PreW D (ty4 cI cC cJ cB) sz [(a_h, .inr (8, [.ref a_h_d, .long v_account, .ref a_h_was, .ref a_h_accounts, .int v_states, .int v_refused, .ref a_h_text, .int v_typed, .int v_at, .int v_sign, .int v_number, .ref a_h_aside, .ref a_h_places, .ref a_h_told])), (a_h_d, .inl (cI, 2086, .inl v_d_A))]))
      (QV D (ty4 cI cC cJ cB) (va_A [(a_h, .inr (8, [.ref a_h_d, .long v_account, .ref a_h_was, .ref a_h_accounts, .int v_states, .int v_refused, .ref a_h_text, .int v_typed, .int v_at, .int v_sign, .int v_number, .ref a_h_aside, .ref a_h_places, .ref a_h_told])), (a_h_d, .inl (cI, 2086, .inl v_d_A))] sz) [(a_h, .inr (8, [.ref a_h_d, .long v_account, .ref a_h_was, .ref a_h_accounts, .int v_states, .int v_refused, .ref a_h_text, .int v_typed, .int v_at, .int v_sign, .int v_number, .ref a_h_aside, .ref a_h_places, .ref a_h_told])), (a_h_d, .inl (cI, 2086, .inl u))]) 0 0 (va_A [(a_h, .inr (8, [.ref a_h_d, .long v_account, .ref a_h_was, .ref a_h_accounts, .int v_states, .int v_refused, .ref a_h_text, .int v_typed, .int v_at, .int v_sign, .int v_number, .ref a_h_aside, .ref a_h_places, .ref a_h_told])), (a_h_d, .inl (cI, 2086, .inl v_d_A))] sz) := by
  refine met_go (y := yX8_follows) (wsy := wsX8_follows) (cc := cX8_follows) (maxL := 2) (ret := none) (av := [.ref a_h]) (Qc := fun A => QV D (ty4 cI cC cJ cB) A [(a_h, .inr (8, [.ref a_h_d, .long v_account, .ref a_h_was, .ref a_h_accounts, .int v_states, .int v_refused, .ref a_h_text, .int v_typed, .int v_at, .int v_sign, .int v_number, .ref a_h_aside, .ref a_h_places, .ref a_h_told])), (a_h_d, .inl (cI, 2086, .inl u))]) (by decide) rfl (Nat.le_of_ble_eq_true rfl) ?_
  intro p e s m below meth c A ls hx hb hr hml hown hts hlocks hnm hN hK hP hD hS hA hl
  have h := hu
  clear hu
  unfold f_X8_follows at h
  have hl : lv_has ls 2 [(0, .ref a_h)] := hl
  refine lv_aload_n hx hb dX8_follows_0 rfl (lv_at hl 0 rfl) ?_
  refine va_get (D := D) (ci := 8) (v := .ref a_h_d) (C := RX8) (T := TX8) (N := 14) hx hb hts in_X8_follows_X8 hown hK hP 0 rfl rfl 0 (by decide) (hts _ q_X8_follows_1) (fun _ h9 => h9) rfl dX8_follows_1 ?_
  refine lv_iconst (v := (1 : Int32)) hx hb dX8_follows_4 (by decide) ?_
  refine wx_iald hx hb hK hP 1 0 rfl rfl 1 (by decide) (by unfold vp_in; decide) dX8_follows_5 ?_
  refine lv_aload_n hx hb dX8_follows_6 rfl (lv_at hl 0 rfl) ?_
  refine va_get (D := D) (ci := 8) (v := .ref a_h_d) (C := RX8) (T := TX8) (N := 14) hx hb hts in_X8_follows_X8 hown hK hP 0 rfl rfl 0 (by decide) (hts _ q_X8_follows_1) (fun _ h9 => h9) rfl dX8_follows_7 ?_
  refine lv_iconst (v := (2 : Int32)) hx hb dX8_follows_10 (by decide) ?_
  refine wx_iald hx hb hK hP 1 0 rfl rfl 2 (by decide) (by unfold vp_in; decide) dX8_follows_11 ?_
  refine lv_iadd hx hb dX8_follows_12 ?_
  refine lv_topi (fun t1 et1 => ?_)
  replace h := nm_at h et1
  refine lv_istore_n (lv' := [(1, .int t1), (0, .ref a_h)]) hx hb dX8_follows_13 rfl hl (by decide) rfl (fun ls hl => ?_)
  refine lv_iload_n hx hb dX8_follows_14 rfl (lv_at hl 0 rfl) ?_
  refine lv_aload_n hx hb dX8_follows_15 rfl (lv_at hl 1 rfl) ?_
  refine va_get (D := D) (ci := 8) (v := .ref a_h_d) (C := RX8) (T := TX8) (N := 14) hx hb hts in_X8_follows_X8 hown hK hP 0 rfl rfl 0 (by decide) (hts _ q_X8_follows_1) (fun _ h9 => h9) rfl dX8_follows_16 ?_
  refine lv_iconst (v := (3 : Int32)) hx hb dX8_follows_19 (by decide) ?_
  refine wx_iald hx hb hK hP 1 0 rfl rfl 3 (by decide) (by unfold vp_in; decide) dX8_follows_20 ?_
  refine lv_aload_n hx hb dX8_follows_21 rfl (lv_at hl 1 rfl) ?_
  refine va_get (D := D) (ci := 8) (v := .ref a_h_d) (C := RX8) (T := TX8) (N := 14) hx hb hts in_X8_follows_X8 hown hK hP 0 rfl rfl 0 (by decide) (hts _ q_X8_follows_1) (fun _ h9 => h9) rfl dX8_follows_22 ?_
  refine lv_bipush (v := (6 : Int32)) hx hb dX8_follows_25 (by decide) ?_
  refine wx_iald hx hb hK hP 1 0 rfl rfl 6 (by decide) (by unfold vp_in; decide) dX8_follows_27 ?_
  refine lv_iadd hx hb dX8_follows_28 ?_
  refine lv_icmp_le (tgt := 50) hx hb dX8_follows_29 (by decide) (fun hc2 => ?_) (fun hc2 => ?_)
  · replace h := it_e hc2 h
    refine lv_iload_n hx hb dX8_follows_50 rfl (lv_at hl 0 rfl) ?_
    refine lv_aload_n hx hb dX8_follows_51 rfl (lv_at hl 1 rfl) ?_
    refine va_get (D := D) (ci := 8) (v := .ref a_h_d) (C := RX8) (T := TX8) (N := 14) hx hb hts in_X8_follows_X8 hown hK hP 0 rfl rfl 0 (by decide) (hts _ q_X8_follows_1) (fun _ h9 => h9) rfl dX8_follows_52 ?_
    refine lv_iconst (v := (3 : Int32)) hx hb dX8_follows_55 (by decide) ?_
    refine wx_iald hx hb hK hP 1 0 rfl rfl 3 (by decide) (by unfold vp_in; decide) dX8_follows_56 ?_
    refine lv_aload_n hx hb dX8_follows_57 rfl (lv_at hl 1 rfl) ?_
    refine va_get (D := D) (ci := 8) (v := .ref a_h_d) (C := RX8) (T := TX8) (N := 14) hx hb hts in_X8_follows_X8 hown hK hP 0 rfl rfl 0 (by decide) (hts _ q_X8_follows_1) (fun _ h9 => h9) rfl dX8_follows_58 ?_
    refine lv_bipush (v := (6 : Int32)) hx hb dX8_follows_61 (by decide) ?_
    refine wx_iald hx hb hK hP 1 0 rfl rfl 6 (by decide) (by unfold vp_in; decide) dX8_follows_63 ?_
    refine lv_isub hx hb dX8_follows_64 ?_
    refine lv_icmp_ge (tgt := 83) hx hb dX8_follows_65 (by decide) (fun hc3 => ?_) (fun hc3 => ?_)
    · replace h := it_e hc3 h
      obtain rfl := sm_e h
      exact rx_v hx hb hr  hP hK hD hS dX8_follows_83 hlocks
    · replace h := if_e hc3 h
      refine lv_aload_n hx hb dX8_follows_68 rfl (lv_at hl 1 rfl) ?_
      refine va_get (D := D) (ci := 8) (v := .ref a_h_d) (C := RX8) (T := TX8) (N := 14) hx hb hts in_X8_follows_X8 hown hK hP 0 rfl rfl 0 (by decide) (hts _ q_X8_follows_1) (fun _ h9 => h9) rfl dX8_follows_69 ?_
      refine lv_iconst (v := (3 : Int32)) hx hb dX8_follows_72 (by decide) ?_
      refine lv_iload_n hx hb dX8_follows_73 rfl (lv_at hl 0 rfl) ?_
      refine lv_aload_n hx hb dX8_follows_74 rfl (lv_at hl 1 rfl) ?_
      refine va_get (D := D) (ci := 8) (v := .ref a_h_d) (C := RX8) (T := TX8) (N := 14) hx hb hts in_X8_follows_X8 hown hK hP 0 rfl rfl 0 (by decide) (hts _ q_X8_follows_1) (fun _ h9 => h9) rfl dX8_follows_75 ?_
      refine lv_bipush (v := (6 : Int32)) hx hb dX8_follows_78 (by decide) ?_
      refine wx_iald hx hb hK hP 1 0 rfl rfl 6 (by decide) (by unfold vp_in; decide) dX8_follows_80 ?_
      refine lv_iadd hx hb dX8_follows_81 ?_
      refine lv_topi (fun t4 et4 => ?_)
      replace h := nm_at h et4
      refine wx_iast hx hb hK hP hD hS 1 0 rfl rfl 3 (by decide) (by unfold vp_in; decide) dX8_follows_82 rfl (fun H locs hP hD hS => ?_)
      obtain ⟨g5, eg5, h⟩ := nm_x h
      have hP : va_P D vwCl [(a_h, .inr (8, [.ref a_h_d, .long v_account, .ref a_h_was, .ref a_h_accounts, .int v_states, .int v_refused, .ref a_h_text, .int v_typed, .int v_at, .int v_sign, .int v_number, .ref a_h_aside, .ref a_h_places, .ref a_h_told])), (a_h_d, .inl (cI, 2086, .inl g5))] H := by rw [eg5]; exact hP
      have hD : va_D A [(a_h, .inr (8, [.ref a_h_d, .long v_account, .ref a_h_was, .ref a_h_accounts, .int v_states, .int v_refused, .ref a_h_text, .int v_typed, .int v_at, .int v_sign, .int v_number, .ref a_h_aside, .ref a_h_places, .ref a_h_told])), (a_h_d, .inl (cI, 2086, .inl g5))] := by rw [eg5]; exact hD
      obtain rfl := sm_e h
      exact rx_v hx hb hr  hP hK hD hS dX8_follows_83 hlocks
  · replace h := if_e hc2 h
    refine lv_aload_n hx hb dX8_follows_32 rfl (lv_at hl 1 rfl) ?_
    refine va_get (D := D) (ci := 8) (v := .ref a_h_d) (C := RX8) (T := TX8) (N := 14) hx hb hts in_X8_follows_X8 hown hK hP 0 rfl rfl 0 (by decide) (hts _ q_X8_follows_1) (fun _ h9 => h9) rfl dX8_follows_33 ?_
    refine lv_iconst (v := (3 : Int32)) hx hb dX8_follows_36 (by decide) ?_
    refine lv_iload_n hx hb dX8_follows_37 rfl (lv_at hl 0 rfl) ?_
    refine lv_aload_n hx hb dX8_follows_38 rfl (lv_at hl 1 rfl) ?_
    refine va_get (D := D) (ci := 8) (v := .ref a_h_d) (C := RX8) (T := TX8) (N := 14) hx hb hts in_X8_follows_X8 hown hK hP 0 rfl rfl 0 (by decide) (hts _ q_X8_follows_1) (fun _ h9 => h9) rfl dX8_follows_39 ?_
    refine lv_bipush (v := (6 : Int32)) hx hb dX8_follows_42 (by decide) ?_
    refine wx_iald hx hb hK hP 1 0 rfl rfl 6 (by decide) (by unfold vp_in; decide) dX8_follows_44 ?_
    refine lv_isub hx hb dX8_follows_45 ?_
    refine lv_topi (fun t6 et6 => ?_)
    replace h := nm_at h et6
    refine wx_iast hx hb hK hP hD hS 1 0 rfl rfl 3 (by decide) (by unfold vp_in; decide) dX8_follows_46 rfl (fun H locs hP hD hS => ?_)
    obtain ⟨g7, eg7, h⟩ := nm_x h
    have hP : va_P D vwCl [(a_h, .inr (8, [.ref a_h_d, .long v_account, .ref a_h_was, .ref a_h_accounts, .int v_states, .int v_refused, .ref a_h_text, .int v_typed, .int v_at, .int v_sign, .int v_number, .ref a_h_aside, .ref a_h_places, .ref a_h_told])), (a_h_d, .inl (cI, 2086, .inl g7))] H := by rw [eg7]; exact hP
    have hD : va_D A [(a_h, .inr (8, [.ref a_h_d, .long v_account, .ref a_h_was, .ref a_h_accounts, .int v_states, .int v_refused, .ref a_h_text, .int v_typed, .int v_at, .int v_sign, .int v_number, .ref a_h_aside, .ref a_h_places, .ref a_h_told])), (a_h_d, .inl (cI, 2086, .inl g7))] := by rw [eg7]; exact hD
    refine lv_goto (tgt := 83) hx hb dX8_follows_47 (by decide) ?_
    obtain rfl := sm_e h
    exact rx_v hx hb hr  hP hK hD hS dX8_follows_83 hlocks
-- X8_goes
def f_X8_goes_b211 (p0 : Int32) (x3 : Int32) (m_account : Int64) (m_d_A : Nat → Int32) : Option (Int64 × (Nat → Int32)) :=
  nm (m_account + ((Int32.toInt64 ((m_d_A 0) + p0)) * (Int32.toInt64 (x3 - (m_d_A 1))))) (fun t12 => (if x3 = (m_d_A 1) then nm (upd m_d_A 0 p0) (fun g14 => nm (upd g14 1 x3) (fun g15 => (if (0 : Int32) = 0 then some (t12, g15)
    else Option.bind (f_X8_follows g15) (fun u17 => some (t12, u17)))))
    else nm (upd m_d_A 0 p0) (fun g18 => nm (upd g18 1 x3) (fun g19 => (if (1 : Int32) = 0 then some (t12, g19)
    else Option.bind (f_X8_follows g19) (fun u21 => some (t12, u21)))))))
def f_X8_goes_b142 (N : Nat) (p0 : Int32) (x2 : Int32) (m_account : Int64) (m_d_A : Nat → Int32) : Option (Int64 × (Nat → Int32)) :=
  (if ¬ (m_d_A 5) = 0 then gA (((82 : Int32) + (m_d_A 5)) - (1 : Int32)) 2086 (nm (m_d_A (Int32.toNatClampNeg (((82 : Int32) + (m_d_A 5)) - (1 : Int32)))) (fun t8 => gA (((1084 : Int32) + (m_d_A 5)) - (1 : Int32)) 2086 (Option.bind (f_X8_curveAt N m_d_A (x2 * (p0 - t8)) (2 : Int32)) (fun u10 => nm ((m_d_A (Int32.toNatClampNeg (((1084 : Int32) + (m_d_A 5)) - (1 : Int32)))) + (x2 * u10)) (fun t11 => (f_X8_goes_b211 p0 t11 m_account m_d_A ))))))
    else Option.bind (f_X8_curveAt N m_d_A p0 (1 : Int32)) (fun u22 => (f_X8_goes_b211 p0 u22 m_account m_d_A )))
def f_X8_goes_b96 (N : Nat) (p0 : Int32) (x2 : Int32) (m_account : Int64) : Nat → (Nat → Int32) → Option (Int64 × (Nat → Int32))
  | 0, _ => none
  | k + 1, m_d_A =>
    (if (m_d_A 5) ≤ (1 : Int32) then (f_X8_goes_b142 N p0 x2 m_account m_d_A )
    else gA (((82 : Int32) + (m_d_A 5)) - (2 : Int32)) 2086 ((if (x2 * (p0 - (m_d_A (Int32.toNatClampNeg (((82 : Int32) + (m_d_A 5)) - (2 : Int32)))))) < 0 then (f_X8_goes_b142 N p0 x2 m_account m_d_A )
    else nm ((m_d_A 5) - (2 : Int32)) (fun t25 => nm (upd m_d_A 5 t25) (fun g26 => (f_X8_goes_b96 N p0 x2 m_account k g26))))))
def f_X8_goes_b26 (N : Nat) (p0 : Int32) (s0 : Int32) (m_account : Int64) (m_d_A : Nat → Int32) : Option (Int64 × (Nat → Int32)) :=
  (if ¬ (m_d_A 4) = (-s0) then nm (upd m_d_A 4 s0) (fun g4 => (f_X8_goes_b96 N p0 s0 m_account N g4))
    else nm (m_d_A 0) (fun t27 => gA ((82 : Int32) + (m_d_A 5)) 2086 (nm (upd m_d_A (Int32.toNatClampNeg ((82 : Int32) + (m_d_A 5))) t27) (fun g29 => nm (g29 1) (fun t30 => gA ((1084 : Int32) + (g29 5)) 2086 (nm (upd g29 (Int32.toNatClampNeg ((1084 : Int32) + (g29 5))) t30) (fun g32 => nm ((g32 5) + (1 : Int32)) (fun t33 => nm (upd g32 5 t33) (fun g34 => nm (upd g34 4 s0) (fun g35 => (f_X8_goes_b96 N p0 s0 m_account N g35)))))))))))
def f_X8_goes (N : Nat) (v_account : Int64) (v_d_A : Nat → Int32) (p0 : Int32) : Option (Int64 × (Nat → Int32)) :=
  (if ¬ p0 = (v_d_A 0) then (if p0 ≤ (v_d_A 0) then (f_X8_goes_b26 N p0 (-1 : Int32) v_account v_d_A )
    else (f_X8_goes_b26 N p0 (1 : Int32) v_account v_d_A ))
    else some (v_account, v_d_A))
theorem q_X8_goes_1 : (.fieldLink RX8 7 "SpringBalanceModel" "d" "[I" : Cond) ∈ wsX8_goes := List.mem_of_getElem? (i := 1) (by decide +kernel)
set_option maxRecDepth 20000 in
theorem in_X8_goes_X8 : ∀ w ∈ u_ws RX8 TX8 14, w ∈ wsX8_goes := by decide +kernel
theorem q_X8_goes_2 : (.fieldLink RX8 37 "SpringBalanceModel" "account" "J" : Cond) ∈ wsX8_goes := List.mem_of_getElem? (i := 2) (by decide +kernel)
set_option maxHeartbeats 8000000 in
set_option maxRecDepth 100000 in
theorem k_X8_goes (l : Launch) (D : va_G) (cI cC cJ cB : ClassId) (a_h a_h_d a_h_was a_h_accounts a_h_text a_h_aside a_h_places a_h_told : Nat) (v_account : Int64) (v_states : Int32) (v_refused : Int32) (v_typed : Int32) (v_at : Int32) (v_sign : Int32) (v_number : Int32) (v_d_A : Nat → Int32) (N : Nat) (p0 : Int32) (sz : Nat) (u : Int64 × (Nat → Int32)) (hu : f_X8_goes N v_account v_d_A p0 = some u) :
    Met l yX8_goes wsX8_goes ({ frames := 2, cells := 0, slots := 0, locals := 52 } : Room) (va_Pc [.ref a_h, .int p0] (PreW D (ty4 cI cC cJ cB) sz [(a_h, .inr (8, [.ref a_h_d, .long v_account, .ref a_h_was, .ref a_h_accounts, .int v_states, .int v_refused, .ref a_h_text, .int v_typed, .int v_at, .int v_sign, .int v_number, .ref a_h_aside, .ref a_h_places, .ref a_h_told])), (a_h_d, .inl (cI, 2086, .inl v_d_A))]))
      (QV D (ty4 cI cC cJ cB) (va_A [(a_h, .inr (8, [.ref a_h_d, .long v_account, .ref a_h_was, .ref a_h_accounts, .int v_states, .int v_refused, .ref a_h_text, .int v_typed, .int v_at, .int v_sign, .int v_number, .ref a_h_aside, .ref a_h_places, .ref a_h_told])), (a_h_d, .inl (cI, 2086, .inl v_d_A))] sz) [(a_h, .inr (8, [.ref a_h_d, .long u.1, .ref a_h_was, .ref a_h_accounts, .int v_states, .int v_refused, .ref a_h_text, .int v_typed, .int v_at, .int v_sign, .int v_number, .ref a_h_aside, .ref a_h_places, .ref a_h_told])), (a_h_d, .inl (cI, 2086, .inl u.2))]) 0 0 (va_A [(a_h, .inr (8, [.ref a_h_d, .long v_account, .ref a_h_was, .ref a_h_accounts, .int v_states, .int v_refused, .ref a_h_text, .int v_typed, .int v_at, .int v_sign, .int v_number, .ref a_h_aside, .ref a_h_places, .ref a_h_told])), (a_h_d, .inl (cI, 2086, .inl v_d_A))] sz) := by
  refine met_go (y := yX8_goes) (wsy := wsX8_goes) (cc := cX8_goes) (maxL := 5) (ret := none) (av := [.ref a_h, .int p0]) (Qc := fun A => QV D (ty4 cI cC cJ cB) A [(a_h, .inr (8, [.ref a_h_d, .long u.1, .ref a_h_was, .ref a_h_accounts, .int v_states, .int v_refused, .ref a_h_text, .int v_typed, .int v_at, .int v_sign, .int v_number, .ref a_h_aside, .ref a_h_places, .ref a_h_told])), (a_h_d, .inl (cI, 2086, .inl u.2))]) (by decide) rfl (Nat.le_of_ble_eq_true rfl) ?_
  intro p e s m below meth c A ls hx hb hr hml hown hts hlocks hnm hN hK hP hD hS hA hl
  have h := hu
  clear hu
  unfold f_X8_goes at h
  have hl : lv_has ls 5 [(0, .ref a_h), (1, .int p0)] := hl
  have B211 : ∀ (x2 : Int32) (x3 : Int32) (m_account : Int64) (m_d_A : Nat → Int32) (H : Heap) (locs : List Loc) (ls : Array Slot), f_X8_goes_b211 p0 x3 m_account m_d_A  = some u → va_P D vwCl [(a_h, .inr (8, [.ref a_h_d, .long m_account, .ref a_h_was, .ref a_h_accounts, .int v_states, .int v_refused, .ref a_h_text, .int v_typed, .int v_at, .int v_sign, .int v_number, .ref a_h_aside, .ref a_h_places, .ref a_h_told])), (a_h_d, .inl (cI, 2086, .inl m_d_A))] H → va_D A [(a_h, .inr (8, [.ref a_h_d, .long m_account, .ref a_h_was, .ref a_h_accounts, .int v_states, .int v_refused, .ref a_h_text, .int v_typed, .int v_at, .int v_sign, .int v_number, .ref a_h_aside, .ref a_h_places, .ref a_h_told])), (a_h_d, .inl (cI, 2086, .inl m_d_A))] → va_S A s.heap H locs → lv_has ls 5 [(0, .ref a_h), (1, .int p0), (2, .int x2), (3, .int x3)] → W p l e ({ frames := 2, cells := 0, slots := 0, locals := 52 } : Room) s m ([.ref a_h, .int p0] : List Value).toArray below meth c H locs 0 0 (MQ below (QV D (ty4 cI cC cJ cB) A [(a_h, .inr (8, [.ref a_h_d, .long u.1, .ref a_h_was, .ref a_h_accounts, .int v_states, .int v_refused, .ref a_h_text, .int v_typed, .int v_at, .int v_sign, .int v_number, .ref a_h_aside, .ref a_h_places, .ref a_h_told])), (a_h_d, .inl (cI, 2086, .inl u.2))]) ([.ref a_h, .int p0] : List Value).toArray s 0 0 A) (F0 m 211 ls []) := by
    intro x2 x3 m_account m_d_A H locs ls h hP hD hS hl
    unfold f_X8_goes_b211 at h
    refine lv_aload_n hx hb dX8_goes_211 rfl (lv_at hl 0 rfl) ?_
    refine lv_dup hx hb dX8_goes_212 rfl ?_
    refine va_get (D := D) (ci := 8) (v := .long m_account) (C := RX8) (T := TX8) (N := 14) hx hb hts in_X8_goes_X8 hown hK hP 0 rfl rfl 1 (by decide) (hts _ q_X8_goes_2) (fun _ h9 => h9) rfl dX8_goes_213 ?_
    refine lv_aload_n hx hb dX8_goes_216 rfl (lv_at hl 0 rfl) ?_
    refine va_get (D := D) (ci := 8) (v := .ref a_h_d) (C := RX8) (T := TX8) (N := 14) hx hb hts in_X8_goes_X8 hown hK hP 0 rfl rfl 0 (by decide) (hts _ q_X8_goes_1) (fun _ h9 => h9) rfl dX8_goes_217 ?_
    refine lv_iconst (v := (0 : Int32)) hx hb dX8_goes_220 (by decide) ?_
    refine wx_iald hx hb hK hP 1 0 rfl rfl 0 (by decide) (by unfold vp_in; decide) dX8_goes_221 ?_
    refine lv_iload_n hx hb dX8_goes_222 rfl (lv_at hl 1 rfl) ?_
    refine lv_iadd hx hb dX8_goes_223 ?_
    refine lv_i2l (v := (Int32.toInt64 ((m_d_A 0) + p0))) hx hb dX8_goes_224 rfl ?_
    refine lv_iload_n hx hb dX8_goes_225 rfl (lv_at hl 3 rfl) ?_
    refine lv_aload_n hx hb dX8_goes_226 rfl (lv_at hl 0 rfl) ?_
    refine va_get (D := D) (ci := 8) (v := .ref a_h_d) (C := RX8) (T := TX8) (N := 14) hx hb hts in_X8_goes_X8 hown hK hP 0 rfl rfl 0 (by decide) (hts _ q_X8_goes_1) (fun _ h9 => h9) rfl dX8_goes_227 ?_
    refine lv_iconst (v := (1 : Int32)) hx hb dX8_goes_230 (by decide) ?_
    refine wx_iald hx hb hK hP 1 0 rfl rfl 1 (by decide) (by unfold vp_in; decide) dX8_goes_231 ?_
    refine lv_isub hx hb dX8_goes_232 ?_
    refine lv_i2l (v := (Int32.toInt64 (x3 - (m_d_A 1)))) hx hb dX8_goes_233 rfl ?_
    refine lv_lmul hx hb dX8_goes_234 ?_
    refine lv_ladd hx hb dX8_goes_235 ?_
    refine lv_topl (fun t12 et12 => ?_)
    replace h := nm_at h et12
    refine va_put (D := D) (ci := 8) (v := .long t12) (ty := .long) (C := RX8) (T := TX8) (N := 14) hx hb hts in_X8_goes_X8 tyX8 tyX8_ok nmX8 hown hK hP hD hS 0 rfl rfl 1 (by decide) (hts _ q_X8_goes_2) (fun _ h9 => h9) rfl (by decide +kernel) rfl rfl (Nat.le_of_ble_eq_true rfl) dX8_goes_236 (fun H locs hP hD hS => ?_)
    have hP : va_P D vwCl [(a_h, .inr (8, [.ref a_h_d, .long t12, .ref a_h_was, .ref a_h_accounts, .int v_states, .int v_refused, .ref a_h_text, .int v_typed, .int v_at, .int v_sign, .int v_number, .ref a_h_aside, .ref a_h_places, .ref a_h_told])), (a_h_d, .inl (cI, 2086, .inl m_d_A))] H := hP
    have hD : va_D A [(a_h, .inr (8, [.ref a_h_d, .long t12, .ref a_h_was, .ref a_h_accounts, .int v_states, .int v_refused, .ref a_h_text, .int v_typed, .int v_at, .int v_sign, .int v_number, .ref a_h_aside, .ref a_h_places, .ref a_h_told])), (a_h_d, .inl (cI, 2086, .inl m_d_A))] := hD
    refine lv_iload_n hx hb dX8_goes_239 rfl (lv_at hl 3 rfl) ?_
    refine lv_aload_n hx hb dX8_goes_240 rfl (lv_at hl 0 rfl) ?_
    refine va_get (D := D) (ci := 8) (v := .ref a_h_d) (C := RX8) (T := TX8) (N := 14) hx hb hts in_X8_goes_X8 hown hK hP 0 rfl rfl 0 (by decide) (hts _ q_X8_goes_1) (fun _ h9 => h9) rfl dX8_goes_241 ?_
    refine lv_iconst (v := (1 : Int32)) hx hb dX8_goes_244 (by decide) ?_
    refine wx_iald hx hb hK hP 1 0 rfl rfl 1 (by decide) (by unfold vp_in; decide) dX8_goes_245 ?_
    refine lv_icmp_eq (tgt := 253) hx hb dX8_goes_246 (by decide) (fun hc13 => ?_) (fun hc13 => ?_)
    · replace h := it_e hc13 h
      refine lv_iconst (v := (0 : Int32)) hx hb dX8_goes_253 (by decide) ?_
      refine lv_istore (lv' := [(4, .int (0 : Int32)), (0, .ref a_h), (1, .int p0), (2, .int x2), (3, .int x3)]) hx hb dX8_goes_254 hl (by decide) rfl (fun ls hl => ?_)
      refine lv_aload_n hx hb dX8_goes_256 rfl (lv_at hl 1 rfl) ?_
      refine va_get (D := D) (ci := 8) (v := .ref a_h_d) (C := RX8) (T := TX8) (N := 14) hx hb hts in_X8_goes_X8 hown hK hP 0 rfl rfl 0 (by decide) (hts _ q_X8_goes_1) (fun _ h9 => h9) rfl dX8_goes_257 ?_
      refine lv_iconst (v := (0 : Int32)) hx hb dX8_goes_260 (by decide) ?_
      refine lv_iload_n hx hb dX8_goes_261 rfl (lv_at hl 2 rfl) ?_
      refine wx_iast hx hb hK hP hD hS 1 0 rfl rfl 0 (by decide) (by unfold vp_in; decide) dX8_goes_262 rfl (fun H locs hP hD hS => ?_)
      obtain ⟨g14, eg14, h⟩ := nm_x h
      have hP : va_P D vwCl [(a_h, .inr (8, [.ref a_h_d, .long t12, .ref a_h_was, .ref a_h_accounts, .int v_states, .int v_refused, .ref a_h_text, .int v_typed, .int v_at, .int v_sign, .int v_number, .ref a_h_aside, .ref a_h_places, .ref a_h_told])), (a_h_d, .inl (cI, 2086, .inl g14))] H := by rw [eg14]; exact hP
      have hD : va_D A [(a_h, .inr (8, [.ref a_h_d, .long t12, .ref a_h_was, .ref a_h_accounts, .int v_states, .int v_refused, .ref a_h_text, .int v_typed, .int v_at, .int v_sign, .int v_number, .ref a_h_aside, .ref a_h_places, .ref a_h_told])), (a_h_d, .inl (cI, 2086, .inl g14))] := by rw [eg14]; exact hD
      refine lv_aload_n hx hb dX8_goes_263 rfl (lv_at hl 1 rfl) ?_
      refine va_get (D := D) (ci := 8) (v := .ref a_h_d) (C := RX8) (T := TX8) (N := 14) hx hb hts in_X8_goes_X8 hown hK hP 0 rfl rfl 0 (by decide) (hts _ q_X8_goes_1) (fun _ h9 => h9) rfl dX8_goes_264 ?_
      refine lv_iconst (v := (1 : Int32)) hx hb dX8_goes_267 (by decide) ?_
      refine lv_iload_n hx hb dX8_goes_268 rfl (lv_at hl 4 rfl) ?_
      refine wx_iast hx hb hK hP hD hS 1 0 rfl rfl 1 (by decide) (by unfold vp_in; decide) dX8_goes_269 rfl (fun H locs hP hD hS => ?_)
      obtain ⟨g15, eg15, h⟩ := nm_x h
      have hP : va_P D vwCl [(a_h, .inr (8, [.ref a_h_d, .long t12, .ref a_h_was, .ref a_h_accounts, .int v_states, .int v_refused, .ref a_h_text, .int v_typed, .int v_at, .int v_sign, .int v_number, .ref a_h_aside, .ref a_h_places, .ref a_h_told])), (a_h_d, .inl (cI, 2086, .inl g15))] H := by rw [eg15]; exact hP
      have hD : va_D A [(a_h, .inr (8, [.ref a_h_d, .long t12, .ref a_h_was, .ref a_h_accounts, .int v_states, .int v_refused, .ref a_h_text, .int v_typed, .int v_at, .int v_sign, .int v_number, .ref a_h_aside, .ref a_h_places, .ref a_h_told])), (a_h_d, .inl (cI, 2086, .inl g15))] := by rw [eg15]; exact hD
      refine lv_iload hx hb dX8_goes_270 (lv_at hl 0 rfl) ?_
      refine lv_if_eq (tgt := 279) hx hb dX8_goes_272 (by decide) (fun hc16 => ?_) (fun hc16 => ?_)
      · replace h := it_e hc16 h
        obtain rfl := sm_e h
        exact rx_v hx hb hr  hP hK hD hS dX8_goes_279 hlocks
      · replace h := if_e hc16 h
        refine lv_aload_n hx hb dX8_goes_275 rfl (lv_at hl 1 rfl) ?_
        obtain ⟨u17, hu17, h⟩ := bd_e h
        refine kx_v (mc := 0) (ms := 0) (wr := []) (ws2 := [(a_h, .inr (8, [.ref a_h_d, .long t12, .ref a_h_was, .ref a_h_accounts, .int v_states, .int v_refused, .ref a_h_text, .int v_typed, .int v_at, .int v_sign, .int v_number, .ref a_h_aside, .ref a_h_places, .ref a_h_told])), (a_h_d, .inl (cI, 2086, .inl u17))]) (va_runV (As := []) (rest := []) ⟨hx, hb, hml, hown, hts⟩ (k_X8_follows l D cI cC cJ cB a_h a_h_d a_h_was a_h_accounts a_h_text a_h_aside a_h_places a_h_told t12 v_states v_refused v_typed v_at v_sign v_number g15 N H.size _ hu17) (cwV 0 hts gX8_goes_X8_follows rfl rfl rfl (by decide +kernel) ⟨Nat.le_of_ble_eq_true rfl, Nat.le_of_ble_eq_true rfl⟩) (pv_V hP hD hK hN [0, 1] rfl rfl (ci := 8) rfl 0 rfl) rfl rfl hl.1 rfl (lv_room (Nat.le_of_ble_eq_true rfl)) dX8_goes_276 ⟨Nat.zero_le _, Nat.zero_le _⟩) hP hD hS hA [0, 1] [] [0, 1] rfl rfl rfl rfl rfl rfl (fun H locs hP hD hS => ?_)
        obtain rfl := sm_e h
        exact rx_v hx hb hr  hP hK hD hS dX8_goes_279 hlocks
    · replace h := if_e hc13 h
      refine lv_iconst (v := (1 : Int32)) hx hb dX8_goes_249 (by decide) ?_
      refine lv_goto (tgt := 254) hx hb dX8_goes_250 (by decide) ?_
      refine lv_istore (lv' := [(4, .int (1 : Int32)), (0, .ref a_h), (1, .int p0), (2, .int x2), (3, .int x3)]) hx hb dX8_goes_254 hl (by decide) rfl (fun ls hl => ?_)
      refine lv_aload_n hx hb dX8_goes_256 rfl (lv_at hl 1 rfl) ?_
      refine va_get (D := D) (ci := 8) (v := .ref a_h_d) (C := RX8) (T := TX8) (N := 14) hx hb hts in_X8_goes_X8 hown hK hP 0 rfl rfl 0 (by decide) (hts _ q_X8_goes_1) (fun _ h9 => h9) rfl dX8_goes_257 ?_
      refine lv_iconst (v := (0 : Int32)) hx hb dX8_goes_260 (by decide) ?_
      refine lv_iload_n hx hb dX8_goes_261 rfl (lv_at hl 2 rfl) ?_
      refine wx_iast hx hb hK hP hD hS 1 0 rfl rfl 0 (by decide) (by unfold vp_in; decide) dX8_goes_262 rfl (fun H locs hP hD hS => ?_)
      obtain ⟨g18, eg18, h⟩ := nm_x h
      have hP : va_P D vwCl [(a_h, .inr (8, [.ref a_h_d, .long t12, .ref a_h_was, .ref a_h_accounts, .int v_states, .int v_refused, .ref a_h_text, .int v_typed, .int v_at, .int v_sign, .int v_number, .ref a_h_aside, .ref a_h_places, .ref a_h_told])), (a_h_d, .inl (cI, 2086, .inl g18))] H := by rw [eg18]; exact hP
      have hD : va_D A [(a_h, .inr (8, [.ref a_h_d, .long t12, .ref a_h_was, .ref a_h_accounts, .int v_states, .int v_refused, .ref a_h_text, .int v_typed, .int v_at, .int v_sign, .int v_number, .ref a_h_aside, .ref a_h_places, .ref a_h_told])), (a_h_d, .inl (cI, 2086, .inl g18))] := by rw [eg18]; exact hD
      refine lv_aload_n hx hb dX8_goes_263 rfl (lv_at hl 1 rfl) ?_
      refine va_get (D := D) (ci := 8) (v := .ref a_h_d) (C := RX8) (T := TX8) (N := 14) hx hb hts in_X8_goes_X8 hown hK hP 0 rfl rfl 0 (by decide) (hts _ q_X8_goes_1) (fun _ h9 => h9) rfl dX8_goes_264 ?_
      refine lv_iconst (v := (1 : Int32)) hx hb dX8_goes_267 (by decide) ?_
      refine lv_iload_n hx hb dX8_goes_268 rfl (lv_at hl 4 rfl) ?_
      refine wx_iast hx hb hK hP hD hS 1 0 rfl rfl 1 (by decide) (by unfold vp_in; decide) dX8_goes_269 rfl (fun H locs hP hD hS => ?_)
      obtain ⟨g19, eg19, h⟩ := nm_x h
      have hP : va_P D vwCl [(a_h, .inr (8, [.ref a_h_d, .long t12, .ref a_h_was, .ref a_h_accounts, .int v_states, .int v_refused, .ref a_h_text, .int v_typed, .int v_at, .int v_sign, .int v_number, .ref a_h_aside, .ref a_h_places, .ref a_h_told])), (a_h_d, .inl (cI, 2086, .inl g19))] H := by rw [eg19]; exact hP
      have hD : va_D A [(a_h, .inr (8, [.ref a_h_d, .long t12, .ref a_h_was, .ref a_h_accounts, .int v_states, .int v_refused, .ref a_h_text, .int v_typed, .int v_at, .int v_sign, .int v_number, .ref a_h_aside, .ref a_h_places, .ref a_h_told])), (a_h_d, .inl (cI, 2086, .inl g19))] := by rw [eg19]; exact hD
      refine lv_iload hx hb dX8_goes_270 (lv_at hl 0 rfl) ?_
      refine lv_if_eq (tgt := 279) hx hb dX8_goes_272 (by decide) (fun hc20 => ?_) (fun hc20 => ?_)
      · replace h := it_e hc20 h
        obtain rfl := sm_e h
        exact rx_v hx hb hr  hP hK hD hS dX8_goes_279 hlocks
      · replace h := if_e hc20 h
        refine lv_aload_n hx hb dX8_goes_275 rfl (lv_at hl 1 rfl) ?_
        obtain ⟨u21, hu21, h⟩ := bd_e h
        refine kx_v (mc := 0) (ms := 0) (wr := []) (ws2 := [(a_h, .inr (8, [.ref a_h_d, .long t12, .ref a_h_was, .ref a_h_accounts, .int v_states, .int v_refused, .ref a_h_text, .int v_typed, .int v_at, .int v_sign, .int v_number, .ref a_h_aside, .ref a_h_places, .ref a_h_told])), (a_h_d, .inl (cI, 2086, .inl u21))]) (va_runV (As := []) (rest := []) ⟨hx, hb, hml, hown, hts⟩ (k_X8_follows l D cI cC cJ cB a_h a_h_d a_h_was a_h_accounts a_h_text a_h_aside a_h_places a_h_told t12 v_states v_refused v_typed v_at v_sign v_number g19 N H.size _ hu21) (cwV 0 hts gX8_goes_X8_follows rfl rfl rfl (by decide +kernel) ⟨Nat.le_of_ble_eq_true rfl, Nat.le_of_ble_eq_true rfl⟩) (pv_V hP hD hK hN [0, 1] rfl rfl (ci := 8) rfl 0 rfl) rfl rfl hl.1 rfl (lv_room (Nat.le_of_ble_eq_true rfl)) dX8_goes_276 ⟨Nat.zero_le _, Nat.zero_le _⟩) hP hD hS hA [0, 1] [] [0, 1] rfl rfl rfl rfl rfl rfl (fun H locs hP hD hS => ?_)
        obtain rfl := sm_e h
        exact rx_v hx hb hr  hP hK hD hS dX8_goes_279 hlocks
  have B142 : ∀ (x2 : Int32) (m_account : Int64) (m_d_A : Nat → Int32) (H : Heap) (locs : List Loc) (ls : Array Slot), f_X8_goes_b142 N p0 x2 m_account m_d_A  = some u → va_P D vwCl [(a_h, .inr (8, [.ref a_h_d, .long m_account, .ref a_h_was, .ref a_h_accounts, .int v_states, .int v_refused, .ref a_h_text, .int v_typed, .int v_at, .int v_sign, .int v_number, .ref a_h_aside, .ref a_h_places, .ref a_h_told])), (a_h_d, .inl (cI, 2086, .inl m_d_A))] H → va_D A [(a_h, .inr (8, [.ref a_h_d, .long m_account, .ref a_h_was, .ref a_h_accounts, .int v_states, .int v_refused, .ref a_h_text, .int v_typed, .int v_at, .int v_sign, .int v_number, .ref a_h_aside, .ref a_h_places, .ref a_h_told])), (a_h_d, .inl (cI, 2086, .inl m_d_A))] → va_S A s.heap H locs → lv_has ls 5 [(0, .ref a_h), (1, .int p0), (2, .int x2)] → W p l e ({ frames := 2, cells := 0, slots := 0, locals := 52 } : Room) s m ([.ref a_h, .int p0] : List Value).toArray below meth c H locs 0 0 (MQ below (QV D (ty4 cI cC cJ cB) A [(a_h, .inr (8, [.ref a_h_d, .long u.1, .ref a_h_was, .ref a_h_accounts, .int v_states, .int v_refused, .ref a_h_text, .int v_typed, .int v_at, .int v_sign, .int v_number, .ref a_h_aside, .ref a_h_places, .ref a_h_told])), (a_h_d, .inl (cI, 2086, .inl u.2))]) ([.ref a_h, .int p0] : List Value).toArray s 0 0 A) (F0 m 142 ls []) := by
    intro x2 m_account m_d_A H locs ls h hP hD hS hl
    unfold f_X8_goes_b142 at h
    refine lv_aload_n hx hb dX8_goes_142 rfl (lv_at hl 0 rfl) ?_
    refine va_get (D := D) (ci := 8) (v := .ref a_h_d) (C := RX8) (T := TX8) (N := 14) hx hb hts in_X8_goes_X8 hown hK hP 0 rfl rfl 0 (by decide) (hts _ q_X8_goes_1) (fun _ h9 => h9) rfl dX8_goes_143 ?_
    refine lv_iconst (v := (5 : Int32)) hx hb dX8_goes_146 (by decide) ?_
    refine wx_iald hx hb hK hP 1 0 rfl rfl 5 (by decide) (by unfold vp_in; decide) dX8_goes_147 ?_
    refine lv_if_ne (tgt := 161) hx hb dX8_goes_148 (by decide) (fun hc6 => ?_) (fun hc6 => ?_)
    · replace h := it_e hc6 h
      refine lv_aload_n hx hb dX8_goes_161 rfl (lv_at hl 0 rfl) ?_
      refine va_get (D := D) (ci := 8) (v := .ref a_h_d) (C := RX8) (T := TX8) (N := 14) hx hb hts in_X8_goes_X8 hown hK hP 0 rfl rfl 0 (by decide) (hts _ q_X8_goes_1) (fun _ h9 => h9) rfl dX8_goes_162 ?_
      refine lv_bipush (v := (82 : Int32)) hx hb dX8_goes_165 (by decide) ?_
      refine lv_aload_n hx hb dX8_goes_167 rfl (lv_at hl 0 rfl) ?_
      refine va_get (D := D) (ci := 8) (v := .ref a_h_d) (C := RX8) (T := TX8) (N := 14) hx hb hts in_X8_goes_X8 hown hK hP 0 rfl rfl 0 (by decide) (hts _ q_X8_goes_1) (fun _ h9 => h9) rfl dX8_goes_168 ?_
      refine lv_iconst (v := (5 : Int32)) hx hb dX8_goes_171 (by decide) ?_
      refine wx_iald hx hb hK hP 1 0 rfl rfl 5 (by decide) (by unfold vp_in; decide) dX8_goes_172 ?_
      refine lv_iadd hx hb dX8_goes_173 ?_
      refine lv_iconst (v := (1 : Int32)) hx hb dX8_goes_174 (by decide) ?_
      refine lv_isub hx hb dX8_goes_175 ?_
      obtain ⟨hi7, h⟩ := gA_e h
      refine wx_iald hx hb hK hP 1 0 rfl rfl (Int32.toNatClampNeg (((82 : Int32) + (m_d_A 5)) - (1 : Int32))) rfl hi7 dX8_goes_176 ?_
      refine lv_topi (fun t8 et8 => ?_)
      replace h := nm_at h et8
      refine lv_istore (lv' := [(4, .int t8), (0, .ref a_h), (1, .int p0), (2, .int x2)]) hx hb dX8_goes_177 hl (by decide) rfl (fun ls hl => ?_)
      refine lv_aload_n hx hb dX8_goes_179 rfl (lv_at hl 1 rfl) ?_
      refine va_get (D := D) (ci := 8) (v := .ref a_h_d) (C := RX8) (T := TX8) (N := 14) hx hb hts in_X8_goes_X8 hown hK hP 0 rfl rfl 0 (by decide) (hts _ q_X8_goes_1) (fun _ h9 => h9) rfl dX8_goes_180 ?_
      refine lv_sipush (v := (1084 : Int32)) hx hb dX8_goes_183 (by decide) ?_
      refine lv_aload_n hx hb dX8_goes_186 rfl (lv_at hl 1 rfl) ?_
      refine va_get (D := D) (ci := 8) (v := .ref a_h_d) (C := RX8) (T := TX8) (N := 14) hx hb hts in_X8_goes_X8 hown hK hP 0 rfl rfl 0 (by decide) (hts _ q_X8_goes_1) (fun _ h9 => h9) rfl dX8_goes_187 ?_
      refine lv_iconst (v := (5 : Int32)) hx hb dX8_goes_190 (by decide) ?_
      refine wx_iald hx hb hK hP 1 0 rfl rfl 5 (by decide) (by unfold vp_in; decide) dX8_goes_191 ?_
      refine lv_iadd hx hb dX8_goes_192 ?_
      refine lv_iconst (v := (1 : Int32)) hx hb dX8_goes_193 (by decide) ?_
      refine lv_isub hx hb dX8_goes_194 ?_
      obtain ⟨hi9, h⟩ := gA_e h
      refine wx_iald hx hb hK hP 1 0 rfl rfl (Int32.toNatClampNeg (((1084 : Int32) + (m_d_A 5)) - (1 : Int32))) rfl hi9 dX8_goes_195 ?_
      refine lv_iload_n hx hb dX8_goes_196 rfl (lv_at hl 3 rfl) ?_
      refine lv_aload_n hx hb dX8_goes_197 rfl (lv_at hl 1 rfl) ?_
      refine lv_iload_n hx hb dX8_goes_198 rfl (lv_at hl 3 rfl) ?_
      refine lv_iload_n hx hb dX8_goes_199 rfl (lv_at hl 2 rfl) ?_
      refine lv_iload hx hb dX8_goes_200 (lv_at hl 0 rfl) ?_
      refine lv_isub hx hb dX8_goes_202 ?_
      refine lv_imul hx hb dX8_goes_203 ?_
      refine lv_iconst (v := (2 : Int32)) hx hb dX8_goes_204 (by decide) ?_
      obtain ⟨u10, hu10, h⟩ := bd_e h
      refine kx_i (mc := 0) (ms := 0) (wr := []) (ws2 := [(a_h, .inr (8, [.ref a_h_d, .long m_account, .ref a_h_was, .ref a_h_accounts, .int v_states, .int v_refused, .ref a_h_text, .int v_typed, .int v_at, .int v_sign, .int v_number, .ref a_h_aside, .ref a_h_places, .ref a_h_told])), (a_h_d, .inl (cI, 2086, .inl m_d_A))]) (va_runV (As := [.int (x2 * (p0 - t8)), .int (2 : Int32)]) (rest := [.int x2, .int (m_d_A (Int32.toNatClampNeg (((1084 : Int32) + (m_d_A 5)) - (1 : Int32))))]) ⟨hx, hb, hml, hown, hts⟩ (k_X8_curveAt l D cI cC cJ cB a_h a_h_d a_h_was a_h_accounts a_h_text a_h_aside a_h_places a_h_told m_account v_states v_refused v_typed v_at v_sign v_number m_d_A N (x2 * (p0 - t8)) (2 : Int32) H.size _ hu10) (cwV 2 hts gX8_goes_X8_curveAt rfl rfl rfl (by decide +kernel) ⟨Nat.le_of_ble_eq_true rfl, Nat.le_of_ble_eq_true rfl⟩) (pv_V hP hD hK hN [0, 1] rfl rfl (ci := 8) rfl 0 rfl) rfl rfl hl.1 rfl (lv_room (Nat.le_of_ble_eq_true rfl)) dX8_goes_205 ⟨Nat.zero_le _, Nat.zero_le _⟩) hP hD hS hA [0, 1] [] [0, 1] rfl rfl rfl rfl rfl rfl (fun H locs hP hD hS => ?_)
      refine lv_imul hx hb dX8_goes_208 ?_
      refine lv_iadd hx hb dX8_goes_209 ?_
      refine lv_topi (fun t11 et11 => ?_)
      replace h := nm_at h et11
      refine lv_istore_n (lv' := [(3, .int t11), (4, .int t8), (0, .ref a_h), (1, .int p0), (2, .int x2)]) hx hb dX8_goes_210 rfl hl (by decide) rfl (fun ls hl => ?_)
      exact B211 x2 t11 m_account m_d_A _ _ _ h hP hD hS (lv_sub hl [2, 3, 4, 0] rfl)
    · replace h := in_e hc6 h
      refine lv_aload_n hx hb dX8_goes_151 rfl (lv_at hl 0 rfl) ?_
      refine lv_iload_n hx hb dX8_goes_152 rfl (lv_at hl 1 rfl) ?_
      refine lv_iconst (v := (1 : Int32)) hx hb dX8_goes_153 (by decide) ?_
      obtain ⟨u22, hu22, h⟩ := bd_e h
      refine kx_i (mc := 0) (ms := 0) (wr := []) (ws2 := [(a_h, .inr (8, [.ref a_h_d, .long m_account, .ref a_h_was, .ref a_h_accounts, .int v_states, .int v_refused, .ref a_h_text, .int v_typed, .int v_at, .int v_sign, .int v_number, .ref a_h_aside, .ref a_h_places, .ref a_h_told])), (a_h_d, .inl (cI, 2086, .inl m_d_A))]) (va_runV (As := [.int p0, .int (1 : Int32)]) (rest := []) ⟨hx, hb, hml, hown, hts⟩ (k_X8_curveAt l D cI cC cJ cB a_h a_h_d a_h_was a_h_accounts a_h_text a_h_aside a_h_places a_h_told m_account v_states v_refused v_typed v_at v_sign v_number m_d_A N p0 (1 : Int32) H.size _ hu22) (cwV 2 hts gX8_goes_X8_curveAt rfl rfl rfl (by decide +kernel) ⟨Nat.le_of_ble_eq_true rfl, Nat.le_of_ble_eq_true rfl⟩) (pv_V hP hD hK hN [0, 1] rfl rfl (ci := 8) rfl 0 rfl) rfl rfl hl.1 rfl (lv_room (Nat.le_of_ble_eq_true rfl)) dX8_goes_154 ⟨Nat.zero_le _, Nat.zero_le _⟩) hP hD hS hA [0, 1] [] [0, 1] rfl rfl rfl rfl rfl rfl (fun H locs hP hD hS => ?_)
      refine lv_istore_n (lv' := [(3, .int u22), (0, .ref a_h), (1, .int p0), (2, .int x2)]) hx hb dX8_goes_157 rfl hl (by decide) rfl (fun ls hl => ?_)
      refine lv_goto (tgt := 211) hx hb dX8_goes_158 (by decide) ?_
      exact B211 x2 u22 m_account m_d_A _ _ _ h hP hD hS (lv_sub hl [1, 2, 3, 0] rfl)
  have B96 : ∀ (k : Nat) (x2 : Int32) (m_account : Int64) (m_d_A : Nat → Int32) (H : Heap) (locs : List Loc) (ls : Array Slot), f_X8_goes_b96 N p0 x2 m_account k m_d_A = some u → va_P D vwCl [(a_h, .inr (8, [.ref a_h_d, .long m_account, .ref a_h_was, .ref a_h_accounts, .int v_states, .int v_refused, .ref a_h_text, .int v_typed, .int v_at, .int v_sign, .int v_number, .ref a_h_aside, .ref a_h_places, .ref a_h_told])), (a_h_d, .inl (cI, 2086, .inl m_d_A))] H → va_D A [(a_h, .inr (8, [.ref a_h_d, .long m_account, .ref a_h_was, .ref a_h_accounts, .int v_states, .int v_refused, .ref a_h_text, .int v_typed, .int v_at, .int v_sign, .int v_number, .ref a_h_aside, .ref a_h_places, .ref a_h_told])), (a_h_d, .inl (cI, 2086, .inl m_d_A))] → va_S A s.heap H locs → lv_has ls 5 [(0, .ref a_h), (1, .int p0), (2, .int x2)] → W p l e ({ frames := 2, cells := 0, slots := 0, locals := 52 } : Room) s m ([.ref a_h, .int p0] : List Value).toArray below meth c H locs 0 0 (MQ below (QV D (ty4 cI cC cJ cB) A [(a_h, .inr (8, [.ref a_h_d, .long u.1, .ref a_h_was, .ref a_h_accounts, .int v_states, .int v_refused, .ref a_h_text, .int v_typed, .int v_at, .int v_sign, .int v_number, .ref a_h_aside, .ref a_h_places, .ref a_h_told])), (a_h_d, .inl (cI, 2086, .inl u.2))]) ([.ref a_h, .int p0] : List Value).toArray s 0 0 A) (F0 m 96 ls []) := by
    intro k
    induction k with
    | zero =>
      intro x2 m_account m_d_A H locs ls h
      exact nomatch (show (none : Option (Int64 × (Nat → Int32))) = some u from h)
    | succ k ih =>
      intro x2 m_account m_d_A H locs ls h hP hD hS hl
      rw [f_X8_goes_b96.eq_2] at h
      refine lv_aload_n hx hb dX8_goes_96 rfl (lv_at hl 0 rfl) ?_
      refine va_get (D := D) (ci := 8) (v := .ref a_h_d) (C := RX8) (T := TX8) (N := 14) hx hb hts in_X8_goes_X8 hown hK hP 0 rfl rfl 0 (by decide) (hts _ q_X8_goes_1) (fun _ h9 => h9) rfl dX8_goes_97 ?_
      refine lv_iconst (v := (5 : Int32)) hx hb dX8_goes_100 (by decide) ?_
      refine wx_iald hx hb hK hP 1 0 rfl rfl 5 (by decide) (by unfold vp_in; decide) dX8_goes_101 ?_
      refine lv_iconst (v := (1 : Int32)) hx hb dX8_goes_102 (by decide) ?_
      refine lv_icmp_le (tgt := 142) hx hb dX8_goes_103 (by decide) (fun hc5 => ?_) (fun hc5 => ?_)
      · replace h := it_e hc5 h
        exact B142 x2 m_account m_d_A _ _ _ h hP hD hS hl
      · replace h := if_e hc5 h
        refine lv_iload_n hx hb dX8_goes_106 rfl (lv_at hl 2 rfl) ?_
        refine lv_iload_n hx hb dX8_goes_107 rfl (lv_at hl 1 rfl) ?_
        refine lv_aload_n hx hb dX8_goes_108 rfl (lv_at hl 0 rfl) ?_
        refine va_get (D := D) (ci := 8) (v := .ref a_h_d) (C := RX8) (T := TX8) (N := 14) hx hb hts in_X8_goes_X8 hown hK hP 0 rfl rfl 0 (by decide) (hts _ q_X8_goes_1) (fun _ h9 => h9) rfl dX8_goes_109 ?_
        refine lv_bipush (v := (82 : Int32)) hx hb dX8_goes_112 (by decide) ?_
        refine lv_aload_n hx hb dX8_goes_114 rfl (lv_at hl 0 rfl) ?_
        refine va_get (D := D) (ci := 8) (v := .ref a_h_d) (C := RX8) (T := TX8) (N := 14) hx hb hts in_X8_goes_X8 hown hK hP 0 rfl rfl 0 (by decide) (hts _ q_X8_goes_1) (fun _ h9 => h9) rfl dX8_goes_115 ?_
        refine lv_iconst (v := (5 : Int32)) hx hb dX8_goes_118 (by decide) ?_
        refine wx_iald hx hb hK hP 1 0 rfl rfl 5 (by decide) (by unfold vp_in; decide) dX8_goes_119 ?_
        refine lv_iadd hx hb dX8_goes_120 ?_
        refine lv_iconst (v := (2 : Int32)) hx hb dX8_goes_121 (by decide) ?_
        refine lv_isub hx hb dX8_goes_122 ?_
        obtain ⟨hi23, h⟩ := gA_e h
        refine wx_iald hx hb hK hP 1 0 rfl rfl (Int32.toNatClampNeg (((82 : Int32) + (m_d_A 5)) - (2 : Int32))) rfl hi23 dX8_goes_123 ?_
        refine lv_isub hx hb dX8_goes_124 ?_
        refine lv_imul hx hb dX8_goes_125 ?_
        refine lv_if_lt (tgt := 142) hx hb dX8_goes_126 (by decide) (fun hc24 => ?_) (fun hc24 => ?_)
        · replace h := it_e hc24 h
          exact B142 x2 m_account m_d_A _ _ _ h hP hD hS hl
        · replace h := if_e hc24 h
          refine lv_aload_n hx hb dX8_goes_129 rfl (lv_at hl 0 rfl) ?_
          refine va_get (D := D) (ci := 8) (v := .ref a_h_d) (C := RX8) (T := TX8) (N := 14) hx hb hts in_X8_goes_X8 hown hK hP 0 rfl rfl 0 (by decide) (hts _ q_X8_goes_1) (fun _ h9 => h9) rfl dX8_goes_130 ?_
          refine lv_iconst (v := (5 : Int32)) hx hb dX8_goes_133 (by decide) ?_
          refine lv_dup2_11 hx hb dX8_goes_134 rfl rfl ?_
          refine wx_iald hx hb hK hP 1 0 rfl rfl 5 (by decide) (by unfold vp_in; decide) dX8_goes_135 ?_
          refine lv_iconst (v := (2 : Int32)) hx hb dX8_goes_136 (by decide) ?_
          refine lv_isub hx hb dX8_goes_137 ?_
          refine lv_topi (fun t25 et25 => ?_)
          replace h := nm_at h et25
          refine wx_iast hx hb hK hP hD hS 1 0 rfl rfl 5 (by decide) (by unfold vp_in; decide) dX8_goes_138 rfl (fun H locs hP hD hS => ?_)
          obtain ⟨g26, eg26, h⟩ := nm_x h
          have hP : va_P D vwCl [(a_h, .inr (8, [.ref a_h_d, .long m_account, .ref a_h_was, .ref a_h_accounts, .int v_states, .int v_refused, .ref a_h_text, .int v_typed, .int v_at, .int v_sign, .int v_number, .ref a_h_aside, .ref a_h_places, .ref a_h_told])), (a_h_d, .inl (cI, 2086, .inl g26))] H := by rw [eg26]; exact hP
          have hD : va_D A [(a_h, .inr (8, [.ref a_h_d, .long m_account, .ref a_h_was, .ref a_h_accounts, .int v_states, .int v_refused, .ref a_h_text, .int v_typed, .int v_at, .int v_sign, .int v_number, .ref a_h_aside, .ref a_h_places, .ref a_h_told])), (a_h_d, .inl (cI, 2086, .inl g26))] := by rw [eg26]; exact hD
          refine lv_goto (tgt := 96) hx hb dX8_goes_139 (by decide) ?_
          exact ih x2 m_account g26 _ _ _ h hP hD hS hl
  have B26 : ∀ (s0 : Int32) (m_account : Int64) (m_d_A : Nat → Int32) (H : Heap) (locs : List Loc) (ls : Array Slot), f_X8_goes_b26 N p0 s0 m_account m_d_A  = some u → va_P D vwCl [(a_h, .inr (8, [.ref a_h_d, .long m_account, .ref a_h_was, .ref a_h_accounts, .int v_states, .int v_refused, .ref a_h_text, .int v_typed, .int v_at, .int v_sign, .int v_number, .ref a_h_aside, .ref a_h_places, .ref a_h_told])), (a_h_d, .inl (cI, 2086, .inl m_d_A))] H → va_D A [(a_h, .inr (8, [.ref a_h_d, .long m_account, .ref a_h_was, .ref a_h_accounts, .int v_states, .int v_refused, .ref a_h_text, .int v_typed, .int v_at, .int v_sign, .int v_number, .ref a_h_aside, .ref a_h_places, .ref a_h_told])), (a_h_d, .inl (cI, 2086, .inl m_d_A))] → va_S A s.heap H locs → lv_has ls 5 [(0, .ref a_h), (1, .int p0)] → W p l e ({ frames := 2, cells := 0, slots := 0, locals := 52 } : Room) s m ([.ref a_h, .int p0] : List Value).toArray below meth c H locs 0 0 (MQ below (QV D (ty4 cI cC cJ cB) A [(a_h, .inr (8, [.ref a_h_d, .long u.1, .ref a_h_was, .ref a_h_accounts, .int v_states, .int v_refused, .ref a_h_text, .int v_typed, .int v_at, .int v_sign, .int v_number, .ref a_h_aside, .ref a_h_places, .ref a_h_told])), (a_h_d, .inl (cI, 2086, .inl u.2))]) ([.ref a_h, .int p0] : List Value).toArray s 0 0 A) (F0 m 26 ls [.int s0]) := by
    intro s0 m_account m_d_A H locs ls h hP hD hS hl
    unfold f_X8_goes_b26 at h
    refine lv_istore_n (lv' := [(2, .int s0), (0, .ref a_h), (1, .int p0)]) hx hb dX8_goes_26 rfl hl (by decide) rfl (fun ls hl => ?_)
    refine lv_aload_n hx hb dX8_goes_27 rfl (lv_at hl 1 rfl) ?_
    refine va_get (D := D) (ci := 8) (v := .ref a_h_d) (C := RX8) (T := TX8) (N := 14) hx hb hts in_X8_goes_X8 hown hK hP 0 rfl rfl 0 (by decide) (hts _ q_X8_goes_1) (fun _ h9 => h9) rfl dX8_goes_28 ?_
    refine lv_iconst (v := (4 : Int32)) hx hb dX8_goes_31 (by decide) ?_
    refine wx_iald hx hb hK hP 1 0 rfl rfl 4 (by decide) (by unfold vp_in; decide) dX8_goes_32 ?_
    refine lv_iload_n hx hb dX8_goes_33 rfl (lv_at hl 0 rfl) ?_
    refine lv_ineg hx hb dX8_goes_34 ?_
    refine lv_icmp_ne (tgt := 89) hx hb dX8_goes_35 (by decide) (fun hc3 => ?_) (fun hc3 => ?_)
    · replace h := it_e hc3 h
      refine lv_aload_n hx hb dX8_goes_89 rfl (lv_at hl 1 rfl) ?_
      refine va_get (D := D) (ci := 8) (v := .ref a_h_d) (C := RX8) (T := TX8) (N := 14) hx hb hts in_X8_goes_X8 hown hK hP 0 rfl rfl 0 (by decide) (hts _ q_X8_goes_1) (fun _ h9 => h9) rfl dX8_goes_90 ?_
      refine lv_iconst (v := (4 : Int32)) hx hb dX8_goes_93 (by decide) ?_
      refine lv_iload_n hx hb dX8_goes_94 rfl (lv_at hl 0 rfl) ?_
      refine wx_iast hx hb hK hP hD hS 1 0 rfl rfl 4 (by decide) (by unfold vp_in; decide) dX8_goes_95 rfl (fun H locs hP hD hS => ?_)
      obtain ⟨g4, eg4, h⟩ := nm_x h
      have hP : va_P D vwCl [(a_h, .inr (8, [.ref a_h_d, .long m_account, .ref a_h_was, .ref a_h_accounts, .int v_states, .int v_refused, .ref a_h_text, .int v_typed, .int v_at, .int v_sign, .int v_number, .ref a_h_aside, .ref a_h_places, .ref a_h_told])), (a_h_d, .inl (cI, 2086, .inl g4))] H := by rw [eg4]; exact hP
      have hD : va_D A [(a_h, .inr (8, [.ref a_h_d, .long m_account, .ref a_h_was, .ref a_h_accounts, .int v_states, .int v_refused, .ref a_h_text, .int v_typed, .int v_at, .int v_sign, .int v_number, .ref a_h_aside, .ref a_h_places, .ref a_h_told])), (a_h_d, .inl (cI, 2086, .inl g4))] := by rw [eg4]; exact hD
      exact B96 N s0 m_account g4 _ _ _ h hP hD hS (lv_sub hl [1, 2, 0] rfl)
    · replace h := in_e hc3 h
      refine lv_aload_n hx hb dX8_goes_38 rfl (lv_at hl 1 rfl) ?_
      refine va_get (D := D) (ci := 8) (v := .ref a_h_d) (C := RX8) (T := TX8) (N := 14) hx hb hts in_X8_goes_X8 hown hK hP 0 rfl rfl 0 (by decide) (hts _ q_X8_goes_1) (fun _ h9 => h9) rfl dX8_goes_39 ?_
      refine lv_bipush (v := (82 : Int32)) hx hb dX8_goes_42 (by decide) ?_
      refine lv_aload_n hx hb dX8_goes_44 rfl (lv_at hl 1 rfl) ?_
      refine va_get (D := D) (ci := 8) (v := .ref a_h_d) (C := RX8) (T := TX8) (N := 14) hx hb hts in_X8_goes_X8 hown hK hP 0 rfl rfl 0 (by decide) (hts _ q_X8_goes_1) (fun _ h9 => h9) rfl dX8_goes_45 ?_
      refine lv_iconst (v := (5 : Int32)) hx hb dX8_goes_48 (by decide) ?_
      refine wx_iald hx hb hK hP 1 0 rfl rfl 5 (by decide) (by unfold vp_in; decide) dX8_goes_49 ?_
      refine lv_iadd hx hb dX8_goes_50 ?_
      refine lv_aload_n hx hb dX8_goes_51 rfl (lv_at hl 1 rfl) ?_
      refine va_get (D := D) (ci := 8) (v := .ref a_h_d) (C := RX8) (T := TX8) (N := 14) hx hb hts in_X8_goes_X8 hown hK hP 0 rfl rfl 0 (by decide) (hts _ q_X8_goes_1) (fun _ h9 => h9) rfl dX8_goes_52 ?_
      refine lv_iconst (v := (0 : Int32)) hx hb dX8_goes_55 (by decide) ?_
      refine wx_iald hx hb hK hP 1 0 rfl rfl 0 (by decide) (by unfold vp_in; decide) dX8_goes_56 ?_
      refine lv_topi (fun t27 et27 => ?_)
      replace h := nm_at h et27
      obtain ⟨hi28, h⟩ := gA_e h
      refine wx_iast hx hb hK hP hD hS 1 0 rfl rfl (Int32.toNatClampNeg ((82 : Int32) + (m_d_A 5))) rfl hi28 dX8_goes_57 rfl (fun H locs hP hD hS => ?_)
      obtain ⟨g29, eg29, h⟩ := nm_x h
      have hP : va_P D vwCl [(a_h, .inr (8, [.ref a_h_d, .long m_account, .ref a_h_was, .ref a_h_accounts, .int v_states, .int v_refused, .ref a_h_text, .int v_typed, .int v_at, .int v_sign, .int v_number, .ref a_h_aside, .ref a_h_places, .ref a_h_told])), (a_h_d, .inl (cI, 2086, .inl g29))] H := by rw [eg29]; exact hP
      have hD : va_D A [(a_h, .inr (8, [.ref a_h_d, .long m_account, .ref a_h_was, .ref a_h_accounts, .int v_states, .int v_refused, .ref a_h_text, .int v_typed, .int v_at, .int v_sign, .int v_number, .ref a_h_aside, .ref a_h_places, .ref a_h_told])), (a_h_d, .inl (cI, 2086, .inl g29))] := by rw [eg29]; exact hD
      refine lv_aload_n hx hb dX8_goes_58 rfl (lv_at hl 1 rfl) ?_
      refine va_get (D := D) (ci := 8) (v := .ref a_h_d) (C := RX8) (T := TX8) (N := 14) hx hb hts in_X8_goes_X8 hown hK hP 0 rfl rfl 0 (by decide) (hts _ q_X8_goes_1) (fun _ h9 => h9) rfl dX8_goes_59 ?_
      refine lv_sipush (v := (1084 : Int32)) hx hb dX8_goes_62 (by decide) ?_
      refine lv_aload_n hx hb dX8_goes_65 rfl (lv_at hl 1 rfl) ?_
      refine va_get (D := D) (ci := 8) (v := .ref a_h_d) (C := RX8) (T := TX8) (N := 14) hx hb hts in_X8_goes_X8 hown hK hP 0 rfl rfl 0 (by decide) (hts _ q_X8_goes_1) (fun _ h9 => h9) rfl dX8_goes_66 ?_
      refine lv_iconst (v := (5 : Int32)) hx hb dX8_goes_69 (by decide) ?_
      refine wx_iald hx hb hK hP 1 0 rfl rfl 5 (by decide) (by unfold vp_in; decide) dX8_goes_70 ?_
      refine lv_iadd hx hb dX8_goes_71 ?_
      refine lv_aload_n hx hb dX8_goes_72 rfl (lv_at hl 1 rfl) ?_
      refine va_get (D := D) (ci := 8) (v := .ref a_h_d) (C := RX8) (T := TX8) (N := 14) hx hb hts in_X8_goes_X8 hown hK hP 0 rfl rfl 0 (by decide) (hts _ q_X8_goes_1) (fun _ h9 => h9) rfl dX8_goes_73 ?_
      refine lv_iconst (v := (1 : Int32)) hx hb dX8_goes_76 (by decide) ?_
      refine wx_iald hx hb hK hP 1 0 rfl rfl 1 (by decide) (by unfold vp_in; decide) dX8_goes_77 ?_
      refine lv_topi (fun t30 et30 => ?_)
      replace h := nm_at h et30
      obtain ⟨hi31, h⟩ := gA_e h
      refine wx_iast hx hb hK hP hD hS 1 0 rfl rfl (Int32.toNatClampNeg ((1084 : Int32) + (g29 5))) rfl hi31 dX8_goes_78 rfl (fun H locs hP hD hS => ?_)
      obtain ⟨g32, eg32, h⟩ := nm_x h
      have hP : va_P D vwCl [(a_h, .inr (8, [.ref a_h_d, .long m_account, .ref a_h_was, .ref a_h_accounts, .int v_states, .int v_refused, .ref a_h_text, .int v_typed, .int v_at, .int v_sign, .int v_number, .ref a_h_aside, .ref a_h_places, .ref a_h_told])), (a_h_d, .inl (cI, 2086, .inl g32))] H := by rw [eg32]; exact hP
      have hD : va_D A [(a_h, .inr (8, [.ref a_h_d, .long m_account, .ref a_h_was, .ref a_h_accounts, .int v_states, .int v_refused, .ref a_h_text, .int v_typed, .int v_at, .int v_sign, .int v_number, .ref a_h_aside, .ref a_h_places, .ref a_h_told])), (a_h_d, .inl (cI, 2086, .inl g32))] := by rw [eg32]; exact hD
      refine lv_aload_n hx hb dX8_goes_79 rfl (lv_at hl 1 rfl) ?_
      refine va_get (D := D) (ci := 8) (v := .ref a_h_d) (C := RX8) (T := TX8) (N := 14) hx hb hts in_X8_goes_X8 hown hK hP 0 rfl rfl 0 (by decide) (hts _ q_X8_goes_1) (fun _ h9 => h9) rfl dX8_goes_80 ?_
      refine lv_iconst (v := (5 : Int32)) hx hb dX8_goes_83 (by decide) ?_
      refine lv_dup2_11 hx hb dX8_goes_84 rfl rfl ?_
      refine wx_iald hx hb hK hP 1 0 rfl rfl 5 (by decide) (by unfold vp_in; decide) dX8_goes_85 ?_
      refine lv_iconst (v := (1 : Int32)) hx hb dX8_goes_86 (by decide) ?_
      refine lv_iadd hx hb dX8_goes_87 ?_
      refine lv_topi (fun t33 et33 => ?_)
      replace h := nm_at h et33
      refine wx_iast hx hb hK hP hD hS 1 0 rfl rfl 5 (by decide) (by unfold vp_in; decide) dX8_goes_88 rfl (fun H locs hP hD hS => ?_)
      obtain ⟨g34, eg34, h⟩ := nm_x h
      have hP : va_P D vwCl [(a_h, .inr (8, [.ref a_h_d, .long m_account, .ref a_h_was, .ref a_h_accounts, .int v_states, .int v_refused, .ref a_h_text, .int v_typed, .int v_at, .int v_sign, .int v_number, .ref a_h_aside, .ref a_h_places, .ref a_h_told])), (a_h_d, .inl (cI, 2086, .inl g34))] H := by rw [eg34]; exact hP
      have hD : va_D A [(a_h, .inr (8, [.ref a_h_d, .long m_account, .ref a_h_was, .ref a_h_accounts, .int v_states, .int v_refused, .ref a_h_text, .int v_typed, .int v_at, .int v_sign, .int v_number, .ref a_h_aside, .ref a_h_places, .ref a_h_told])), (a_h_d, .inl (cI, 2086, .inl g34))] := by rw [eg34]; exact hD
      refine lv_aload_n hx hb dX8_goes_89 rfl (lv_at hl 1 rfl) ?_
      refine va_get (D := D) (ci := 8) (v := .ref a_h_d) (C := RX8) (T := TX8) (N := 14) hx hb hts in_X8_goes_X8 hown hK hP 0 rfl rfl 0 (by decide) (hts _ q_X8_goes_1) (fun _ h9 => h9) rfl dX8_goes_90 ?_
      refine lv_iconst (v := (4 : Int32)) hx hb dX8_goes_93 (by decide) ?_
      refine lv_iload_n hx hb dX8_goes_94 rfl (lv_at hl 0 rfl) ?_
      refine wx_iast hx hb hK hP hD hS 1 0 rfl rfl 4 (by decide) (by unfold vp_in; decide) dX8_goes_95 rfl (fun H locs hP hD hS => ?_)
      obtain ⟨g35, eg35, h⟩ := nm_x h
      have hP : va_P D vwCl [(a_h, .inr (8, [.ref a_h_d, .long m_account, .ref a_h_was, .ref a_h_accounts, .int v_states, .int v_refused, .ref a_h_text, .int v_typed, .int v_at, .int v_sign, .int v_number, .ref a_h_aside, .ref a_h_places, .ref a_h_told])), (a_h_d, .inl (cI, 2086, .inl g35))] H := by rw [eg35]; exact hP
      have hD : va_D A [(a_h, .inr (8, [.ref a_h_d, .long m_account, .ref a_h_was, .ref a_h_accounts, .int v_states, .int v_refused, .ref a_h_text, .int v_typed, .int v_at, .int v_sign, .int v_number, .ref a_h_aside, .ref a_h_places, .ref a_h_told])), (a_h_d, .inl (cI, 2086, .inl g35))] := by rw [eg35]; exact hD
      exact B96 N s0 m_account g35 _ _ _ h hP hD hS (lv_sub hl [1, 2, 0] rfl)
  refine lv_iload_n hx hb dX8_goes_0 rfl (lv_at hl 1 rfl) ?_
  refine lv_aload_n hx hb dX8_goes_1 rfl (lv_at hl 0 rfl) ?_
  refine va_get (D := D) (ci := 8) (v := .ref a_h_d) (C := RX8) (T := TX8) (N := 14) hx hb hts in_X8_goes_X8 hown hK hP 0 rfl rfl 0 (by decide) (hts _ q_X8_goes_1) (fun _ h9 => h9) rfl dX8_goes_2 ?_
  refine lv_iconst (v := (0 : Int32)) hx hb dX8_goes_5 (by decide) ?_
  refine wx_iald hx hb hK hP 1 0 rfl rfl 0 (by decide) (by unfold vp_in; decide) dX8_goes_6 ?_
  refine lv_icmp_ne (tgt := 11) hx hb dX8_goes_7 (by decide) (fun hc1 => ?_) (fun hc1 => ?_)
  · replace h := it_e hc1 h
    refine lv_iload_n hx hb dX8_goes_11 rfl (lv_at hl 1 rfl) ?_
    refine lv_aload_n hx hb dX8_goes_12 rfl (lv_at hl 0 rfl) ?_
    refine va_get (D := D) (ci := 8) (v := .ref a_h_d) (C := RX8) (T := TX8) (N := 14) hx hb hts in_X8_goes_X8 hown hK hP 0 rfl rfl 0 (by decide) (hts _ q_X8_goes_1) (fun _ h9 => h9) rfl dX8_goes_13 ?_
    refine lv_iconst (v := (0 : Int32)) hx hb dX8_goes_16 (by decide) ?_
    refine wx_iald hx hb hK hP 1 0 rfl rfl 0 (by decide) (by unfold vp_in; decide) dX8_goes_17 ?_
    refine lv_icmp_le (tgt := 25) hx hb dX8_goes_18 (by decide) (fun hc2 => ?_) (fun hc2 => ?_)
    · replace h := it_e hc2 h
      refine lv_iconst (v := (-1 : Int32)) hx hb dX8_goes_25 (by decide) ?_
      exact B26 (-1 : Int32) v_account v_d_A _ _ _ h hP hD hS hl
    · replace h := if_e hc2 h
      refine lv_iconst (v := (1 : Int32)) hx hb dX8_goes_21 (by decide) ?_
      refine lv_goto (tgt := 26) hx hb dX8_goes_22 (by decide) ?_
      exact B26 (1 : Int32) v_account v_d_A _ _ _ h hP hD hS hl
  · replace h := in_e hc1 h
    obtain rfl := sm_e h
    exact rx_v hx hb hr  hP hK hD hS dX8_goes_10 hlocks
-- X8_onPan
def f_X8_onPan_b4 (v_d_A : Nat → Int32) : Nat → Int32 → Int32 → Option (Int32)
  | 0, _, _ => none
  | k + 1, x1, x2 =>
    (if (v_d_A 41) ≤ x2 then some x1
    else gA ((74 : Int32) + x2) 2086 (gA ((42 : Int32) + x2) 2086 (nm (x1 + ((v_d_A (Int32.toNatClampNeg ((74 : Int32) + x2))) * (v_d_A (Int32.toNatClampNeg ((42 : Int32) + x2))))) (fun t4 => nm (x2 + (1 : Int32)) (fun t5 => (f_X8_onPan_b4 v_d_A k t4 t5))))))
def f_X8_onPan (N : Nat) (v_d_A : Nat → Int32) : Option (Int32) :=
  (f_X8_onPan_b4 v_d_A N (0 : Int32) (0 : Int32))
theorem q_X8_onPan_1 : (.fieldLink RX8 7 "SpringBalanceModel" "d" "[I" : Cond) ∈ wsX8_onPan := List.mem_of_getElem? (i := 1) (by decide +kernel)
set_option maxRecDepth 20000 in
theorem in_X8_onPan_X8 : ∀ w ∈ u_ws RX8 TX8 14, w ∈ wsX8_onPan := by decide +kernel
set_option maxHeartbeats 8000000 in
set_option maxRecDepth 100000 in
theorem k_X8_onPan (l : Launch) (D : va_G) (cI cC cJ cB : ClassId) (a_h a_h_d a_h_was a_h_accounts a_h_text a_h_aside a_h_places a_h_told : Nat) (v_account : Int64) (v_states : Int32) (v_refused : Int32) (v_typed : Int32) (v_at : Int32) (v_sign : Int32) (v_number : Int32) (v_d_A : Nat → Int32) (N : Nat) (sz : Nat) (u : Int32) (hu : f_X8_onPan N v_d_A = some u) :
    Met l yX8_onPan wsX8_onPan ({ frames := 0, cells := 0, slots := 0, locals := 0 } : Room) (va_Pc [.ref a_h] (PreW D (ty4 cI cC cJ cB) sz [(a_h, .inr (8, [.ref a_h_d, .long v_account, .ref a_h_was, .ref a_h_accounts, .int v_states, .int v_refused, .ref a_h_text, .int v_typed, .int v_at, .int v_sign, .int v_number, .ref a_h_aside, .ref a_h_places, .ref a_h_told])), (a_h_d, .inl (cI, 2086, .inl v_d_A))]))
      (QI D (ty4 cI cC cJ cB) (va_A [(a_h, .inr (8, [.ref a_h_d, .long v_account, .ref a_h_was, .ref a_h_accounts, .int v_states, .int v_refused, .ref a_h_text, .int v_typed, .int v_at, .int v_sign, .int v_number, .ref a_h_aside, .ref a_h_places, .ref a_h_told])), (a_h_d, .inl (cI, 2086, .inl v_d_A))] sz) [(a_h, .inr (8, [.ref a_h_d, .long v_account, .ref a_h_was, .ref a_h_accounts, .int v_states, .int v_refused, .ref a_h_text, .int v_typed, .int v_at, .int v_sign, .int v_number, .ref a_h_aside, .ref a_h_places, .ref a_h_told])), (a_h_d, .inl (cI, 2086, .inl v_d_A))] u) 0 0 (va_A [(a_h, .inr (8, [.ref a_h_d, .long v_account, .ref a_h_was, .ref a_h_accounts, .int v_states, .int v_refused, .ref a_h_text, .int v_typed, .int v_at, .int v_sign, .int v_number, .ref a_h_aside, .ref a_h_places, .ref a_h_told])), (a_h_d, .inl (cI, 2086, .inl v_d_A))] sz) := by
  refine met_go (y := yX8_onPan) (wsy := wsX8_onPan) (cc := cX8_onPan) (maxL := 3) (ret := (some .int)) (av := [.ref a_h]) (Qc := fun A => QI D (ty4 cI cC cJ cB) A [(a_h, .inr (8, [.ref a_h_d, .long v_account, .ref a_h_was, .ref a_h_accounts, .int v_states, .int v_refused, .ref a_h_text, .int v_typed, .int v_at, .int v_sign, .int v_number, .ref a_h_aside, .ref a_h_places, .ref a_h_told])), (a_h_d, .inl (cI, 2086, .inl v_d_A))] u) (by decide) rfl (Nat.le_of_ble_eq_true rfl) ?_
  intro p e s m below meth c A ls hx hb hr hml hown hts hlocks hnm hN hK hP hD hS hA hl
  have h := hu
  clear hu
  unfold f_X8_onPan at h
  have hl : lv_has ls 3 [(0, .ref a_h)] := hl
  have B4 : ∀ (k : Nat) (x1 : Int32) (x2 : Int32) (H : Heap) (locs : List Loc) (ls : Array Slot), f_X8_onPan_b4 v_d_A k x1 x2 = some u → va_P D vwCl [(a_h, .inr (8, [.ref a_h_d, .long v_account, .ref a_h_was, .ref a_h_accounts, .int v_states, .int v_refused, .ref a_h_text, .int v_typed, .int v_at, .int v_sign, .int v_number, .ref a_h_aside, .ref a_h_places, .ref a_h_told])), (a_h_d, .inl (cI, 2086, .inl v_d_A))] H → va_D A [(a_h, .inr (8, [.ref a_h_d, .long v_account, .ref a_h_was, .ref a_h_accounts, .int v_states, .int v_refused, .ref a_h_text, .int v_typed, .int v_at, .int v_sign, .int v_number, .ref a_h_aside, .ref a_h_places, .ref a_h_told])), (a_h_d, .inl (cI, 2086, .inl v_d_A))] → va_S A s.heap H locs → lv_has ls 3 [(0, .ref a_h), (1, .int x1), (2, .int x2)] → W p l e ({ frames := 0, cells := 0, slots := 0, locals := 0 } : Room) s m ([.ref a_h] : List Value).toArray below meth c H locs 0 0 (MQ below (QI D (ty4 cI cC cJ cB) A [(a_h, .inr (8, [.ref a_h_d, .long v_account, .ref a_h_was, .ref a_h_accounts, .int v_states, .int v_refused, .ref a_h_text, .int v_typed, .int v_at, .int v_sign, .int v_number, .ref a_h_aside, .ref a_h_places, .ref a_h_told])), (a_h_d, .inl (cI, 2086, .inl v_d_A))] u) ([.ref a_h] : List Value).toArray s 0 0 A) (F0 m 4 ls []) := by
    intro k
    induction k with
    | zero =>
      intro x1 x2 H locs ls h
      exact nomatch (show (none : Option (Int32)) = some u from h)
    | succ k ih =>
      intro x1 x2 H locs ls h hP hD hS hl
      rw [f_X8_onPan_b4.eq_2] at h
      refine lv_iload_n hx hb dX8_onPan_4 rfl (lv_at hl 2 rfl) ?_
      refine lv_aload_n hx hb dX8_onPan_5 rfl (lv_at hl 0 rfl) ?_
      refine va_get (D := D) (ci := 8) (v := .ref a_h_d) (C := RX8) (T := TX8) (N := 14) hx hb hts in_X8_onPan_X8 hown hK hP 0 rfl rfl 0 (by decide) (hts _ q_X8_onPan_1) (fun _ h9 => h9) rfl dX8_onPan_6 ?_
      refine lv_bipush (v := (41 : Int32)) hx hb dX8_onPan_9 (by decide) ?_
      refine wx_iald hx hb hK hP 1 0 rfl rfl 41 (by decide) (by unfold vp_in; decide) dX8_onPan_11 ?_
      refine lv_icmp_ge (tgt := 43) hx hb dX8_onPan_12 (by decide) (fun hc1 => ?_) (fun hc1 => ?_)
      · replace h := it_e hc1 h
        refine lv_iload_n hx hb dX8_onPan_43 rfl (lv_at hl 1 rfl) ?_
        obtain rfl := sm_e h
        exact rx_i hx hb hr  hP hK hD hS dX8_onPan_44 hlocks
      · replace h := if_e hc1 h
        refine lv_iload_n hx hb dX8_onPan_15 rfl (lv_at hl 1 rfl) ?_
        refine lv_aload_n hx hb dX8_onPan_16 rfl (lv_at hl 0 rfl) ?_
        refine va_get (D := D) (ci := 8) (v := .ref a_h_d) (C := RX8) (T := TX8) (N := 14) hx hb hts in_X8_onPan_X8 hown hK hP 0 rfl rfl 0 (by decide) (hts _ q_X8_onPan_1) (fun _ h9 => h9) rfl dX8_onPan_17 ?_
        refine lv_bipush (v := (74 : Int32)) hx hb dX8_onPan_20 (by decide) ?_
        refine lv_iload_n hx hb dX8_onPan_22 rfl (lv_at hl 2 rfl) ?_
        refine lv_iadd hx hb dX8_onPan_23 ?_
        obtain ⟨hi2, h⟩ := gA_e h
        refine wx_iald hx hb hK hP 1 0 rfl rfl (Int32.toNatClampNeg ((74 : Int32) + x2)) rfl hi2 dX8_onPan_24 ?_
        refine lv_aload_n hx hb dX8_onPan_25 rfl (lv_at hl 0 rfl) ?_
        refine va_get (D := D) (ci := 8) (v := .ref a_h_d) (C := RX8) (T := TX8) (N := 14) hx hb hts in_X8_onPan_X8 hown hK hP 0 rfl rfl 0 (by decide) (hts _ q_X8_onPan_1) (fun _ h9 => h9) rfl dX8_onPan_26 ?_
        refine lv_bipush (v := (42 : Int32)) hx hb dX8_onPan_29 (by decide) ?_
        refine lv_iload_n hx hb dX8_onPan_31 rfl (lv_at hl 2 rfl) ?_
        refine lv_iadd hx hb dX8_onPan_32 ?_
        obtain ⟨hi3, h⟩ := gA_e h
        refine wx_iald hx hb hK hP 1 0 rfl rfl (Int32.toNatClampNeg ((42 : Int32) + x2)) rfl hi3 dX8_onPan_33 ?_
        refine lv_imul hx hb dX8_onPan_34 ?_
        refine lv_iadd hx hb dX8_onPan_35 ?_
        refine lv_topi (fun t4 et4 => ?_)
        replace h := nm_at h et4
        refine lv_istore_n (lv' := [(1, .int t4), (0, .ref a_h), (2, .int x2)]) hx hb dX8_onPan_36 rfl hl (by decide) rfl (fun ls hl => ?_)
        obtain ⟨t5, et5, h⟩ := nm_x h
        refine lv_iinc (v := t5) (lv' := [(2, .int t5), (1, .int t4), (0, .ref a_h)]) hx hb dX8_onPan_37 hl (k := 2) rfl (by rw [et5]; rfl) (by decide) rfl (fun ls hl => ?_)
        refine lv_goto (tgt := 4) hx hb dX8_onPan_40 (by decide) ?_
        exact ih t4 t5 _ _ _ h hP hD hS (lv_sub hl [2, 1, 0] rfl)
  refine lv_iconst (v := (0 : Int32)) hx hb dX8_onPan_0 (by decide) ?_
  refine lv_istore_n (lv' := [(1, .int (0 : Int32)), (0, .ref a_h)]) hx hb dX8_onPan_1 rfl hl (by decide) rfl (fun ls hl => ?_)
  refine lv_iconst (v := (0 : Int32)) hx hb dX8_onPan_2 (by decide) ?_
  refine lv_istore_n (lv' := [(2, .int (0 : Int32)), (1, .int (0 : Int32)), (0, .ref a_h)]) hx hb dX8_onPan_3 rfl hl (by decide) rfl (fun ls hl => ?_)
  exact B4 N (0 : Int32) (0 : Int32) _ _ _ h hP hD hS (lv_sub hl [2, 1, 0] rfl)
-- X8_readingOf
def f_X8_readingOf_b54 (v_d_A : Nat → Int32) (p0 : Int32) : Nat → Int32 → Option (Int32)
  | 0, _ => none
  | k + 1, x3 =>
    gA (((27 : Int32) + x3) + (1 : Int32)) 2086 ((if p0 < (v_d_A (Int32.toNatClampNeg (((27 : Int32) + x3) + (1 : Int32)))) then gA (((34 : Int32) + x3) + (1 : Int32)) 2086 (gA ((34 : Int32) + x3) 2086 (nm (Int32.toInt64 ((v_d_A (Int32.toNatClampNeg (((34 : Int32) + x3) + (1 : Int32)))) - (v_d_A (Int32.toNatClampNeg ((34 : Int32) + x3))))) (fun t9 => gA ((34 : Int32) + x3) 2086 (gA ((27 : Int32) + x3) 2086 (gA (((27 : Int32) + x3) + (1 : Int32)) 2086 (gA ((27 : Int32) + x3) 2086 (Option.bind (f_X8_down (t9 * (Int32.toInt64 (p0 - (v_d_A (Int32.toNatClampNeg ((27 : Int32) + x3)))))) (Int32.toInt64 ((v_d_A (Int32.toNatClampNeg (((27 : Int32) + x3) + (1 : Int32)))) - (v_d_A (Int32.toNatClampNeg ((27 : Int32) + x3)))))) (fun u14 => some ((v_d_A (Int32.toNatClampNeg ((34 : Int32) + x3))) + u14)))))))))
    else nm (x3 + (1 : Int32)) (fun t15 => (f_X8_readingOf_b54 v_d_A p0 k t15))))
def f_X8_readingOf (N : Nat) (v_d_A : Nat → Int32) (p0 : Int32) : Option (Int32) :=
  nm ((v_d_A 26) - (1 : Int32)) (fun t1 => (if (v_d_A 27) < p0 then gA ((27 : Int32) + t1) 2086 ((if p0 < (v_d_A (Int32.toNatClampNeg ((27 : Int32) + t1))) then (f_X8_readingOf_b54 v_d_A p0 N (0 : Int32))
    else gA ((34 : Int32) + t1) 2086 (some (v_d_A (Int32.toNatClampNeg ((34 : Int32) + t1))))))
    else some (v_d_A 34)))
theorem q_X8_readingOf_1 : (.fieldLink RX8 7 "SpringBalanceModel" "d" "[I" : Cond) ∈ wsX8_readingOf := List.mem_of_getElem? (i := 1) (by decide +kernel)
set_option maxRecDepth 20000 in
theorem in_X8_readingOf_X8 : ∀ w ∈ u_ws RX8 TX8 14, w ∈ wsX8_readingOf := by decide +kernel
set_option maxHeartbeats 8000000 in
set_option maxRecDepth 100000 in
theorem k_X8_readingOf (l : Launch) (D : va_G) (cI cC cJ cB : ClassId) (a_h a_h_d a_h_was a_h_accounts a_h_text a_h_aside a_h_places a_h_told : Nat) (v_account : Int64) (v_states : Int32) (v_refused : Int32) (v_typed : Int32) (v_at : Int32) (v_sign : Int32) (v_number : Int32) (v_d_A : Nat → Int32) (N : Nat) (p0 : Int32) (sz : Nat) (u : Int32) (hu : f_X8_readingOf N v_d_A p0 = some u) :
    Met l yX8_readingOf wsX8_readingOf ({ frames := 1, cells := 0, slots := 0, locals := 25 } : Room) (va_Pc [.ref a_h, .int p0] (PreW D (ty4 cI cC cJ cB) sz [(a_h, .inr (8, [.ref a_h_d, .long v_account, .ref a_h_was, .ref a_h_accounts, .int v_states, .int v_refused, .ref a_h_text, .int v_typed, .int v_at, .int v_sign, .int v_number, .ref a_h_aside, .ref a_h_places, .ref a_h_told])), (a_h_d, .inl (cI, 2086, .inl v_d_A))]))
      (QI D (ty4 cI cC cJ cB) (va_A [(a_h, .inr (8, [.ref a_h_d, .long v_account, .ref a_h_was, .ref a_h_accounts, .int v_states, .int v_refused, .ref a_h_text, .int v_typed, .int v_at, .int v_sign, .int v_number, .ref a_h_aside, .ref a_h_places, .ref a_h_told])), (a_h_d, .inl (cI, 2086, .inl v_d_A))] sz) [(a_h, .inr (8, [.ref a_h_d, .long v_account, .ref a_h_was, .ref a_h_accounts, .int v_states, .int v_refused, .ref a_h_text, .int v_typed, .int v_at, .int v_sign, .int v_number, .ref a_h_aside, .ref a_h_places, .ref a_h_told])), (a_h_d, .inl (cI, 2086, .inl v_d_A))] u) 0 0 (va_A [(a_h, .inr (8, [.ref a_h_d, .long v_account, .ref a_h_was, .ref a_h_accounts, .int v_states, .int v_refused, .ref a_h_text, .int v_typed, .int v_at, .int v_sign, .int v_number, .ref a_h_aside, .ref a_h_places, .ref a_h_told])), (a_h_d, .inl (cI, 2086, .inl v_d_A))] sz) := by
  refine met_go (y := yX8_readingOf) (wsy := wsX8_readingOf) (cc := cX8_readingOf) (maxL := 6) (ret := (some .int)) (av := [.ref a_h, .int p0]) (Qc := fun A => QI D (ty4 cI cC cJ cB) A [(a_h, .inr (8, [.ref a_h_d, .long v_account, .ref a_h_was, .ref a_h_accounts, .int v_states, .int v_refused, .ref a_h_text, .int v_typed, .int v_at, .int v_sign, .int v_number, .ref a_h_aside, .ref a_h_places, .ref a_h_told])), (a_h_d, .inl (cI, 2086, .inl v_d_A))] u) (by decide) rfl (Nat.le_of_ble_eq_true rfl) ?_
  intro p e s m below meth c A ls hx hb hr hml hown hts hlocks hnm hN hK hP hD hS hA hl
  have h := hu
  clear hu
  unfold f_X8_readingOf at h
  have hl : lv_has ls 6 [(0, .ref a_h), (1, .int p0)] := hl
  have B54 : ∀ (k : Nat) (x2 : Int32) (x3 : Int32) (H : Heap) (locs : List Loc) (ls : Array Slot), f_X8_readingOf_b54 v_d_A p0 k x3 = some u → va_P D vwCl [(a_h, .inr (8, [.ref a_h_d, .long v_account, .ref a_h_was, .ref a_h_accounts, .int v_states, .int v_refused, .ref a_h_text, .int v_typed, .int v_at, .int v_sign, .int v_number, .ref a_h_aside, .ref a_h_places, .ref a_h_told])), (a_h_d, .inl (cI, 2086, .inl v_d_A))] H → va_D A [(a_h, .inr (8, [.ref a_h_d, .long v_account, .ref a_h_was, .ref a_h_accounts, .int v_states, .int v_refused, .ref a_h_text, .int v_typed, .int v_at, .int v_sign, .int v_number, .ref a_h_aside, .ref a_h_places, .ref a_h_told])), (a_h_d, .inl (cI, 2086, .inl v_d_A))] → va_S A s.heap H locs → lv_has ls 6 [(0, .ref a_h), (1, .int p0), (2, .int x2), (3, .int x3)] → W p l e ({ frames := 1, cells := 0, slots := 0, locals := 25 } : Room) s m ([.ref a_h, .int p0] : List Value).toArray below meth c H locs 0 0 (MQ below (QI D (ty4 cI cC cJ cB) A [(a_h, .inr (8, [.ref a_h_d, .long v_account, .ref a_h_was, .ref a_h_accounts, .int v_states, .int v_refused, .ref a_h_text, .int v_typed, .int v_at, .int v_sign, .int v_number, .ref a_h_aside, .ref a_h_places, .ref a_h_told])), (a_h_d, .inl (cI, 2086, .inl v_d_A))] u) ([.ref a_h, .int p0] : List Value).toArray s 0 0 A) (F0 m 54 ls []) := by
    intro k
    induction k with
    | zero =>
      intro x2 x3 H locs ls h
      exact nomatch (show (none : Option (Int32)) = some u from h)
    | succ k ih =>
      intro x2 x3 H locs ls h hP hD hS hl
      rw [f_X8_readingOf_b54.eq_2] at h
      refine lv_aload_n hx hb dX8_readingOf_54 rfl (lv_at hl 0 rfl) ?_
      refine va_get (D := D) (ci := 8) (v := .ref a_h_d) (C := RX8) (T := TX8) (N := 14) hx hb hts in_X8_readingOf_X8 hown hK hP 0 rfl rfl 0 (by decide) (hts _ q_X8_readingOf_1) (fun _ h9 => h9) rfl dX8_readingOf_55 ?_
      refine lv_bipush (v := (27 : Int32)) hx hb dX8_readingOf_58 (by decide) ?_
      refine lv_iload_n hx hb dX8_readingOf_60 rfl (lv_at hl 3 rfl) ?_
      refine lv_iadd hx hb dX8_readingOf_61 ?_
      refine lv_iconst (v := (1 : Int32)) hx hb dX8_readingOf_62 (by decide) ?_
      refine lv_iadd hx hb dX8_readingOf_63 ?_
      obtain ⟨hi5, h⟩ := gA_e h
      refine wx_iald hx hb hK hP 1 0 rfl rfl (Int32.toNatClampNeg (((27 : Int32) + x3) + (1 : Int32))) rfl hi5 dX8_readingOf_64 ?_
      refine lv_iload_n hx hb dX8_readingOf_65 rfl (lv_at hl 1 rfl) ?_
      refine lv_icmp_gt (tgt := 75) hx hb dX8_readingOf_66 (by decide) (fun hc6 => ?_) (fun hc6 => ?_)
      · replace h := it_e hc6 h
        refine lv_aload_n hx hb dX8_readingOf_75 rfl (lv_at hl 0 rfl) ?_
        refine va_get (D := D) (ci := 8) (v := .ref a_h_d) (C := RX8) (T := TX8) (N := 14) hx hb hts in_X8_readingOf_X8 hown hK hP 0 rfl rfl 0 (by decide) (hts _ q_X8_readingOf_1) (fun _ h9 => h9) rfl dX8_readingOf_76 ?_
        refine lv_bipush (v := (34 : Int32)) hx hb dX8_readingOf_79 (by decide) ?_
        refine lv_iload_n hx hb dX8_readingOf_81 rfl (lv_at hl 3 rfl) ?_
        refine lv_iadd hx hb dX8_readingOf_82 ?_
        refine lv_iconst (v := (1 : Int32)) hx hb dX8_readingOf_83 (by decide) ?_
        refine lv_iadd hx hb dX8_readingOf_84 ?_
        obtain ⟨hi7, h⟩ := gA_e h
        refine wx_iald hx hb hK hP 1 0 rfl rfl (Int32.toNatClampNeg (((34 : Int32) + x3) + (1 : Int32))) rfl hi7 dX8_readingOf_85 ?_
        refine lv_aload_n hx hb dX8_readingOf_86 rfl (lv_at hl 0 rfl) ?_
        refine va_get (D := D) (ci := 8) (v := .ref a_h_d) (C := RX8) (T := TX8) (N := 14) hx hb hts in_X8_readingOf_X8 hown hK hP 0 rfl rfl 0 (by decide) (hts _ q_X8_readingOf_1) (fun _ h9 => h9) rfl dX8_readingOf_87 ?_
        refine lv_bipush (v := (34 : Int32)) hx hb dX8_readingOf_90 (by decide) ?_
        refine lv_iload_n hx hb dX8_readingOf_92 rfl (lv_at hl 3 rfl) ?_
        refine lv_iadd hx hb dX8_readingOf_93 ?_
        obtain ⟨hi8, h⟩ := gA_e h
        refine wx_iald hx hb hK hP 1 0 rfl rfl (Int32.toNatClampNeg ((34 : Int32) + x3)) rfl hi8 dX8_readingOf_94 ?_
        refine lv_isub hx hb dX8_readingOf_95 ?_
        refine lv_i2l (v := (Int32.toInt64 ((v_d_A (Int32.toNatClampNeg (((34 : Int32) + x3) + (1 : Int32)))) - (v_d_A (Int32.toNatClampNeg ((34 : Int32) + x3)))))) hx hb dX8_readingOf_96 rfl ?_
        refine lv_topl (fun t9 et9 => ?_)
        replace h := nm_at h et9
        refine lv_lstore (lv' := [(4, .long t9), (0, .ref a_h), (1, .int p0), (2, .int x2), (3, .int x3)]) hx hb dX8_readingOf_97 hl (by decide) rfl (fun ls hl => ?_)
        refine lv_aload_n hx hb dX8_readingOf_99 rfl (lv_at hl 1 rfl) ?_
        refine va_get (D := D) (ci := 8) (v := .ref a_h_d) (C := RX8) (T := TX8) (N := 14) hx hb hts in_X8_readingOf_X8 hown hK hP 0 rfl rfl 0 (by decide) (hts _ q_X8_readingOf_1) (fun _ h9 => h9) rfl dX8_readingOf_100 ?_
        refine lv_bipush (v := (34 : Int32)) hx hb dX8_readingOf_103 (by decide) ?_
        refine lv_iload_n hx hb dX8_readingOf_105 rfl (lv_at hl 4 rfl) ?_
        refine lv_iadd hx hb dX8_readingOf_106 ?_
        obtain ⟨hi10, h⟩ := gA_e h
        refine wx_iald hx hb hK hP 1 0 rfl rfl (Int32.toNatClampNeg ((34 : Int32) + x3)) rfl hi10 dX8_readingOf_107 ?_
        refine lv_lload hx hb dX8_readingOf_108 (lv_at hl 0 rfl) ?_
        refine lv_iload_n hx hb dX8_readingOf_110 rfl (lv_at hl 2 rfl) ?_
        refine lv_aload_n hx hb dX8_readingOf_111 rfl (lv_at hl 1 rfl) ?_
        refine va_get (D := D) (ci := 8) (v := .ref a_h_d) (C := RX8) (T := TX8) (N := 14) hx hb hts in_X8_readingOf_X8 hown hK hP 0 rfl rfl 0 (by decide) (hts _ q_X8_readingOf_1) (fun _ h9 => h9) rfl dX8_readingOf_112 ?_
        refine lv_bipush (v := (27 : Int32)) hx hb dX8_readingOf_115 (by decide) ?_
        refine lv_iload_n hx hb dX8_readingOf_117 rfl (lv_at hl 4 rfl) ?_
        refine lv_iadd hx hb dX8_readingOf_118 ?_
        obtain ⟨hi11, h⟩ := gA_e h
        refine wx_iald hx hb hK hP 1 0 rfl rfl (Int32.toNatClampNeg ((27 : Int32) + x3)) rfl hi11 dX8_readingOf_119 ?_
        refine lv_isub hx hb dX8_readingOf_120 ?_
        refine lv_i2l (v := (Int32.toInt64 (p0 - (v_d_A (Int32.toNatClampNeg ((27 : Int32) + x3)))))) hx hb dX8_readingOf_121 rfl ?_
        refine lv_lmul hx hb dX8_readingOf_122 ?_
        refine lv_aload_n hx hb dX8_readingOf_123 rfl (lv_at hl 1 rfl) ?_
        refine va_get (D := D) (ci := 8) (v := .ref a_h_d) (C := RX8) (T := TX8) (N := 14) hx hb hts in_X8_readingOf_X8 hown hK hP 0 rfl rfl 0 (by decide) (hts _ q_X8_readingOf_1) (fun _ h9 => h9) rfl dX8_readingOf_124 ?_
        refine lv_bipush (v := (27 : Int32)) hx hb dX8_readingOf_127 (by decide) ?_
        refine lv_iload_n hx hb dX8_readingOf_129 rfl (lv_at hl 4 rfl) ?_
        refine lv_iadd hx hb dX8_readingOf_130 ?_
        refine lv_iconst (v := (1 : Int32)) hx hb dX8_readingOf_131 (by decide) ?_
        refine lv_iadd hx hb dX8_readingOf_132 ?_
        obtain ⟨hi12, h⟩ := gA_e h
        refine wx_iald hx hb hK hP 1 0 rfl rfl (Int32.toNatClampNeg (((27 : Int32) + x3) + (1 : Int32))) rfl hi12 dX8_readingOf_133 ?_
        refine lv_aload_n hx hb dX8_readingOf_134 rfl (lv_at hl 1 rfl) ?_
        refine va_get (D := D) (ci := 8) (v := .ref a_h_d) (C := RX8) (T := TX8) (N := 14) hx hb hts in_X8_readingOf_X8 hown hK hP 0 rfl rfl 0 (by decide) (hts _ q_X8_readingOf_1) (fun _ h9 => h9) rfl dX8_readingOf_135 ?_
        refine lv_bipush (v := (27 : Int32)) hx hb dX8_readingOf_138 (by decide) ?_
        refine lv_iload_n hx hb dX8_readingOf_140 rfl (lv_at hl 4 rfl) ?_
        refine lv_iadd hx hb dX8_readingOf_141 ?_
        obtain ⟨hi13, h⟩ := gA_e h
        refine wx_iald hx hb hK hP 1 0 rfl rfl (Int32.toNatClampNeg ((27 : Int32) + x3)) rfl hi13 dX8_readingOf_142 ?_
        refine lv_isub hx hb dX8_readingOf_143 ?_
        refine lv_i2l (v := (Int32.toInt64 ((v_d_A (Int32.toNatClampNeg (((27 : Int32) + x3) + (1 : Int32)))) - (v_d_A (Int32.toNatClampNeg ((27 : Int32) + x3)))))) hx hb dX8_readingOf_144 rfl ?_
        obtain ⟨u14, hu14, h⟩ := bd_e h
        refine kx_i (mc := 0) (ms := 0) (wr := [(a_h, .inr (8, [.ref a_h_d, .long v_account, .ref a_h_was, .ref a_h_accounts, .int v_states, .int v_refused, .ref a_h_text, .int v_typed, .int v_at, .int v_sign, .int v_number, .ref a_h_aside, .ref a_h_places, .ref a_h_told])), (a_h_d, .inl (cI, 2086, .inl v_d_A))]) (ws2 := [(a_h, .inr (8, [.ref a_h_d, .long v_account, .ref a_h_was, .ref a_h_accounts, .int v_states, .int v_refused, .ref a_h_text, .int v_typed, .int v_at, .int v_sign, .int v_number, .ref a_h_aside, .ref a_h_places, .ref a_h_told])), (a_h_d, .inl (cI, 2086, .inl v_d_A))]) (va_runS (As := [.long (t9 * (Int32.toInt64 (p0 - (v_d_A (Int32.toNatClampNeg ((27 : Int32) + x3)))))), .long (Int32.toInt64 ((v_d_A (Int32.toNatClampNeg (((27 : Int32) + x3) + (1 : Int32)))) - (v_d_A (Int32.toNatClampNeg ((27 : Int32) + x3)))))]) (rest := [.int (v_d_A (Int32.toNatClampNeg ((34 : Int32) + x3)))]) ⟨hx, hb, hml, hown, hts⟩ (k_X8_down l D cI cC cJ cB N (t9 * (Int32.toInt64 (p0 - (v_d_A (Int32.toNatClampNeg ((27 : Int32) + x3)))))) (Int32.toInt64 ((v_d_A (Int32.toNatClampNeg (((27 : Int32) + x3) + (1 : Int32)))) - (v_d_A (Int32.toNatClampNeg ((27 : Int32) + x3))))) H.size _ hu14) (va_cwS 2 hts gX8_readingOf_X8_down rfl rfl rfl (by decide +kernel) ⟨Nat.le_of_ble_eq_true rfl, Nat.le_of_ble_eq_true rfl⟩) (pv_S hP hD hK hN [] rfl rfl) rfl rfl hl.1 rfl (lv_room (Nat.le_of_ble_eq_true rfl)) dX8_readingOf_145 ⟨Nat.zero_le _, Nat.zero_le _⟩) hP hD hS hA [] [0, 1] [0, 1] rfl rfl rfl rfl rfl rfl (fun H locs hP hD hS => ?_)
        refine lv_iadd hx hb dX8_readingOf_148 ?_
        obtain rfl := sm_e h
        exact rx_i hx hb hr  hP hK hD hS dX8_readingOf_149 hlocks
      · replace h := if_e hc6 h
        obtain ⟨t15, et15, h⟩ := nm_x h
        refine lv_iinc (v := t15) (lv' := [(3, .int t15), (0, .ref a_h), (1, .int p0), (2, .int x2)]) hx hb dX8_readingOf_69 hl (k := 3) rfl (by rw [et15]; rfl) (by decide) rfl (fun ls hl => ?_)
        refine lv_goto (tgt := 54) hx hb dX8_readingOf_72 (by decide) ?_
        exact ih x2 t15 _ _ _ h hP hD hS (lv_sub hl [1, 2, 3, 0] rfl)
  refine lv_aload_n hx hb dX8_readingOf_0 rfl (lv_at hl 0 rfl) ?_
  refine va_get (D := D) (ci := 8) (v := .ref a_h_d) (C := RX8) (T := TX8) (N := 14) hx hb hts in_X8_readingOf_X8 hown hK hP 0 rfl rfl 0 (by decide) (hts _ q_X8_readingOf_1) (fun _ h9 => h9) rfl dX8_readingOf_1 ?_
  refine lv_bipush (v := (26 : Int32)) hx hb dX8_readingOf_4 (by decide) ?_
  refine wx_iald hx hb hK hP 1 0 rfl rfl 26 (by decide) (by unfold vp_in; decide) dX8_readingOf_6 ?_
  refine lv_iconst (v := (1 : Int32)) hx hb dX8_readingOf_7 (by decide) ?_
  refine lv_isub hx hb dX8_readingOf_8 ?_
  refine lv_topi (fun t1 et1 => ?_)
  replace h := nm_at h et1
  refine lv_istore_n (lv' := [(2, .int t1), (0, .ref a_h), (1, .int p0)]) hx hb dX8_readingOf_9 rfl hl (by decide) rfl (fun ls hl => ?_)
  refine lv_iload_n hx hb dX8_readingOf_10 rfl (lv_at hl 2 rfl) ?_
  refine lv_aload_n hx hb dX8_readingOf_11 rfl (lv_at hl 1 rfl) ?_
  refine va_get (D := D) (ci := 8) (v := .ref a_h_d) (C := RX8) (T := TX8) (N := 14) hx hb hts in_X8_readingOf_X8 hown hK hP 0 rfl rfl 0 (by decide) (hts _ q_X8_readingOf_1) (fun _ h9 => h9) rfl dX8_readingOf_12 ?_
  refine lv_bipush (v := (27 : Int32)) hx hb dX8_readingOf_15 (by decide) ?_
  refine wx_iald hx hb hK hP 1 0 rfl rfl 27 (by decide) (by unfold vp_in; decide) dX8_readingOf_17 ?_
  refine lv_icmp_gt (tgt := 29) hx hb dX8_readingOf_18 (by decide) (fun hc2 => ?_) (fun hc2 => ?_)
  · replace h := it_e hc2 h
    refine lv_iload_n hx hb dX8_readingOf_29 rfl (lv_at hl 2 rfl) ?_
    refine lv_aload_n hx hb dX8_readingOf_30 rfl (lv_at hl 1 rfl) ?_
    refine va_get (D := D) (ci := 8) (v := .ref a_h_d) (C := RX8) (T := TX8) (N := 14) hx hb hts in_X8_readingOf_X8 hown hK hP 0 rfl rfl 0 (by decide) (hts _ q_X8_readingOf_1) (fun _ h9 => h9) rfl dX8_readingOf_31 ?_
    refine lv_bipush (v := (27 : Int32)) hx hb dX8_readingOf_34 (by decide) ?_
    refine lv_iload_n hx hb dX8_readingOf_36 rfl (lv_at hl 0 rfl) ?_
    refine lv_iadd hx hb dX8_readingOf_37 ?_
    obtain ⟨hi3, h⟩ := gA_e h
    refine wx_iald hx hb hK hP 1 0 rfl rfl (Int32.toNatClampNeg ((27 : Int32) + t1)) rfl hi3 dX8_readingOf_38 ?_
    refine lv_icmp_lt (tgt := 52) hx hb dX8_readingOf_39 (by decide) (fun hc4 => ?_) (fun hc4 => ?_)
    · replace h := it_e hc4 h
      refine lv_iconst (v := (0 : Int32)) hx hb dX8_readingOf_52 (by decide) ?_
      refine lv_istore_n (lv' := [(3, .int (0 : Int32)), (2, .int t1), (0, .ref a_h), (1, .int p0)]) hx hb dX8_readingOf_53 rfl hl (by decide) rfl (fun ls hl => ?_)
      exact B54 N t1 (0 : Int32) _ _ _ h hP hD hS (lv_sub hl [2, 3, 1, 0] rfl)
    · replace h := if_e hc4 h
      refine lv_aload_n hx hb dX8_readingOf_42 rfl (lv_at hl 1 rfl) ?_
      refine va_get (D := D) (ci := 8) (v := .ref a_h_d) (C := RX8) (T := TX8) (N := 14) hx hb hts in_X8_readingOf_X8 hown hK hP 0 rfl rfl 0 (by decide) (hts _ q_X8_readingOf_1) (fun _ h9 => h9) rfl dX8_readingOf_43 ?_
      refine lv_bipush (v := (34 : Int32)) hx hb dX8_readingOf_46 (by decide) ?_
      refine lv_iload_n hx hb dX8_readingOf_48 rfl (lv_at hl 0 rfl) ?_
      refine lv_iadd hx hb dX8_readingOf_49 ?_
      obtain ⟨hi16, h⟩ := gA_e h
      refine wx_iald hx hb hK hP 1 0 rfl rfl (Int32.toNatClampNeg ((34 : Int32) + t1)) rfl hi16 dX8_readingOf_50 ?_
      obtain rfl := sm_e h
      exact rx_i hx hb hr  hP hK hD hS dX8_readingOf_51 hlocks
  · replace h := if_e hc2 h
    refine lv_aload_n hx hb dX8_readingOf_21 rfl (lv_at hl 1 rfl) ?_
    refine va_get (D := D) (ci := 8) (v := .ref a_h_d) (C := RX8) (T := TX8) (N := 14) hx hb hts in_X8_readingOf_X8 hown hK hP 0 rfl rfl 0 (by decide) (hts _ q_X8_readingOf_1) (fun _ h9 => h9) rfl dX8_readingOf_22 ?_
    refine lv_bipush (v := (34 : Int32)) hx hb dX8_readingOf_25 (by decide) ?_
    refine wx_iald hx hb hK hP 1 0 rfl rfl 34 (by decide) (by unfold vp_in; decide) dX8_readingOf_27 ?_
    obtain rfl := sm_e h
    exact rx_i hx hb hr  hP hK hD hS dX8_readingOf_28 hlocks
-- X8_reads
def f_X8_reads (N : Nat) (v_d_A : Nat → Int32) : Option (Int32) :=
  Option.bind (f_X8_readingOf N v_d_A (v_d_A 3)) (fun u1 => some u1)
theorem q_X8_reads_1 : (.fieldLink RX8 7 "SpringBalanceModel" "d" "[I" : Cond) ∈ wsX8_reads := List.mem_of_getElem? (i := 1) (by decide +kernel)
set_option maxRecDepth 20000 in
theorem in_X8_reads_X8 : ∀ w ∈ u_ws RX8 TX8 14, w ∈ wsX8_reads := by decide +kernel
set_option maxHeartbeats 8000000 in
set_option maxRecDepth 100000 in
theorem k_X8_reads (l : Launch) (D : va_G) (cI cC cJ cB : ClassId) (a_h a_h_d a_h_was a_h_accounts a_h_text a_h_aside a_h_places a_h_told : Nat) (v_account : Int64) (v_states : Int32) (v_refused : Int32) (v_typed : Int32) (v_at : Int32) (v_sign : Int32) (v_number : Int32) (v_d_A : Nat → Int32) (N : Nat) (sz : Nat) (u : Int32) (hu : f_X8_reads N v_d_A = some u) :
    Met l yX8_reads wsX8_reads ({ frames := 2, cells := 0, slots := 0, locals := 50 } : Room) (va_Pc [.ref a_h] (PreW D (ty4 cI cC cJ cB) sz [(a_h, .inr (8, [.ref a_h_d, .long v_account, .ref a_h_was, .ref a_h_accounts, .int v_states, .int v_refused, .ref a_h_text, .int v_typed, .int v_at, .int v_sign, .int v_number, .ref a_h_aside, .ref a_h_places, .ref a_h_told])), (a_h_d, .inl (cI, 2086, .inl v_d_A))]))
      (QI D (ty4 cI cC cJ cB) (va_A [(a_h, .inr (8, [.ref a_h_d, .long v_account, .ref a_h_was, .ref a_h_accounts, .int v_states, .int v_refused, .ref a_h_text, .int v_typed, .int v_at, .int v_sign, .int v_number, .ref a_h_aside, .ref a_h_places, .ref a_h_told])), (a_h_d, .inl (cI, 2086, .inl v_d_A))] sz) [(a_h, .inr (8, [.ref a_h_d, .long v_account, .ref a_h_was, .ref a_h_accounts, .int v_states, .int v_refused, .ref a_h_text, .int v_typed, .int v_at, .int v_sign, .int v_number, .ref a_h_aside, .ref a_h_places, .ref a_h_told])), (a_h_d, .inl (cI, 2086, .inl v_d_A))] u) 0 0 (va_A [(a_h, .inr (8, [.ref a_h_d, .long v_account, .ref a_h_was, .ref a_h_accounts, .int v_states, .int v_refused, .ref a_h_text, .int v_typed, .int v_at, .int v_sign, .int v_number, .ref a_h_aside, .ref a_h_places, .ref a_h_told])), (a_h_d, .inl (cI, 2086, .inl v_d_A))] sz) := by
  refine met_go (y := yX8_reads) (wsy := wsX8_reads) (cc := cX8_reads) (maxL := 1) (ret := (some .int)) (av := [.ref a_h]) (Qc := fun A => QI D (ty4 cI cC cJ cB) A [(a_h, .inr (8, [.ref a_h_d, .long v_account, .ref a_h_was, .ref a_h_accounts, .int v_states, .int v_refused, .ref a_h_text, .int v_typed, .int v_at, .int v_sign, .int v_number, .ref a_h_aside, .ref a_h_places, .ref a_h_told])), (a_h_d, .inl (cI, 2086, .inl v_d_A))] u) (by decide) rfl (Nat.le_of_ble_eq_true rfl) ?_
  intro p e s m below meth c A ls hx hb hr hml hown hts hlocks hnm hN hK hP hD hS hA hl
  have h := hu
  clear hu
  unfold f_X8_reads at h
  have hl : lv_has ls 1 [(0, .ref a_h)] := hl
  refine lv_aload_n hx hb dX8_reads_0 rfl (lv_at hl 0 rfl) ?_
  refine lv_aload_n hx hb dX8_reads_1 rfl (lv_at hl 0 rfl) ?_
  refine va_get (D := D) (ci := 8) (v := .ref a_h_d) (C := RX8) (T := TX8) (N := 14) hx hb hts in_X8_reads_X8 hown hK hP 0 rfl rfl 0 (by decide) (hts _ q_X8_reads_1) (fun _ h9 => h9) rfl dX8_reads_2 ?_
  refine lv_iconst (v := (3 : Int32)) hx hb dX8_reads_5 (by decide) ?_
  refine wx_iald hx hb hK hP 1 0 rfl rfl 3 (by decide) (by unfold vp_in; decide) dX8_reads_6 ?_
  obtain ⟨u1, hu1, h⟩ := bd_e h
  refine kx_i (mc := 0) (ms := 0) (wr := []) (ws2 := [(a_h, .inr (8, [.ref a_h_d, .long v_account, .ref a_h_was, .ref a_h_accounts, .int v_states, .int v_refused, .ref a_h_text, .int v_typed, .int v_at, .int v_sign, .int v_number, .ref a_h_aside, .ref a_h_places, .ref a_h_told])), (a_h_d, .inl (cI, 2086, .inl v_d_A))]) (va_runV (As := [.int (v_d_A 3)]) (rest := []) ⟨hx, hb, hml, hown, hts⟩ (k_X8_readingOf l D cI cC cJ cB a_h a_h_d a_h_was a_h_accounts a_h_text a_h_aside a_h_places a_h_told v_account v_states v_refused v_typed v_at v_sign v_number v_d_A N (v_d_A 3) s.heap.size _ hu1) (cwV 1 hts gX8_reads_X8_readingOf rfl rfl rfl (by decide +kernel) ⟨Nat.le_of_ble_eq_true rfl, Nat.le_of_ble_eq_true rfl⟩) (pv_V hP hD hK hN [0, 1] rfl rfl (ci := 8) rfl 0 rfl) rfl rfl hl.1 rfl (lv_room (Nat.le_of_ble_eq_true rfl)) dX8_reads_7 ⟨Nat.zero_le _, Nat.zero_le _⟩) hP hD hS hA [0, 1] [] [0, 1] rfl rfl rfl rfl rfl rfl (fun H locs hP hD hS => ?_)
  obtain rfl := sm_e h
  exact rx_i hx hb hr  hP hK hD hS dX8_reads_10 hlocks
-- X8_refusal
def f_X8_refusal (v_d_A : Nat → Int32) (p0 : Int32) (p1 : Int32) : Option (Int32) :=
  Option.bind (f_X8_in p0 (0 : Int32) ((v_d_A 41) - (1 : Int32))) (fun u1 => (if ¬ u1 = 0 then gA ((74 : Int32) + p0) 2086 ((if p1 = 0 then (if ¬ (v_d_A (Int32.toNatClampNeg ((74 : Int32) + p0))) = (0 : Int32) then (if p1 = 0 then some (0 : Int32)
    else gA ((42 : Int32) + p0) 2086 ((if ((v_d_A 0) + (v_d_A (Int32.toNatClampNeg ((42 : Int32) + p0)))) ≤ (1000 : Int32) then some (0 : Int32)
    else some (3 : Int32))))
    else some (2 : Int32))
    else (if ¬ (v_d_A (Int32.toNatClampNeg ((74 : Int32) + p0))) = (1 : Int32) then (if p1 = 0 then some (0 : Int32)
    else gA ((42 : Int32) + p0) 2086 ((if ((v_d_A 0) + (v_d_A (Int32.toNatClampNeg ((42 : Int32) + p0)))) ≤ (1000 : Int32) then some (0 : Int32)
    else some (3 : Int32))))
    else some (2 : Int32))))
    else some (1 : Int32)))
theorem q_X8_refusal_1 : (.fieldLink RX8 7 "SpringBalanceModel" "d" "[I" : Cond) ∈ wsX8_refusal := List.mem_of_getElem? (i := 1) (by decide +kernel)
set_option maxRecDepth 20000 in
theorem in_X8_refusal_X8 : ∀ w ∈ u_ws RX8 TX8 14, w ∈ wsX8_refusal := by decide +kernel
set_option maxHeartbeats 8000000 in
set_option maxRecDepth 100000 in
theorem k_X8_refusal (l : Launch) (D : va_G) (cI cC cJ cB : ClassId) (a_h a_h_d a_h_was a_h_accounts a_h_text a_h_aside a_h_places a_h_told : Nat) (v_account : Int64) (v_states : Int32) (v_refused : Int32) (v_typed : Int32) (v_at : Int32) (v_sign : Int32) (v_number : Int32) (v_d_A : Nat → Int32) (N : Nat) (p0 : Int32) (p1 : Int32) (sz : Nat) (u : Int32) (hu : f_X8_refusal v_d_A p0 p1 = some u) :
    Met l yX8_refusal wsX8_refusal ({ frames := 1, cells := 0, slots := 0, locals := 22 } : Room) (va_Pc [.ref a_h, .int p0, .int p1] (PreW D (ty4 cI cC cJ cB) sz [(a_h, .inr (8, [.ref a_h_d, .long v_account, .ref a_h_was, .ref a_h_accounts, .int v_states, .int v_refused, .ref a_h_text, .int v_typed, .int v_at, .int v_sign, .int v_number, .ref a_h_aside, .ref a_h_places, .ref a_h_told])), (a_h_d, .inl (cI, 2086, .inl v_d_A))]))
      (QI D (ty4 cI cC cJ cB) (va_A [(a_h, .inr (8, [.ref a_h_d, .long v_account, .ref a_h_was, .ref a_h_accounts, .int v_states, .int v_refused, .ref a_h_text, .int v_typed, .int v_at, .int v_sign, .int v_number, .ref a_h_aside, .ref a_h_places, .ref a_h_told])), (a_h_d, .inl (cI, 2086, .inl v_d_A))] sz) [(a_h, .inr (8, [.ref a_h_d, .long v_account, .ref a_h_was, .ref a_h_accounts, .int v_states, .int v_refused, .ref a_h_text, .int v_typed, .int v_at, .int v_sign, .int v_number, .ref a_h_aside, .ref a_h_places, .ref a_h_told])), (a_h_d, .inl (cI, 2086, .inl v_d_A))] u) 0 0 (va_A [(a_h, .inr (8, [.ref a_h_d, .long v_account, .ref a_h_was, .ref a_h_accounts, .int v_states, .int v_refused, .ref a_h_text, .int v_typed, .int v_at, .int v_sign, .int v_number, .ref a_h_aside, .ref a_h_places, .ref a_h_told])), (a_h_d, .inl (cI, 2086, .inl v_d_A))] sz) := by
  refine met_go (y := yX8_refusal) (wsy := wsX8_refusal) (cc := cX8_refusal) (maxL := 3) (ret := (some .int)) (av := [.ref a_h, .int p0, .int p1]) (Qc := fun A => QI D (ty4 cI cC cJ cB) A [(a_h, .inr (8, [.ref a_h_d, .long v_account, .ref a_h_was, .ref a_h_accounts, .int v_states, .int v_refused, .ref a_h_text, .int v_typed, .int v_at, .int v_sign, .int v_number, .ref a_h_aside, .ref a_h_places, .ref a_h_told])), (a_h_d, .inl (cI, 2086, .inl v_d_A))] u) (by decide) rfl (Nat.le_of_ble_eq_true rfl) ?_
  intro p e s m below meth c A ls hx hb hr hml hown hts hlocks hnm hN hK hP hD hS hA hl
  have h := hu
  clear hu
  unfold f_X8_refusal at h
  have hl : lv_has ls 3 [(0, .ref a_h), (1, .int p0), (2, .int p1)] := hl
  refine lv_iload_n hx hb dX8_refusal_0 rfl (lv_at hl 1 rfl) ?_
  refine lv_iconst (v := (0 : Int32)) hx hb dX8_refusal_1 (by decide) ?_
  refine lv_aload_n hx hb dX8_refusal_2 rfl (lv_at hl 0 rfl) ?_
  refine va_get (D := D) (ci := 8) (v := .ref a_h_d) (C := RX8) (T := TX8) (N := 14) hx hb hts in_X8_refusal_X8 hown hK hP 0 rfl rfl 0 (by decide) (hts _ q_X8_refusal_1) (fun _ h9 => h9) rfl dX8_refusal_3 ?_
  refine lv_bipush (v := (41 : Int32)) hx hb dX8_refusal_6 (by decide) ?_
  refine wx_iald hx hb hK hP 1 0 rfl rfl 41 (by decide) (by unfold vp_in; decide) dX8_refusal_8 ?_
  refine lv_iconst (v := (1 : Int32)) hx hb dX8_refusal_9 (by decide) ?_
  refine lv_isub hx hb dX8_refusal_10 ?_
  obtain ⟨u1, hu1, h⟩ := bd_e h
  refine kx_i (mc := 0) (ms := 0) (wr := [(a_h, .inr (8, [.ref a_h_d, .long v_account, .ref a_h_was, .ref a_h_accounts, .int v_states, .int v_refused, .ref a_h_text, .int v_typed, .int v_at, .int v_sign, .int v_number, .ref a_h_aside, .ref a_h_places, .ref a_h_told])), (a_h_d, .inl (cI, 2086, .inl v_d_A))]) (ws2 := [(a_h, .inr (8, [.ref a_h_d, .long v_account, .ref a_h_was, .ref a_h_accounts, .int v_states, .int v_refused, .ref a_h_text, .int v_typed, .int v_at, .int v_sign, .int v_number, .ref a_h_aside, .ref a_h_places, .ref a_h_told])), (a_h_d, .inl (cI, 2086, .inl v_d_A))]) (va_runS (As := [.int p0, .int (0 : Int32), .int ((v_d_A 41) - (1 : Int32))]) (rest := []) ⟨hx, hb, hml, hown, hts⟩ (k_X8_in l D cI cC cJ cB N p0 (0 : Int32) ((v_d_A 41) - (1 : Int32)) s.heap.size _ hu1) (va_cwS 3 hts gX8_refusal_X8_in rfl rfl rfl (by decide +kernel) ⟨Nat.le_of_ble_eq_true rfl, Nat.le_of_ble_eq_true rfl⟩) (pv_S hP hD hK hN [] rfl rfl) rfl rfl hl.1 rfl (lv_room (Nat.le_of_ble_eq_true rfl)) dX8_refusal_11 ⟨Nat.zero_le _, Nat.zero_le _⟩) hP hD hS hA [] [0, 1] [0, 1] rfl rfl rfl rfl rfl rfl (fun H locs hP hD hS => ?_)
  refine lv_if_ne (tgt := 19) hx hb dX8_refusal_14 (by decide) (fun hc2 => ?_) (fun hc2 => ?_)
  · replace h := it_e hc2 h
    refine lv_aload_n hx hb dX8_refusal_19 rfl (lv_at hl 0 rfl) ?_
    refine va_get (D := D) (ci := 8) (v := .ref a_h_d) (C := RX8) (T := TX8) (N := 14) hx hb hts in_X8_refusal_X8 hown hK hP 0 rfl rfl 0 (by decide) (hts _ q_X8_refusal_1) (fun _ h9 => h9) rfl dX8_refusal_20 ?_
    refine lv_bipush (v := (74 : Int32)) hx hb dX8_refusal_23 (by decide) ?_
    refine lv_iload_n hx hb dX8_refusal_25 rfl (lv_at hl 1 rfl) ?_
    refine lv_iadd hx hb dX8_refusal_26 ?_
    obtain ⟨hi3, h⟩ := gA_e h
    refine wx_iald hx hb hK hP 1 0 rfl rfl (Int32.toNatClampNeg ((74 : Int32) + p0)) rfl hi3 dX8_refusal_27 ?_
    refine lv_iload_n hx hb dX8_refusal_28 rfl (lv_at hl 2 rfl) ?_
    refine lv_if_eq (tgt := 36) hx hb dX8_refusal_29 (by decide) (fun hc4 => ?_) (fun hc4 => ?_)
    · replace h := it_e hc4 h
      refine lv_iconst (v := (0 : Int32)) hx hb dX8_refusal_36 (by decide) ?_
      refine lv_icmp_ne (tgt := 42) hx hb dX8_refusal_37 (by decide) (fun hc5 => ?_) (fun hc5 => ?_)
      · replace h := it_e hc5 h
        refine lv_iload_n hx hb dX8_refusal_42 rfl (lv_at hl 2 rfl) ?_
        refine lv_if_eq (tgt := 72) hx hb dX8_refusal_43 (by decide) (fun hc6 => ?_) (fun hc6 => ?_)
        · replace h := it_e hc6 h
          refine lv_iconst (v := (0 : Int32)) hx hb dX8_refusal_72 (by decide) ?_
          obtain rfl := sm_e h
          exact rx_i hx hb hr  hP hK hD hS dX8_refusal_73 hlocks
        · replace h := if_e hc6 h
          refine lv_aload_n hx hb dX8_refusal_46 rfl (lv_at hl 0 rfl) ?_
          refine va_get (D := D) (ci := 8) (v := .ref a_h_d) (C := RX8) (T := TX8) (N := 14) hx hb hts in_X8_refusal_X8 hown hK hP 0 rfl rfl 0 (by decide) (hts _ q_X8_refusal_1) (fun _ h9 => h9) rfl dX8_refusal_47 ?_
          refine lv_iconst (v := (0 : Int32)) hx hb dX8_refusal_50 (by decide) ?_
          refine wx_iald hx hb hK hP 1 0 rfl rfl 0 (by decide) (by unfold vp_in; decide) dX8_refusal_51 ?_
          refine lv_aload_n hx hb dX8_refusal_52 rfl (lv_at hl 0 rfl) ?_
          refine va_get (D := D) (ci := 8) (v := .ref a_h_d) (C := RX8) (T := TX8) (N := 14) hx hb hts in_X8_refusal_X8 hown hK hP 0 rfl rfl 0 (by decide) (hts _ q_X8_refusal_1) (fun _ h9 => h9) rfl dX8_refusal_53 ?_
          refine lv_bipush (v := (42 : Int32)) hx hb dX8_refusal_56 (by decide) ?_
          refine lv_iload_n hx hb dX8_refusal_58 rfl (lv_at hl 1 rfl) ?_
          refine lv_iadd hx hb dX8_refusal_59 ?_
          obtain ⟨hi7, h⟩ := gA_e h
          refine wx_iald hx hb hK hP 1 0 rfl rfl (Int32.toNatClampNeg ((42 : Int32) + p0)) rfl hi7 dX8_refusal_60 ?_
          refine lv_iadd hx hb dX8_refusal_61 ?_
          refine lv_sipush (v := (1000 : Int32)) hx hb dX8_refusal_62 (by decide) ?_
          refine lv_icmp_le (tgt := 72) hx hb dX8_refusal_65 (by decide) (fun hc8 => ?_) (fun hc8 => ?_)
          · replace h := it_e hc8 h
            refine lv_iconst (v := (0 : Int32)) hx hb dX8_refusal_72 (by decide) ?_
            obtain rfl := sm_e h
            exact rx_i hx hb hr  hP hK hD hS dX8_refusal_73 hlocks
          · replace h := if_e hc8 h
            refine lv_iconst (v := (3 : Int32)) hx hb dX8_refusal_68 (by decide) ?_
            refine lv_goto (tgt := 73) hx hb dX8_refusal_69 (by decide) ?_
            obtain rfl := sm_e h
            exact rx_i hx hb hr  hP hK hD hS dX8_refusal_73 hlocks
      · replace h := in_e hc5 h
        refine lv_iconst (v := (2 : Int32)) hx hb dX8_refusal_40 (by decide) ?_
        obtain rfl := sm_e h
        exact rx_i hx hb hr  hP hK hD hS dX8_refusal_41 hlocks
    · replace h := if_e hc4 h
      refine lv_iconst (v := (1 : Int32)) hx hb dX8_refusal_32 (by decide) ?_
      refine lv_goto (tgt := 37) hx hb dX8_refusal_33 (by decide) ?_
      refine lv_icmp_ne (tgt := 42) hx hb dX8_refusal_37 (by decide) (fun hc9 => ?_) (fun hc9 => ?_)
      · replace h := it_e hc9 h
        refine lv_iload_n hx hb dX8_refusal_42 rfl (lv_at hl 2 rfl) ?_
        refine lv_if_eq (tgt := 72) hx hb dX8_refusal_43 (by decide) (fun hc10 => ?_) (fun hc10 => ?_)
        · replace h := it_e hc10 h
          refine lv_iconst (v := (0 : Int32)) hx hb dX8_refusal_72 (by decide) ?_
          obtain rfl := sm_e h
          exact rx_i hx hb hr  hP hK hD hS dX8_refusal_73 hlocks
        · replace h := if_e hc10 h
          refine lv_aload_n hx hb dX8_refusal_46 rfl (lv_at hl 0 rfl) ?_
          refine va_get (D := D) (ci := 8) (v := .ref a_h_d) (C := RX8) (T := TX8) (N := 14) hx hb hts in_X8_refusal_X8 hown hK hP 0 rfl rfl 0 (by decide) (hts _ q_X8_refusal_1) (fun _ h9 => h9) rfl dX8_refusal_47 ?_
          refine lv_iconst (v := (0 : Int32)) hx hb dX8_refusal_50 (by decide) ?_
          refine wx_iald hx hb hK hP 1 0 rfl rfl 0 (by decide) (by unfold vp_in; decide) dX8_refusal_51 ?_
          refine lv_aload_n hx hb dX8_refusal_52 rfl (lv_at hl 0 rfl) ?_
          refine va_get (D := D) (ci := 8) (v := .ref a_h_d) (C := RX8) (T := TX8) (N := 14) hx hb hts in_X8_refusal_X8 hown hK hP 0 rfl rfl 0 (by decide) (hts _ q_X8_refusal_1) (fun _ h9 => h9) rfl dX8_refusal_53 ?_
          refine lv_bipush (v := (42 : Int32)) hx hb dX8_refusal_56 (by decide) ?_
          refine lv_iload_n hx hb dX8_refusal_58 rfl (lv_at hl 1 rfl) ?_
          refine lv_iadd hx hb dX8_refusal_59 ?_
          obtain ⟨hi11, h⟩ := gA_e h
          refine wx_iald hx hb hK hP 1 0 rfl rfl (Int32.toNatClampNeg ((42 : Int32) + p0)) rfl hi11 dX8_refusal_60 ?_
          refine lv_iadd hx hb dX8_refusal_61 ?_
          refine lv_sipush (v := (1000 : Int32)) hx hb dX8_refusal_62 (by decide) ?_
          refine lv_icmp_le (tgt := 72) hx hb dX8_refusal_65 (by decide) (fun hc12 => ?_) (fun hc12 => ?_)
          · replace h := it_e hc12 h
            refine lv_iconst (v := (0 : Int32)) hx hb dX8_refusal_72 (by decide) ?_
            obtain rfl := sm_e h
            exact rx_i hx hb hr  hP hK hD hS dX8_refusal_73 hlocks
          · replace h := if_e hc12 h
            refine lv_iconst (v := (3 : Int32)) hx hb dX8_refusal_68 (by decide) ?_
            refine lv_goto (tgt := 73) hx hb dX8_refusal_69 (by decide) ?_
            obtain rfl := sm_e h
            exact rx_i hx hb hr  hP hK hD hS dX8_refusal_73 hlocks
      · replace h := in_e hc9 h
        refine lv_iconst (v := (2 : Int32)) hx hb dX8_refusal_40 (by decide) ?_
        obtain rfl := sm_e h
        exact rx_i hx hb hr  hP hK hD hS dX8_refusal_41 hlocks
  · replace h := in_e hc2 h
    refine lv_iconst (v := (1 : Int32)) hx hb dX8_refusal_17 (by decide) ?_
    obtain rfl := sm_e h
    exact rx_i hx hb hr  hP hK hD hS dX8_refusal_18 hlocks
-- X8_moves
def f_X8_moves_b17 (N : Nat) (p0 : Int32) (p1 : Int32) (s0 : Int32) (s1 : Int32) (m_account : Int64) (m_d_A : Nat → Int32) : Option (Int64 × (Nat → Int32)) :=
  gA s1 2086 (nm (upd m_d_A (Int32.toNatClampNeg s1) s0) (fun g3 => (if p1 = 0 then gA ((42 : Int32) + p0) 2086 (Option.bind (f_X8_goes N m_account g3 ((g3 0) - (g3 (Int32.toNatClampNeg ((42 : Int32) + p0))))) (fun u6 => some (u6.1, u6.2)))
    else gA ((42 : Int32) + p0) 2086 (Option.bind (f_X8_goes N m_account g3 ((g3 0) + (g3 (Int32.toNatClampNeg ((42 : Int32) + p0))))) (fun u8 => some (u8.1, u8.2))))))
def f_X8_moves (N : Nat) (v_account : Int64) (v_d_A : Nat → Int32) (p0 : Int32) (p1 : Int32) : Option (Int64 × (Nat → Int32)) :=
  (if p1 = 0 then (f_X8_moves_b17 N p0 p1 (0 : Int32) ((74 : Int32) + p0) v_account v_d_A )
    else (f_X8_moves_b17 N p0 p1 (1 : Int32) ((74 : Int32) + p0) v_account v_d_A ))
theorem q_X8_moves_1 : (.fieldLink RX8 7 "SpringBalanceModel" "d" "[I" : Cond) ∈ wsX8_moves := List.mem_of_getElem? (i := 1) (by decide +kernel)
set_option maxRecDepth 20000 in
theorem in_X8_moves_X8 : ∀ w ∈ u_ws RX8 TX8 14, w ∈ wsX8_moves := by decide +kernel
set_option maxHeartbeats 8000000 in
set_option maxRecDepth 100000 in
theorem k_X8_moves (l : Launch) (D : va_G) (cI cC cJ cB : ClassId) (a_h a_h_d a_h_was a_h_accounts a_h_text a_h_aside a_h_places a_h_told : Nat) (v_account : Int64) (v_states : Int32) (v_refused : Int32) (v_typed : Int32) (v_at : Int32) (v_sign : Int32) (v_number : Int32) (v_d_A : Nat → Int32) (N : Nat) (p0 : Int32) (p1 : Int32) (sz : Nat) (u : Int64 × (Nat → Int32)) (hu : f_X8_moves N v_account v_d_A p0 p1 = some u) :
    Met l yX8_moves wsX8_moves ({ frames := 3, cells := 0, slots := 0, locals := 76 } : Room) (va_Pc [.ref a_h, .int p0, .int p1] (PreW D (ty4 cI cC cJ cB) sz [(a_h, .inr (8, [.ref a_h_d, .long v_account, .ref a_h_was, .ref a_h_accounts, .int v_states, .int v_refused, .ref a_h_text, .int v_typed, .int v_at, .int v_sign, .int v_number, .ref a_h_aside, .ref a_h_places, .ref a_h_told])), (a_h_d, .inl (cI, 2086, .inl v_d_A))]))
      (QV D (ty4 cI cC cJ cB) (va_A [(a_h, .inr (8, [.ref a_h_d, .long v_account, .ref a_h_was, .ref a_h_accounts, .int v_states, .int v_refused, .ref a_h_text, .int v_typed, .int v_at, .int v_sign, .int v_number, .ref a_h_aside, .ref a_h_places, .ref a_h_told])), (a_h_d, .inl (cI, 2086, .inl v_d_A))] sz) [(a_h, .inr (8, [.ref a_h_d, .long u.1, .ref a_h_was, .ref a_h_accounts, .int v_states, .int v_refused, .ref a_h_text, .int v_typed, .int v_at, .int v_sign, .int v_number, .ref a_h_aside, .ref a_h_places, .ref a_h_told])), (a_h_d, .inl (cI, 2086, .inl u.2))]) 0 0 (va_A [(a_h, .inr (8, [.ref a_h_d, .long v_account, .ref a_h_was, .ref a_h_accounts, .int v_states, .int v_refused, .ref a_h_text, .int v_typed, .int v_at, .int v_sign, .int v_number, .ref a_h_aside, .ref a_h_places, .ref a_h_told])), (a_h_d, .inl (cI, 2086, .inl v_d_A))] sz) := by
  refine met_go (y := yX8_moves) (wsy := wsX8_moves) (cc := cX8_moves) (maxL := 3) (ret := none) (av := [.ref a_h, .int p0, .int p1]) (Qc := fun A => QV D (ty4 cI cC cJ cB) A [(a_h, .inr (8, [.ref a_h_d, .long u.1, .ref a_h_was, .ref a_h_accounts, .int v_states, .int v_refused, .ref a_h_text, .int v_typed, .int v_at, .int v_sign, .int v_number, .ref a_h_aside, .ref a_h_places, .ref a_h_told])), (a_h_d, .inl (cI, 2086, .inl u.2))]) (by decide) rfl (Nat.le_of_ble_eq_true rfl) ?_
  intro p e s m below meth c A ls hx hb hr hml hown hts hlocks hnm hN hK hP hD hS hA hl
  have h := hu
  clear hu
  unfold f_X8_moves at h
  have hl : lv_has ls 3 [(0, .ref a_h), (1, .int p0), (2, .int p1)] := hl
  have B17 : ∀ (s0 : Int32) (s1 : Int32) (m_account : Int64) (m_d_A : Nat → Int32) (H : Heap) (locs : List Loc) (ls : Array Slot), f_X8_moves_b17 N p0 p1 s0 s1 m_account m_d_A  = some u → va_P D vwCl [(a_h, .inr (8, [.ref a_h_d, .long m_account, .ref a_h_was, .ref a_h_accounts, .int v_states, .int v_refused, .ref a_h_text, .int v_typed, .int v_at, .int v_sign, .int v_number, .ref a_h_aside, .ref a_h_places, .ref a_h_told])), (a_h_d, .inl (cI, 2086, .inl m_d_A))] H → va_D A [(a_h, .inr (8, [.ref a_h_d, .long m_account, .ref a_h_was, .ref a_h_accounts, .int v_states, .int v_refused, .ref a_h_text, .int v_typed, .int v_at, .int v_sign, .int v_number, .ref a_h_aside, .ref a_h_places, .ref a_h_told])), (a_h_d, .inl (cI, 2086, .inl m_d_A))] → va_S A s.heap H locs → lv_has ls 3 [(0, .ref a_h), (1, .int p0), (2, .int p1)] → W p l e ({ frames := 3, cells := 0, slots := 0, locals := 76 } : Room) s m ([.ref a_h, .int p0, .int p1] : List Value).toArray below meth c H locs 0 0 (MQ below (QV D (ty4 cI cC cJ cB) A [(a_h, .inr (8, [.ref a_h_d, .long u.1, .ref a_h_was, .ref a_h_accounts, .int v_states, .int v_refused, .ref a_h_text, .int v_typed, .int v_at, .int v_sign, .int v_number, .ref a_h_aside, .ref a_h_places, .ref a_h_told])), (a_h_d, .inl (cI, 2086, .inl u.2))]) ([.ref a_h, .int p0, .int p1] : List Value).toArray s 0 0 A) (F0 m 17 ls [.int s0, .int s1, .ref a_h_d]) := by
    intro s0 s1 m_account m_d_A H locs ls h hP hD hS hl
    unfold f_X8_moves_b17 at h
    obtain ⟨hi2, h⟩ := gA_e h
    refine wx_iast hx hb hK hP hD hS 1 0 rfl rfl (Int32.toNatClampNeg s1) rfl hi2 dX8_moves_17 rfl (fun H locs hP hD hS => ?_)
    obtain ⟨g3, eg3, h⟩ := nm_x h
    have hP : va_P D vwCl [(a_h, .inr (8, [.ref a_h_d, .long m_account, .ref a_h_was, .ref a_h_accounts, .int v_states, .int v_refused, .ref a_h_text, .int v_typed, .int v_at, .int v_sign, .int v_number, .ref a_h_aside, .ref a_h_places, .ref a_h_told])), (a_h_d, .inl (cI, 2086, .inl g3))] H := by rw [eg3]; exact hP
    have hD : va_D A [(a_h, .inr (8, [.ref a_h_d, .long m_account, .ref a_h_was, .ref a_h_accounts, .int v_states, .int v_refused, .ref a_h_text, .int v_typed, .int v_at, .int v_sign, .int v_number, .ref a_h_aside, .ref a_h_places, .ref a_h_told])), (a_h_d, .inl (cI, 2086, .inl g3))] := by rw [eg3]; exact hD
    refine lv_aload_n hx hb dX8_moves_18 rfl (lv_at hl 0 rfl) ?_
    refine lv_iload_n hx hb dX8_moves_19 rfl (lv_at hl 2 rfl) ?_
    refine lv_if_eq (tgt := 42) hx hb dX8_moves_20 (by decide) (fun hc4 => ?_) (fun hc4 => ?_)
    · replace h := it_e hc4 h
      refine lv_aload_n hx hb dX8_moves_42 rfl (lv_at hl 0 rfl) ?_
      refine va_get (D := D) (ci := 8) (v := .ref a_h_d) (C := RX8) (T := TX8) (N := 14) hx hb hts in_X8_moves_X8 hown hK hP 0 rfl rfl 0 (by decide) (hts _ q_X8_moves_1) (fun _ h9 => h9) rfl dX8_moves_43 ?_
      refine lv_iconst (v := (0 : Int32)) hx hb dX8_moves_46 (by decide) ?_
      refine wx_iald hx hb hK hP 1 0 rfl rfl 0 (by decide) (by unfold vp_in; decide) dX8_moves_47 ?_
      refine lv_aload_n hx hb dX8_moves_48 rfl (lv_at hl 0 rfl) ?_
      refine va_get (D := D) (ci := 8) (v := .ref a_h_d) (C := RX8) (T := TX8) (N := 14) hx hb hts in_X8_moves_X8 hown hK hP 0 rfl rfl 0 (by decide) (hts _ q_X8_moves_1) (fun _ h9 => h9) rfl dX8_moves_49 ?_
      refine lv_bipush (v := (42 : Int32)) hx hb dX8_moves_52 (by decide) ?_
      refine lv_iload_n hx hb dX8_moves_54 rfl (lv_at hl 1 rfl) ?_
      refine lv_iadd hx hb dX8_moves_55 ?_
      obtain ⟨hi5, h⟩ := gA_e h
      refine wx_iald hx hb hK hP 1 0 rfl rfl (Int32.toNatClampNeg ((42 : Int32) + p0)) rfl hi5 dX8_moves_56 ?_
      refine lv_isub hx hb dX8_moves_57 ?_
      obtain ⟨u6, hu6, h⟩ := bd_e h
      refine kx_v (mc := 0) (ms := 0) (wr := []) (ws2 := [(a_h, .inr (8, [.ref a_h_d, .long u6.1, .ref a_h_was, .ref a_h_accounts, .int v_states, .int v_refused, .ref a_h_text, .int v_typed, .int v_at, .int v_sign, .int v_number, .ref a_h_aside, .ref a_h_places, .ref a_h_told])), (a_h_d, .inl (cI, 2086, .inl u6.2))]) (va_runV (As := [.int ((g3 0) - (g3 (Int32.toNatClampNeg ((42 : Int32) + p0))))]) (rest := []) ⟨hx, hb, hml, hown, hts⟩ (k_X8_goes l D cI cC cJ cB a_h a_h_d a_h_was a_h_accounts a_h_text a_h_aside a_h_places a_h_told m_account v_states v_refused v_typed v_at v_sign v_number g3 N ((g3 0) - (g3 (Int32.toNatClampNeg ((42 : Int32) + p0)))) H.size _ hu6) (cwV 1 hts gX8_moves_X8_goes rfl rfl rfl (by decide +kernel) ⟨Nat.le_of_ble_eq_true rfl, Nat.le_of_ble_eq_true rfl⟩) (pv_V hP hD hK hN [0, 1] rfl rfl (ci := 8) rfl 0 rfl) rfl rfl hl.1 rfl (lv_room (Nat.le_of_ble_eq_true rfl)) dX8_moves_58 ⟨Nat.zero_le _, Nat.zero_le _⟩) hP hD hS hA [0, 1] [] [0, 1] rfl rfl rfl rfl rfl rfl (fun H locs hP hD hS => ?_)
      obtain rfl := sm_e h
      exact rx_v hx hb hr  hP hK hD hS dX8_moves_61 hlocks
    · replace h := if_e hc4 h
      refine lv_aload_n hx hb dX8_moves_23 rfl (lv_at hl 0 rfl) ?_
      refine va_get (D := D) (ci := 8) (v := .ref a_h_d) (C := RX8) (T := TX8) (N := 14) hx hb hts in_X8_moves_X8 hown hK hP 0 rfl rfl 0 (by decide) (hts _ q_X8_moves_1) (fun _ h9 => h9) rfl dX8_moves_24 ?_
      refine lv_iconst (v := (0 : Int32)) hx hb dX8_moves_27 (by decide) ?_
      refine wx_iald hx hb hK hP 1 0 rfl rfl 0 (by decide) (by unfold vp_in; decide) dX8_moves_28 ?_
      refine lv_aload_n hx hb dX8_moves_29 rfl (lv_at hl 0 rfl) ?_
      refine va_get (D := D) (ci := 8) (v := .ref a_h_d) (C := RX8) (T := TX8) (N := 14) hx hb hts in_X8_moves_X8 hown hK hP 0 rfl rfl 0 (by decide) (hts _ q_X8_moves_1) (fun _ h9 => h9) rfl dX8_moves_30 ?_
      refine lv_bipush (v := (42 : Int32)) hx hb dX8_moves_33 (by decide) ?_
      refine lv_iload_n hx hb dX8_moves_35 rfl (lv_at hl 1 rfl) ?_
      refine lv_iadd hx hb dX8_moves_36 ?_
      obtain ⟨hi7, h⟩ := gA_e h
      refine wx_iald hx hb hK hP 1 0 rfl rfl (Int32.toNatClampNeg ((42 : Int32) + p0)) rfl hi7 dX8_moves_37 ?_
      refine lv_iadd hx hb dX8_moves_38 ?_
      refine lv_goto (tgt := 58) hx hb dX8_moves_39 (by decide) ?_
      obtain ⟨u8, hu8, h⟩ := bd_e h
      refine kx_v (mc := 0) (ms := 0) (wr := []) (ws2 := [(a_h, .inr (8, [.ref a_h_d, .long u8.1, .ref a_h_was, .ref a_h_accounts, .int v_states, .int v_refused, .ref a_h_text, .int v_typed, .int v_at, .int v_sign, .int v_number, .ref a_h_aside, .ref a_h_places, .ref a_h_told])), (a_h_d, .inl (cI, 2086, .inl u8.2))]) (va_runV (As := [.int ((g3 0) + (g3 (Int32.toNatClampNeg ((42 : Int32) + p0))))]) (rest := []) ⟨hx, hb, hml, hown, hts⟩ (k_X8_goes l D cI cC cJ cB a_h a_h_d a_h_was a_h_accounts a_h_text a_h_aside a_h_places a_h_told m_account v_states v_refused v_typed v_at v_sign v_number g3 N ((g3 0) + (g3 (Int32.toNatClampNeg ((42 : Int32) + p0)))) H.size _ hu8) (cwV 1 hts gX8_moves_X8_goes rfl rfl rfl (by decide +kernel) ⟨Nat.le_of_ble_eq_true rfl, Nat.le_of_ble_eq_true rfl⟩) (pv_V hP hD hK hN [0, 1] rfl rfl (ci := 8) rfl 0 rfl) rfl rfl hl.1 rfl (lv_room (Nat.le_of_ble_eq_true rfl)) dX8_moves_58 ⟨Nat.zero_le _, Nat.zero_le _⟩) hP hD hS hA [0, 1] [] [0, 1] rfl rfl rfl rfl rfl rfl (fun H locs hP hD hS => ?_)
      obtain rfl := sm_e h
      exact rx_v hx hb hr  hP hK hD hS dX8_moves_61 hlocks
  refine lv_aload_n hx hb dX8_moves_0 rfl (lv_at hl 0 rfl) ?_
  refine va_get (D := D) (ci := 8) (v := .ref a_h_d) (C := RX8) (T := TX8) (N := 14) hx hb hts in_X8_moves_X8 hown hK hP 0 rfl rfl 0 (by decide) (hts _ q_X8_moves_1) (fun _ h9 => h9) rfl dX8_moves_1 ?_
  refine lv_bipush (v := (74 : Int32)) hx hb dX8_moves_4 (by decide) ?_
  refine lv_iload_n hx hb dX8_moves_6 rfl (lv_at hl 1 rfl) ?_
  refine lv_iadd hx hb dX8_moves_7 ?_
  refine lv_iload_n hx hb dX8_moves_8 rfl (lv_at hl 2 rfl) ?_
  refine lv_if_eq (tgt := 16) hx hb dX8_moves_9 (by decide) (fun hc1 => ?_) (fun hc1 => ?_)
  · replace h := it_e hc1 h
    refine lv_iconst (v := (0 : Int32)) hx hb dX8_moves_16 (by decide) ?_
    exact B17 (0 : Int32) ((74 : Int32) + p0) v_account v_d_A _ _ _ h hP hD hS hl
  · replace h := if_e hc1 h
    refine lv_iconst (v := (1 : Int32)) hx hb dX8_moves_12 (by decide) ?_
    refine lv_goto (tgt := 17) hx hb dX8_moves_13 (by decide) ?_
    exact B17 (1 : Int32) ((74 : Int32) + p0) v_account v_d_A _ _ _ h hP hD hS hl
-- X8_creeps
def f_X8_creeps_b2 (p0 : Int32) : Nat → Int32 → (Nat → Int32) → Option ((Nat → Int32))
  | 0, _, _ => none
  | k + 1, x2, m_d_A =>
    (if p0 ≤ x2 then some m_d_A
    else nm ((((m_d_A 0) * (m_d_A 7)) / (100 : Int32)) - (m_d_A 2)) (fun t2 => (if t2 ≤ (m_d_A 8) then (if (-(m_d_A 8)) ≤ t2 then nm ((m_d_A 2) + t2) (fun t5 => nm (upd m_d_A 2 t5) (fun g6 => (if t2 = 0 then nm (x2 + (1 : Int32)) (fun t8 => (f_X8_creeps_b2 p0 k t8 g6))
    else Option.bind (f_X8_follows g6) (fun u9 => nm (x2 + (1 : Int32)) (fun t10 => (f_X8_creeps_b2 p0 k t10 u9))))))
    else nm (-(m_d_A 8)) (fun t11 => nm ((m_d_A 2) + t11) (fun t12 => nm (upd m_d_A 2 t12) (fun g13 => (if t11 = 0 then nm (x2 + (1 : Int32)) (fun t15 => (f_X8_creeps_b2 p0 k t15 g13))
    else Option.bind (f_X8_follows g13) (fun u16 => nm (x2 + (1 : Int32)) (fun t17 => (f_X8_creeps_b2 p0 k t17 u16))))))))
    else nm (m_d_A 8) (fun t18 => nm ((m_d_A 2) + t18) (fun t19 => nm (upd m_d_A 2 t19) (fun g20 => (if t18 = 0 then nm (x2 + (1 : Int32)) (fun t22 => (f_X8_creeps_b2 p0 k t22 g20))
    else Option.bind (f_X8_follows g20) (fun u23 => nm (x2 + (1 : Int32)) (fun t24 => (f_X8_creeps_b2 p0 k t24 u23))))))))))
def f_X8_creeps (N : Nat) (v_d_A : Nat → Int32) (p0 : Int32) : Option ((Nat → Int32)) :=
  (f_X8_creeps_b2 p0 N (0 : Int32) v_d_A)
theorem q_X8_creeps_1 : (.fieldLink RX8 7 "SpringBalanceModel" "d" "[I" : Cond) ∈ wsX8_creeps := List.mem_of_getElem? (i := 1) (by decide +kernel)
set_option maxRecDepth 20000 in
theorem in_X8_creeps_X8 : ∀ w ∈ u_ws RX8 TX8 14, w ∈ wsX8_creeps := by decide +kernel
set_option maxHeartbeats 8000000 in
set_option maxRecDepth 100000 in
theorem k_X8_creeps (l : Launch) (D : va_G) (cI cC cJ cB : ClassId) (a_h a_h_d a_h_was a_h_accounts a_h_text a_h_aside a_h_places a_h_told : Nat) (v_account : Int64) (v_states : Int32) (v_refused : Int32) (v_typed : Int32) (v_at : Int32) (v_sign : Int32) (v_number : Int32) (v_d_A : Nat → Int32) (N : Nat) (p0 : Int32) (sz : Nat) (u : (Nat → Int32)) (hu : f_X8_creeps N v_d_A p0 = some u) :
    Met l yX8_creeps wsX8_creeps ({ frames := 1, cells := 0, slots := 0, locals := 21 } : Room) (va_Pc [.ref a_h, .int p0] (PreW D (ty4 cI cC cJ cB) sz [(a_h, .inr (8, [.ref a_h_d, .long v_account, .ref a_h_was, .ref a_h_accounts, .int v_states, .int v_refused, .ref a_h_text, .int v_typed, .int v_at, .int v_sign, .int v_number, .ref a_h_aside, .ref a_h_places, .ref a_h_told])), (a_h_d, .inl (cI, 2086, .inl v_d_A))]))
      (QV D (ty4 cI cC cJ cB) (va_A [(a_h, .inr (8, [.ref a_h_d, .long v_account, .ref a_h_was, .ref a_h_accounts, .int v_states, .int v_refused, .ref a_h_text, .int v_typed, .int v_at, .int v_sign, .int v_number, .ref a_h_aside, .ref a_h_places, .ref a_h_told])), (a_h_d, .inl (cI, 2086, .inl v_d_A))] sz) [(a_h, .inr (8, [.ref a_h_d, .long v_account, .ref a_h_was, .ref a_h_accounts, .int v_states, .int v_refused, .ref a_h_text, .int v_typed, .int v_at, .int v_sign, .int v_number, .ref a_h_aside, .ref a_h_places, .ref a_h_told])), (a_h_d, .inl (cI, 2086, .inl u))]) 0 0 (va_A [(a_h, .inr (8, [.ref a_h_d, .long v_account, .ref a_h_was, .ref a_h_accounts, .int v_states, .int v_refused, .ref a_h_text, .int v_typed, .int v_at, .int v_sign, .int v_number, .ref a_h_aside, .ref a_h_places, .ref a_h_told])), (a_h_d, .inl (cI, 2086, .inl v_d_A))] sz) := by
  refine met_go (y := yX8_creeps) (wsy := wsX8_creeps) (cc := cX8_creeps) (maxL := 5) (ret := none) (av := [.ref a_h, .int p0]) (Qc := fun A => QV D (ty4 cI cC cJ cB) A [(a_h, .inr (8, [.ref a_h_d, .long v_account, .ref a_h_was, .ref a_h_accounts, .int v_states, .int v_refused, .ref a_h_text, .int v_typed, .int v_at, .int v_sign, .int v_number, .ref a_h_aside, .ref a_h_places, .ref a_h_told])), (a_h_d, .inl (cI, 2086, .inl u))]) (by decide) rfl (Nat.le_of_ble_eq_true rfl) ?_
  intro p e s m below meth c A ls hx hb hr hml hown hts hlocks hnm hN hK hP hD hS hA hl
  have h := hu
  clear hu
  unfold f_X8_creeps at h
  have hl : lv_has ls 5 [(0, .ref a_h), (1, .int p0)] := hl
  have B2 : ∀ (k : Nat) (x2 : Int32) (m_d_A : Nat → Int32) (H : Heap) (locs : List Loc) (ls : Array Slot), f_X8_creeps_b2 p0 k x2 m_d_A = some u → va_P D vwCl [(a_h, .inr (8, [.ref a_h_d, .long v_account, .ref a_h_was, .ref a_h_accounts, .int v_states, .int v_refused, .ref a_h_text, .int v_typed, .int v_at, .int v_sign, .int v_number, .ref a_h_aside, .ref a_h_places, .ref a_h_told])), (a_h_d, .inl (cI, 2086, .inl m_d_A))] H → va_D A [(a_h, .inr (8, [.ref a_h_d, .long v_account, .ref a_h_was, .ref a_h_accounts, .int v_states, .int v_refused, .ref a_h_text, .int v_typed, .int v_at, .int v_sign, .int v_number, .ref a_h_aside, .ref a_h_places, .ref a_h_told])), (a_h_d, .inl (cI, 2086, .inl m_d_A))] → va_S A s.heap H locs → lv_has ls 5 [(0, .ref a_h), (1, .int p0), (2, .int x2)] → W p l e ({ frames := 1, cells := 0, slots := 0, locals := 21 } : Room) s m ([.ref a_h, .int p0] : List Value).toArray below meth c H locs 0 0 (MQ below (QV D (ty4 cI cC cJ cB) A [(a_h, .inr (8, [.ref a_h_d, .long v_account, .ref a_h_was, .ref a_h_accounts, .int v_states, .int v_refused, .ref a_h_text, .int v_typed, .int v_at, .int v_sign, .int v_number, .ref a_h_aside, .ref a_h_places, .ref a_h_told])), (a_h_d, .inl (cI, 2086, .inl u))]) ([.ref a_h, .int p0] : List Value).toArray s 0 0 A) (F0 m 2 ls []) := by
    intro k
    induction k with
    | zero =>
      intro x2 m_d_A H locs ls h
      exact nomatch (show (none : Option ((Nat → Int32))) = some u from h)
    | succ k ih =>
      intro x2 m_d_A H locs ls h hP hD hS hl
      rw [f_X8_creeps_b2.eq_2] at h
      refine lv_iload_n hx hb dX8_creeps_2 rfl (lv_at hl 2 rfl) ?_
      refine lv_iload_n hx hb dX8_creeps_3 rfl (lv_at hl 1 rfl) ?_
      refine lv_icmp_ge (tgt := 105) hx hb dX8_creeps_4 (by decide) (fun hc1 => ?_) (fun hc1 => ?_)
      · replace h := it_e hc1 h
        obtain rfl := sm_e h
        exact rx_v hx hb hr  hP hK hD hS dX8_creeps_105 hlocks
      · replace h := if_e hc1 h
        refine lv_aload_n hx hb dX8_creeps_7 rfl (lv_at hl 0 rfl) ?_
        refine va_get (D := D) (ci := 8) (v := .ref a_h_d) (C := RX8) (T := TX8) (N := 14) hx hb hts in_X8_creeps_X8 hown hK hP 0 rfl rfl 0 (by decide) (hts _ q_X8_creeps_1) (fun _ h9 => h9) rfl dX8_creeps_8 ?_
        refine lv_iconst (v := (0 : Int32)) hx hb dX8_creeps_11 (by decide) ?_
        refine wx_iald hx hb hK hP 1 0 rfl rfl 0 (by decide) (by unfold vp_in; decide) dX8_creeps_12 ?_
        refine lv_aload_n hx hb dX8_creeps_13 rfl (lv_at hl 0 rfl) ?_
        refine va_get (D := D) (ci := 8) (v := .ref a_h_d) (C := RX8) (T := TX8) (N := 14) hx hb hts in_X8_creeps_X8 hown hK hP 0 rfl rfl 0 (by decide) (hts _ q_X8_creeps_1) (fun _ h9 => h9) rfl dX8_creeps_14 ?_
        refine lv_bipush (v := (7 : Int32)) hx hb dX8_creeps_17 (by decide) ?_
        refine wx_iald hx hb hK hP 1 0 rfl rfl 7 (by decide) (by unfold vp_in; decide) dX8_creeps_19 ?_
        refine lv_imul hx hb dX8_creeps_20 ?_
        refine lv_bipush (v := (100 : Int32)) hx hb dX8_creeps_21 (by decide) ?_
        refine lv_idiv hx hb dX8_creeps_23 (by decide) ?_
        refine lv_aload_n hx hb dX8_creeps_24 rfl (lv_at hl 0 rfl) ?_
        refine va_get (D := D) (ci := 8) (v := .ref a_h_d) (C := RX8) (T := TX8) (N := 14) hx hb hts in_X8_creeps_X8 hown hK hP 0 rfl rfl 0 (by decide) (hts _ q_X8_creeps_1) (fun _ h9 => h9) rfl dX8_creeps_25 ?_
        refine lv_iconst (v := (2 : Int32)) hx hb dX8_creeps_28 (by decide) ?_
        refine wx_iald hx hb hK hP 1 0 rfl rfl 2 (by decide) (by unfold vp_in; decide) dX8_creeps_29 ?_
        refine lv_isub hx hb dX8_creeps_30 ?_
        refine lv_topi (fun t2 et2 => ?_)
        replace h := nm_at h et2
        refine lv_istore_n (lv' := [(3, .int t2), (0, .ref a_h), (1, .int p0), (2, .int x2)]) hx hb dX8_creeps_31 rfl hl (by decide) rfl (fun ls hl => ?_)
        refine lv_iload_n hx hb dX8_creeps_32 rfl (lv_at hl 0 rfl) ?_
        refine lv_aload_n hx hb dX8_creeps_33 rfl (lv_at hl 1 rfl) ?_
        refine va_get (D := D) (ci := 8) (v := .ref a_h_d) (C := RX8) (T := TX8) (N := 14) hx hb hts in_X8_creeps_X8 hown hK hP 0 rfl rfl 0 (by decide) (hts _ q_X8_creeps_1) (fun _ h9 => h9) rfl dX8_creeps_34 ?_
        refine lv_bipush (v := (8 : Int32)) hx hb dX8_creeps_37 (by decide) ?_
        refine wx_iald hx hb hK hP 1 0 rfl rfl 8 (by decide) (by unfold vp_in; decide) dX8_creeps_39 ?_
        refine lv_icmp_le (tgt := 53) hx hb dX8_creeps_40 (by decide) (fun hc3 => ?_) (fun hc3 => ?_)
        · replace h := it_e hc3 h
          refine lv_iload_n hx hb dX8_creeps_53 rfl (lv_at hl 0 rfl) ?_
          refine lv_aload_n hx hb dX8_creeps_54 rfl (lv_at hl 1 rfl) ?_
          refine va_get (D := D) (ci := 8) (v := .ref a_h_d) (C := RX8) (T := TX8) (N := 14) hx hb hts in_X8_creeps_X8 hown hK hP 0 rfl rfl 0 (by decide) (hts _ q_X8_creeps_1) (fun _ h9 => h9) rfl dX8_creeps_55 ?_
          refine lv_bipush (v := (8 : Int32)) hx hb dX8_creeps_58 (by decide) ?_
          refine wx_iald hx hb hK hP 1 0 rfl rfl 8 (by decide) (by unfold vp_in; decide) dX8_creeps_60 ?_
          refine lv_ineg hx hb dX8_creeps_61 ?_
          refine lv_icmp_ge (tgt := 76) hx hb dX8_creeps_62 (by decide) (fun hc4 => ?_) (fun hc4 => ?_)
          · replace h := it_e hc4 h
            refine lv_iload_n hx hb dX8_creeps_76 rfl (lv_at hl 0 rfl) ?_
            refine lv_istore (lv' := [(4, .int t2), (3, .int t2), (0, .ref a_h), (1, .int p0), (2, .int x2)]) hx hb dX8_creeps_77 hl (by decide) rfl (fun ls hl => ?_)
            refine lv_aload_n hx hb dX8_creeps_79 rfl (lv_at hl 2 rfl) ?_
            refine va_get (D := D) (ci := 8) (v := .ref a_h_d) (C := RX8) (T := TX8) (N := 14) hx hb hts in_X8_creeps_X8 hown hK hP 0 rfl rfl 0 (by decide) (hts _ q_X8_creeps_1) (fun _ h9 => h9) rfl dX8_creeps_80 ?_
            refine lv_iconst (v := (2 : Int32)) hx hb dX8_creeps_83 (by decide) ?_
            refine lv_dup2_11 hx hb dX8_creeps_84 rfl rfl ?_
            refine wx_iald hx hb hK hP 1 0 rfl rfl 2 (by decide) (by unfold vp_in; decide) dX8_creeps_85 ?_
            refine lv_iload hx hb dX8_creeps_86 (lv_at hl 0 rfl) ?_
            refine lv_iadd hx hb dX8_creeps_88 ?_
            refine lv_topi (fun t5 et5 => ?_)
            replace h := nm_at h et5
            refine wx_iast hx hb hK hP hD hS 1 0 rfl rfl 2 (by decide) (by unfold vp_in; decide) dX8_creeps_89 rfl (fun H locs hP hD hS => ?_)
            obtain ⟨g6, eg6, h⟩ := nm_x h
            have hP : va_P D vwCl [(a_h, .inr (8, [.ref a_h_d, .long v_account, .ref a_h_was, .ref a_h_accounts, .int v_states, .int v_refused, .ref a_h_text, .int v_typed, .int v_at, .int v_sign, .int v_number, .ref a_h_aside, .ref a_h_places, .ref a_h_told])), (a_h_d, .inl (cI, 2086, .inl g6))] H := by rw [eg6]; exact hP
            have hD : va_D A [(a_h, .inr (8, [.ref a_h_d, .long v_account, .ref a_h_was, .ref a_h_accounts, .int v_states, .int v_refused, .ref a_h_text, .int v_typed, .int v_at, .int v_sign, .int v_number, .ref a_h_aside, .ref a_h_places, .ref a_h_told])), (a_h_d, .inl (cI, 2086, .inl g6))] := by rw [eg6]; exact hD
            refine lv_iload hx hb dX8_creeps_90 (lv_at hl 0 rfl) ?_
            refine lv_if_eq (tgt := 99) hx hb dX8_creeps_92 (by decide) (fun hc7 => ?_) (fun hc7 => ?_)
            · replace h := it_e hc7 h
              obtain ⟨t8, et8, h⟩ := nm_x h
              refine lv_iinc (v := t8) (lv' := [(2, .int t8), (4, .int t2), (3, .int t2), (0, .ref a_h), (1, .int p0)]) hx hb dX8_creeps_99 hl (k := 4) rfl (by rw [et8]; rfl) (by decide) rfl (fun ls hl => ?_)
              refine lv_goto (tgt := 2) hx hb dX8_creeps_102 (by decide) ?_
              exact ih t8 g6 _ _ _ h hP hD hS (lv_sub hl [3, 4, 0] rfl)
            · replace h := if_e hc7 h
              refine lv_aload_n hx hb dX8_creeps_95 rfl (lv_at hl 2 rfl) ?_
              obtain ⟨u9, hu9, h⟩ := bd_e h
              refine kx_v (mc := 0) (ms := 0) (wr := []) (ws2 := [(a_h, .inr (8, [.ref a_h_d, .long v_account, .ref a_h_was, .ref a_h_accounts, .int v_states, .int v_refused, .ref a_h_text, .int v_typed, .int v_at, .int v_sign, .int v_number, .ref a_h_aside, .ref a_h_places, .ref a_h_told])), (a_h_d, .inl (cI, 2086, .inl u9))]) (va_runV (As := []) (rest := []) ⟨hx, hb, hml, hown, hts⟩ (k_X8_follows l D cI cC cJ cB a_h a_h_d a_h_was a_h_accounts a_h_text a_h_aside a_h_places a_h_told v_account v_states v_refused v_typed v_at v_sign v_number g6 N H.size _ hu9) (cwV 0 hts gX8_creeps_X8_follows rfl rfl rfl (by decide +kernel) ⟨Nat.le_of_ble_eq_true rfl, Nat.le_of_ble_eq_true rfl⟩) (pv_V hP hD hK hN [0, 1] rfl rfl (ci := 8) rfl 0 rfl) rfl rfl hl.1 rfl (lv_room (Nat.le_of_ble_eq_true rfl)) dX8_creeps_96 ⟨Nat.zero_le _, Nat.zero_le _⟩) hP hD hS hA [0, 1] [] [0, 1] rfl rfl rfl rfl rfl rfl (fun H locs hP hD hS => ?_)
              obtain ⟨t10, et10, h⟩ := nm_x h
              refine lv_iinc (v := t10) (lv' := [(2, .int t10), (4, .int t2), (3, .int t2), (0, .ref a_h), (1, .int p0)]) hx hb dX8_creeps_99 hl (k := 4) rfl (by rw [et10]; rfl) (by decide) rfl (fun ls hl => ?_)
              refine lv_goto (tgt := 2) hx hb dX8_creeps_102 (by decide) ?_
              exact ih t10 u9 _ _ _ h hP hD hS (lv_sub hl [3, 4, 0] rfl)
          · replace h := if_e hc4 h
            refine lv_aload_n hx hb dX8_creeps_65 rfl (lv_at hl 1 rfl) ?_
            refine va_get (D := D) (ci := 8) (v := .ref a_h_d) (C := RX8) (T := TX8) (N := 14) hx hb hts in_X8_creeps_X8 hown hK hP 0 rfl rfl 0 (by decide) (hts _ q_X8_creeps_1) (fun _ h9 => h9) rfl dX8_creeps_66 ?_
            refine lv_bipush (v := (8 : Int32)) hx hb dX8_creeps_69 (by decide) ?_
            refine wx_iald hx hb hK hP 1 0 rfl rfl 8 (by decide) (by unfold vp_in; decide) dX8_creeps_71 ?_
            refine lv_ineg hx hb dX8_creeps_72 ?_
            refine lv_goto (tgt := 77) hx hb dX8_creeps_73 (by decide) ?_
            refine lv_topi (fun t11 et11 => ?_)
            replace h := nm_at h et11
            refine lv_istore (lv' := [(4, .int t11), (3, .int t2), (0, .ref a_h), (1, .int p0), (2, .int x2)]) hx hb dX8_creeps_77 hl (by decide) rfl (fun ls hl => ?_)
            refine lv_aload_n hx hb dX8_creeps_79 rfl (lv_at hl 2 rfl) ?_
            refine va_get (D := D) (ci := 8) (v := .ref a_h_d) (C := RX8) (T := TX8) (N := 14) hx hb hts in_X8_creeps_X8 hown hK hP 0 rfl rfl 0 (by decide) (hts _ q_X8_creeps_1) (fun _ h9 => h9) rfl dX8_creeps_80 ?_
            refine lv_iconst (v := (2 : Int32)) hx hb dX8_creeps_83 (by decide) ?_
            refine lv_dup2_11 hx hb dX8_creeps_84 rfl rfl ?_
            refine wx_iald hx hb hK hP 1 0 rfl rfl 2 (by decide) (by unfold vp_in; decide) dX8_creeps_85 ?_
            refine lv_iload hx hb dX8_creeps_86 (lv_at hl 0 rfl) ?_
            refine lv_iadd hx hb dX8_creeps_88 ?_
            refine lv_topi (fun t12 et12 => ?_)
            replace h := nm_at h et12
            refine wx_iast hx hb hK hP hD hS 1 0 rfl rfl 2 (by decide) (by unfold vp_in; decide) dX8_creeps_89 rfl (fun H locs hP hD hS => ?_)
            obtain ⟨g13, eg13, h⟩ := nm_x h
            have hP : va_P D vwCl [(a_h, .inr (8, [.ref a_h_d, .long v_account, .ref a_h_was, .ref a_h_accounts, .int v_states, .int v_refused, .ref a_h_text, .int v_typed, .int v_at, .int v_sign, .int v_number, .ref a_h_aside, .ref a_h_places, .ref a_h_told])), (a_h_d, .inl (cI, 2086, .inl g13))] H := by rw [eg13]; exact hP
            have hD : va_D A [(a_h, .inr (8, [.ref a_h_d, .long v_account, .ref a_h_was, .ref a_h_accounts, .int v_states, .int v_refused, .ref a_h_text, .int v_typed, .int v_at, .int v_sign, .int v_number, .ref a_h_aside, .ref a_h_places, .ref a_h_told])), (a_h_d, .inl (cI, 2086, .inl g13))] := by rw [eg13]; exact hD
            refine lv_iload hx hb dX8_creeps_90 (lv_at hl 0 rfl) ?_
            refine lv_if_eq (tgt := 99) hx hb dX8_creeps_92 (by decide) (fun hc14 => ?_) (fun hc14 => ?_)
            · replace h := it_e hc14 h
              obtain ⟨t15, et15, h⟩ := nm_x h
              refine lv_iinc (v := t15) (lv' := [(2, .int t15), (4, .int t11), (3, .int t2), (0, .ref a_h), (1, .int p0)]) hx hb dX8_creeps_99 hl (k := 4) rfl (by rw [et15]; rfl) (by decide) rfl (fun ls hl => ?_)
              refine lv_goto (tgt := 2) hx hb dX8_creeps_102 (by decide) ?_
              exact ih t15 g13 _ _ _ h hP hD hS (lv_sub hl [3, 4, 0] rfl)
            · replace h := if_e hc14 h
              refine lv_aload_n hx hb dX8_creeps_95 rfl (lv_at hl 2 rfl) ?_
              obtain ⟨u16, hu16, h⟩ := bd_e h
              refine kx_v (mc := 0) (ms := 0) (wr := []) (ws2 := [(a_h, .inr (8, [.ref a_h_d, .long v_account, .ref a_h_was, .ref a_h_accounts, .int v_states, .int v_refused, .ref a_h_text, .int v_typed, .int v_at, .int v_sign, .int v_number, .ref a_h_aside, .ref a_h_places, .ref a_h_told])), (a_h_d, .inl (cI, 2086, .inl u16))]) (va_runV (As := []) (rest := []) ⟨hx, hb, hml, hown, hts⟩ (k_X8_follows l D cI cC cJ cB a_h a_h_d a_h_was a_h_accounts a_h_text a_h_aside a_h_places a_h_told v_account v_states v_refused v_typed v_at v_sign v_number g13 N H.size _ hu16) (cwV 0 hts gX8_creeps_X8_follows rfl rfl rfl (by decide +kernel) ⟨Nat.le_of_ble_eq_true rfl, Nat.le_of_ble_eq_true rfl⟩) (pv_V hP hD hK hN [0, 1] rfl rfl (ci := 8) rfl 0 rfl) rfl rfl hl.1 rfl (lv_room (Nat.le_of_ble_eq_true rfl)) dX8_creeps_96 ⟨Nat.zero_le _, Nat.zero_le _⟩) hP hD hS hA [0, 1] [] [0, 1] rfl rfl rfl rfl rfl rfl (fun H locs hP hD hS => ?_)
              obtain ⟨t17, et17, h⟩ := nm_x h
              refine lv_iinc (v := t17) (lv' := [(2, .int t17), (4, .int t11), (3, .int t2), (0, .ref a_h), (1, .int p0)]) hx hb dX8_creeps_99 hl (k := 4) rfl (by rw [et17]; rfl) (by decide) rfl (fun ls hl => ?_)
              refine lv_goto (tgt := 2) hx hb dX8_creeps_102 (by decide) ?_
              exact ih t17 u16 _ _ _ h hP hD hS (lv_sub hl [3, 4, 0] rfl)
        · replace h := if_e hc3 h
          refine lv_aload_n hx hb dX8_creeps_43 rfl (lv_at hl 1 rfl) ?_
          refine va_get (D := D) (ci := 8) (v := .ref a_h_d) (C := RX8) (T := TX8) (N := 14) hx hb hts in_X8_creeps_X8 hown hK hP 0 rfl rfl 0 (by decide) (hts _ q_X8_creeps_1) (fun _ h9 => h9) rfl dX8_creeps_44 ?_
          refine lv_bipush (v := (8 : Int32)) hx hb dX8_creeps_47 (by decide) ?_
          refine wx_iald hx hb hK hP 1 0 rfl rfl 8 (by decide) (by unfold vp_in; decide) dX8_creeps_49 ?_
          refine lv_goto (tgt := 77) hx hb dX8_creeps_50 (by decide) ?_
          refine lv_topi (fun t18 et18 => ?_)
          replace h := nm_at h et18
          refine lv_istore (lv' := [(4, .int t18), (3, .int t2), (0, .ref a_h), (1, .int p0), (2, .int x2)]) hx hb dX8_creeps_77 hl (by decide) rfl (fun ls hl => ?_)
          refine lv_aload_n hx hb dX8_creeps_79 rfl (lv_at hl 2 rfl) ?_
          refine va_get (D := D) (ci := 8) (v := .ref a_h_d) (C := RX8) (T := TX8) (N := 14) hx hb hts in_X8_creeps_X8 hown hK hP 0 rfl rfl 0 (by decide) (hts _ q_X8_creeps_1) (fun _ h9 => h9) rfl dX8_creeps_80 ?_
          refine lv_iconst (v := (2 : Int32)) hx hb dX8_creeps_83 (by decide) ?_
          refine lv_dup2_11 hx hb dX8_creeps_84 rfl rfl ?_
          refine wx_iald hx hb hK hP 1 0 rfl rfl 2 (by decide) (by unfold vp_in; decide) dX8_creeps_85 ?_
          refine lv_iload hx hb dX8_creeps_86 (lv_at hl 0 rfl) ?_
          refine lv_iadd hx hb dX8_creeps_88 ?_
          refine lv_topi (fun t19 et19 => ?_)
          replace h := nm_at h et19
          refine wx_iast hx hb hK hP hD hS 1 0 rfl rfl 2 (by decide) (by unfold vp_in; decide) dX8_creeps_89 rfl (fun H locs hP hD hS => ?_)
          obtain ⟨g20, eg20, h⟩ := nm_x h
          have hP : va_P D vwCl [(a_h, .inr (8, [.ref a_h_d, .long v_account, .ref a_h_was, .ref a_h_accounts, .int v_states, .int v_refused, .ref a_h_text, .int v_typed, .int v_at, .int v_sign, .int v_number, .ref a_h_aside, .ref a_h_places, .ref a_h_told])), (a_h_d, .inl (cI, 2086, .inl g20))] H := by rw [eg20]; exact hP
          have hD : va_D A [(a_h, .inr (8, [.ref a_h_d, .long v_account, .ref a_h_was, .ref a_h_accounts, .int v_states, .int v_refused, .ref a_h_text, .int v_typed, .int v_at, .int v_sign, .int v_number, .ref a_h_aside, .ref a_h_places, .ref a_h_told])), (a_h_d, .inl (cI, 2086, .inl g20))] := by rw [eg20]; exact hD
          refine lv_iload hx hb dX8_creeps_90 (lv_at hl 0 rfl) ?_
          refine lv_if_eq (tgt := 99) hx hb dX8_creeps_92 (by decide) (fun hc21 => ?_) (fun hc21 => ?_)
          · replace h := it_e hc21 h
            obtain ⟨t22, et22, h⟩ := nm_x h
            refine lv_iinc (v := t22) (lv' := [(2, .int t22), (4, .int t18), (3, .int t2), (0, .ref a_h), (1, .int p0)]) hx hb dX8_creeps_99 hl (k := 4) rfl (by rw [et22]; rfl) (by decide) rfl (fun ls hl => ?_)
            refine lv_goto (tgt := 2) hx hb dX8_creeps_102 (by decide) ?_
            exact ih t22 g20 _ _ _ h hP hD hS (lv_sub hl [3, 4, 0] rfl)
          · replace h := if_e hc21 h
            refine lv_aload_n hx hb dX8_creeps_95 rfl (lv_at hl 2 rfl) ?_
            obtain ⟨u23, hu23, h⟩ := bd_e h
            refine kx_v (mc := 0) (ms := 0) (wr := []) (ws2 := [(a_h, .inr (8, [.ref a_h_d, .long v_account, .ref a_h_was, .ref a_h_accounts, .int v_states, .int v_refused, .ref a_h_text, .int v_typed, .int v_at, .int v_sign, .int v_number, .ref a_h_aside, .ref a_h_places, .ref a_h_told])), (a_h_d, .inl (cI, 2086, .inl u23))]) (va_runV (As := []) (rest := []) ⟨hx, hb, hml, hown, hts⟩ (k_X8_follows l D cI cC cJ cB a_h a_h_d a_h_was a_h_accounts a_h_text a_h_aside a_h_places a_h_told v_account v_states v_refused v_typed v_at v_sign v_number g20 N H.size _ hu23) (cwV 0 hts gX8_creeps_X8_follows rfl rfl rfl (by decide +kernel) ⟨Nat.le_of_ble_eq_true rfl, Nat.le_of_ble_eq_true rfl⟩) (pv_V hP hD hK hN [0, 1] rfl rfl (ci := 8) rfl 0 rfl) rfl rfl hl.1 rfl (lv_room (Nat.le_of_ble_eq_true rfl)) dX8_creeps_96 ⟨Nat.zero_le _, Nat.zero_le _⟩) hP hD hS hA [0, 1] [] [0, 1] rfl rfl rfl rfl rfl rfl (fun H locs hP hD hS => ?_)
            obtain ⟨t24, et24, h⟩ := nm_x h
            refine lv_iinc (v := t24) (lv' := [(2, .int t24), (4, .int t18), (3, .int t2), (0, .ref a_h), (1, .int p0)]) hx hb dX8_creeps_99 hl (k := 4) rfl (by rw [et24]; rfl) (by decide) rfl (fun ls hl => ?_)
            refine lv_goto (tgt := 2) hx hb dX8_creeps_102 (by decide) ?_
            exact ih t24 u23 _ _ _ h hP hD hS (lv_sub hl [3, 4, 0] rfl)
  refine lv_iconst (v := (0 : Int32)) hx hb dX8_creeps_0 (by decide) ?_
  refine lv_istore_n (lv' := [(2, .int (0 : Int32)), (0, .ref a_h), (1, .int p0)]) hx hb dX8_creeps_1 rfl hl (by decide) rfl (fun ls hl => ?_)
  exact B2 N (0 : Int32) v_d_A _ _ _ h hP hD hS (lv_sub hl [1, 2, 0] rfl)
-- X8_zeroes
def f_X8_zeroes (v_d_A : Nat → Int32) : Option (Int64 × (Nat → Int32)) :=
  nm (upd v_d_A 5 (0 : Int32)) (fun g1 => nm (upd g1 4 (0 : Int32)) (fun g2 => nm (upd g2 2 (0 : Int32)) (fun g3 => nm (upd g3 1 (0 : Int32)) (fun g4 => nm (upd g4 3 (0 : Int32)) (fun g5 => some ((0 : Int64), g5))))))
theorem q_X8_zeroes_1 : (.fieldLink RX8 7 "SpringBalanceModel" "d" "[I" : Cond) ∈ wsX8_zeroes := List.mem_of_getElem? (i := 1) (by decide +kernel)
set_option maxRecDepth 20000 in
theorem in_X8_zeroes_X8 : ∀ w ∈ u_ws RX8 TX8 14, w ∈ wsX8_zeroes := by decide +kernel
theorem q_X8_zeroes_2 : (.fieldLink RX8 37 "SpringBalanceModel" "account" "J" : Cond) ∈ wsX8_zeroes := List.mem_of_getElem? (i := 2) (by decide +kernel)
set_option maxHeartbeats 8000000 in
set_option maxRecDepth 100000 in
theorem k_X8_zeroes (l : Launch) (D : va_G) (cI cC cJ cB : ClassId) (a_h a_h_d a_h_was a_h_accounts a_h_text a_h_aside a_h_places a_h_told : Nat) (v_account : Int64) (v_states : Int32) (v_refused : Int32) (v_typed : Int32) (v_at : Int32) (v_sign : Int32) (v_number : Int32) (v_d_A : Nat → Int32) (N : Nat) (sz : Nat) (u : Int64 × (Nat → Int32)) (hu : f_X8_zeroes v_d_A = some u) :
    Met l yX8_zeroes wsX8_zeroes ({ frames := 0, cells := 0, slots := 0, locals := 0 } : Room) (va_Pc [.ref a_h] (PreW D (ty4 cI cC cJ cB) sz [(a_h, .inr (8, [.ref a_h_d, .long v_account, .ref a_h_was, .ref a_h_accounts, .int v_states, .int v_refused, .ref a_h_text, .int v_typed, .int v_at, .int v_sign, .int v_number, .ref a_h_aside, .ref a_h_places, .ref a_h_told])), (a_h_d, .inl (cI, 2086, .inl v_d_A))]))
      (QV D (ty4 cI cC cJ cB) (va_A [(a_h, .inr (8, [.ref a_h_d, .long v_account, .ref a_h_was, .ref a_h_accounts, .int v_states, .int v_refused, .ref a_h_text, .int v_typed, .int v_at, .int v_sign, .int v_number, .ref a_h_aside, .ref a_h_places, .ref a_h_told])), (a_h_d, .inl (cI, 2086, .inl v_d_A))] sz) [(a_h, .inr (8, [.ref a_h_d, .long u.1, .ref a_h_was, .ref a_h_accounts, .int v_states, .int v_refused, .ref a_h_text, .int v_typed, .int v_at, .int v_sign, .int v_number, .ref a_h_aside, .ref a_h_places, .ref a_h_told])), (a_h_d, .inl (cI, 2086, .inl u.2))]) 0 0 (va_A [(a_h, .inr (8, [.ref a_h_d, .long v_account, .ref a_h_was, .ref a_h_accounts, .int v_states, .int v_refused, .ref a_h_text, .int v_typed, .int v_at, .int v_sign, .int v_number, .ref a_h_aside, .ref a_h_places, .ref a_h_told])), (a_h_d, .inl (cI, 2086, .inl v_d_A))] sz) := by
  refine met_go (y := yX8_zeroes) (wsy := wsX8_zeroes) (cc := cX8_zeroes) (maxL := 1) (ret := none) (av := [.ref a_h]) (Qc := fun A => QV D (ty4 cI cC cJ cB) A [(a_h, .inr (8, [.ref a_h_d, .long u.1, .ref a_h_was, .ref a_h_accounts, .int v_states, .int v_refused, .ref a_h_text, .int v_typed, .int v_at, .int v_sign, .int v_number, .ref a_h_aside, .ref a_h_places, .ref a_h_told])), (a_h_d, .inl (cI, 2086, .inl u.2))]) (by decide) rfl (Nat.le_of_ble_eq_true rfl) ?_
  intro p e s m below meth c A ls hx hb hr hml hown hts hlocks hnm hN hK hP hD hS hA hl
  have h := hu
  clear hu
  unfold f_X8_zeroes at h
  have hl : lv_has ls 1 [(0, .ref a_h)] := hl
  refine lv_aload_n hx hb dX8_zeroes_0 rfl (lv_at hl 0 rfl) ?_
  refine va_get (D := D) (ci := 8) (v := .ref a_h_d) (C := RX8) (T := TX8) (N := 14) hx hb hts in_X8_zeroes_X8 hown hK hP 0 rfl rfl 0 (by decide) (hts _ q_X8_zeroes_1) (fun _ h9 => h9) rfl dX8_zeroes_1 ?_
  refine lv_iconst (v := (5 : Int32)) hx hb dX8_zeroes_4 (by decide) ?_
  refine lv_iconst (v := (0 : Int32)) hx hb dX8_zeroes_5 (by decide) ?_
  refine wx_iast hx hb hK hP hD hS 1 0 rfl rfl 5 (by decide) (by unfold vp_in; decide) dX8_zeroes_6 rfl (fun H locs hP hD hS => ?_)
  obtain ⟨g1, eg1, h⟩ := nm_x h
  have hP : va_P D vwCl [(a_h, .inr (8, [.ref a_h_d, .long v_account, .ref a_h_was, .ref a_h_accounts, .int v_states, .int v_refused, .ref a_h_text, .int v_typed, .int v_at, .int v_sign, .int v_number, .ref a_h_aside, .ref a_h_places, .ref a_h_told])), (a_h_d, .inl (cI, 2086, .inl g1))] H := by rw [eg1]; exact hP
  have hD : va_D A [(a_h, .inr (8, [.ref a_h_d, .long v_account, .ref a_h_was, .ref a_h_accounts, .int v_states, .int v_refused, .ref a_h_text, .int v_typed, .int v_at, .int v_sign, .int v_number, .ref a_h_aside, .ref a_h_places, .ref a_h_told])), (a_h_d, .inl (cI, 2086, .inl g1))] := by rw [eg1]; exact hD
  refine lv_aload_n hx hb dX8_zeroes_7 rfl (lv_at hl 0 rfl) ?_
  refine va_get (D := D) (ci := 8) (v := .ref a_h_d) (C := RX8) (T := TX8) (N := 14) hx hb hts in_X8_zeroes_X8 hown hK hP 0 rfl rfl 0 (by decide) (hts _ q_X8_zeroes_1) (fun _ h9 => h9) rfl dX8_zeroes_8 ?_
  refine lv_iconst (v := (4 : Int32)) hx hb dX8_zeroes_11 (by decide) ?_
  refine lv_iconst (v := (0 : Int32)) hx hb dX8_zeroes_12 (by decide) ?_
  refine wx_iast hx hb hK hP hD hS 1 0 rfl rfl 4 (by decide) (by unfold vp_in; decide) dX8_zeroes_13 rfl (fun H locs hP hD hS => ?_)
  obtain ⟨g2, eg2, h⟩ := nm_x h
  have hP : va_P D vwCl [(a_h, .inr (8, [.ref a_h_d, .long v_account, .ref a_h_was, .ref a_h_accounts, .int v_states, .int v_refused, .ref a_h_text, .int v_typed, .int v_at, .int v_sign, .int v_number, .ref a_h_aside, .ref a_h_places, .ref a_h_told])), (a_h_d, .inl (cI, 2086, .inl g2))] H := by rw [eg2]; exact hP
  have hD : va_D A [(a_h, .inr (8, [.ref a_h_d, .long v_account, .ref a_h_was, .ref a_h_accounts, .int v_states, .int v_refused, .ref a_h_text, .int v_typed, .int v_at, .int v_sign, .int v_number, .ref a_h_aside, .ref a_h_places, .ref a_h_told])), (a_h_d, .inl (cI, 2086, .inl g2))] := by rw [eg2]; exact hD
  refine lv_aload_n hx hb dX8_zeroes_14 rfl (lv_at hl 0 rfl) ?_
  refine va_get (D := D) (ci := 8) (v := .ref a_h_d) (C := RX8) (T := TX8) (N := 14) hx hb hts in_X8_zeroes_X8 hown hK hP 0 rfl rfl 0 (by decide) (hts _ q_X8_zeroes_1) (fun _ h9 => h9) rfl dX8_zeroes_15 ?_
  refine lv_iconst (v := (2 : Int32)) hx hb dX8_zeroes_18 (by decide) ?_
  refine lv_iconst (v := (0 : Int32)) hx hb dX8_zeroes_19 (by decide) ?_
  refine wx_iast hx hb hK hP hD hS 1 0 rfl rfl 2 (by decide) (by unfold vp_in; decide) dX8_zeroes_20 rfl (fun H locs hP hD hS => ?_)
  obtain ⟨g3, eg3, h⟩ := nm_x h
  have hP : va_P D vwCl [(a_h, .inr (8, [.ref a_h_d, .long v_account, .ref a_h_was, .ref a_h_accounts, .int v_states, .int v_refused, .ref a_h_text, .int v_typed, .int v_at, .int v_sign, .int v_number, .ref a_h_aside, .ref a_h_places, .ref a_h_told])), (a_h_d, .inl (cI, 2086, .inl g3))] H := by rw [eg3]; exact hP
  have hD : va_D A [(a_h, .inr (8, [.ref a_h_d, .long v_account, .ref a_h_was, .ref a_h_accounts, .int v_states, .int v_refused, .ref a_h_text, .int v_typed, .int v_at, .int v_sign, .int v_number, .ref a_h_aside, .ref a_h_places, .ref a_h_told])), (a_h_d, .inl (cI, 2086, .inl g3))] := by rw [eg3]; exact hD
  refine lv_aload_n hx hb dX8_zeroes_21 rfl (lv_at hl 0 rfl) ?_
  refine va_get (D := D) (ci := 8) (v := .ref a_h_d) (C := RX8) (T := TX8) (N := 14) hx hb hts in_X8_zeroes_X8 hown hK hP 0 rfl rfl 0 (by decide) (hts _ q_X8_zeroes_1) (fun _ h9 => h9) rfl dX8_zeroes_22 ?_
  refine lv_iconst (v := (1 : Int32)) hx hb dX8_zeroes_25 (by decide) ?_
  refine lv_iconst (v := (0 : Int32)) hx hb dX8_zeroes_26 (by decide) ?_
  refine wx_iast hx hb hK hP hD hS 1 0 rfl rfl 1 (by decide) (by unfold vp_in; decide) dX8_zeroes_27 rfl (fun H locs hP hD hS => ?_)
  obtain ⟨g4, eg4, h⟩ := nm_x h
  have hP : va_P D vwCl [(a_h, .inr (8, [.ref a_h_d, .long v_account, .ref a_h_was, .ref a_h_accounts, .int v_states, .int v_refused, .ref a_h_text, .int v_typed, .int v_at, .int v_sign, .int v_number, .ref a_h_aside, .ref a_h_places, .ref a_h_told])), (a_h_d, .inl (cI, 2086, .inl g4))] H := by rw [eg4]; exact hP
  have hD : va_D A [(a_h, .inr (8, [.ref a_h_d, .long v_account, .ref a_h_was, .ref a_h_accounts, .int v_states, .int v_refused, .ref a_h_text, .int v_typed, .int v_at, .int v_sign, .int v_number, .ref a_h_aside, .ref a_h_places, .ref a_h_told])), (a_h_d, .inl (cI, 2086, .inl g4))] := by rw [eg4]; exact hD
  refine lv_aload_n hx hb dX8_zeroes_28 rfl (lv_at hl 0 rfl) ?_
  refine va_get (D := D) (ci := 8) (v := .ref a_h_d) (C := RX8) (T := TX8) (N := 14) hx hb hts in_X8_zeroes_X8 hown hK hP 0 rfl rfl 0 (by decide) (hts _ q_X8_zeroes_1) (fun _ h9 => h9) rfl dX8_zeroes_29 ?_
  refine lv_iconst (v := (3 : Int32)) hx hb dX8_zeroes_32 (by decide) ?_
  refine lv_iconst (v := (0 : Int32)) hx hb dX8_zeroes_33 (by decide) ?_
  refine wx_iast hx hb hK hP hD hS 1 0 rfl rfl 3 (by decide) (by unfold vp_in; decide) dX8_zeroes_34 rfl (fun H locs hP hD hS => ?_)
  obtain ⟨g5, eg5, h⟩ := nm_x h
  have hP : va_P D vwCl [(a_h, .inr (8, [.ref a_h_d, .long v_account, .ref a_h_was, .ref a_h_accounts, .int v_states, .int v_refused, .ref a_h_text, .int v_typed, .int v_at, .int v_sign, .int v_number, .ref a_h_aside, .ref a_h_places, .ref a_h_told])), (a_h_d, .inl (cI, 2086, .inl g5))] H := by rw [eg5]; exact hP
  have hD : va_D A [(a_h, .inr (8, [.ref a_h_d, .long v_account, .ref a_h_was, .ref a_h_accounts, .int v_states, .int v_refused, .ref a_h_text, .int v_typed, .int v_at, .int v_sign, .int v_number, .ref a_h_aside, .ref a_h_places, .ref a_h_told])), (a_h_d, .inl (cI, 2086, .inl g5))] := by rw [eg5]; exact hD
  refine lv_aload_n hx hb dX8_zeroes_35 rfl (lv_at hl 0 rfl) ?_
  refine lv_lconst (v := (0 : Int64)) hx hb dX8_zeroes_36 rfl ?_
  refine va_put (D := D) (ci := 8) (v := .long (0 : Int64)) (ty := .long) (C := RX8) (T := TX8) (N := 14) hx hb hts in_X8_zeroes_X8 tyX8 tyX8_ok nmX8 hown hK hP hD hS 0 rfl rfl 1 (by decide) (hts _ q_X8_zeroes_2) (fun _ h9 => h9) rfl (by decide +kernel) rfl rfl (Nat.le_of_ble_eq_true rfl) dX8_zeroes_37 (fun H locs hP hD hS => ?_)
  have hP : va_P D vwCl [(a_h, .inr (8, [.ref a_h_d, .long (0 : Int64), .ref a_h_was, .ref a_h_accounts, .int v_states, .int v_refused, .ref a_h_text, .int v_typed, .int v_at, .int v_sign, .int v_number, .ref a_h_aside, .ref a_h_places, .ref a_h_told])), (a_h_d, .inl (cI, 2086, .inl g5))] H := hP
  have hD : va_D A [(a_h, .inr (8, [.ref a_h_d, .long (0 : Int64), .ref a_h_was, .ref a_h_accounts, .int v_states, .int v_refused, .ref a_h_text, .int v_typed, .int v_at, .int v_sign, .int v_number, .ref a_h_aside, .ref a_h_places, .ref a_h_told])), (a_h_d, .inl (cI, 2086, .inl g5))] := hD
  obtain rfl := sm_e h
  exact rx_v hx hb hr  hP hK hD hS dX8_zeroes_40 hlocks
-- X8_setLoad
def f_X8_setLoad (N : Nat) (v_account : Int64) (v_states : Int32) (v_d_A : Nat → Int32) (v_was_A : Nat → Int32) (v_accounts_A : Nat → Int64) (p0 : Int32) : Option (Int32 × Int64 × Int32 × (Nat → Int32) × (Nat → Int32) × (Nat → Int64)) :=
  Option.bind (f_X8_in p0 (0 : Int32) (1000 : Int32)) (fun u1 => (if ¬ u1 = 0 then Option.bind (f_X8_onPan N v_d_A) (fun u3 => (if u3 ≤ p0 then Option.bind (f_X8_records N v_account v_states v_d_A v_was_A v_accounts_A) (fun u5 => Option.bind (f_X8_goes N v_account v_d_A p0) (fun u6 => Option.bind (f_X8_reads N u6.2) (fun u7 => some (u7, u6.1, u5.1, u6.2, u5.2.1, u5.2.2))))
    else some ((-2000000002 : Int32), v_account, v_states, v_d_A, v_was_A, v_accounts_A)))
    else some ((-2000000001 : Int32), v_account, v_states, v_d_A, v_was_A, v_accounts_A)))
theorem q_X8_setLoad_2 : (.constant RX8 69 (-2000000002) : Cond) ∈ wsX8_setLoad := List.mem_of_getElem? (i := 2) (by decide +kernel)
theorem q_X8_setLoad_1 : (.constant RX8 64 (-2000000001) : Cond) ∈ wsX8_setLoad := List.mem_of_getElem? (i := 1) (by decide +kernel)
set_option maxHeartbeats 8000000 in
set_option maxRecDepth 100000 in
theorem k_X8_setLoad (l : Launch) (D : va_G) (cI cC cJ cB : ClassId) (a_h a_h_d a_h_was a_h_accounts a_h_text a_h_aside a_h_places a_h_told : Nat) (v_account : Int64) (v_states : Int32) (v_refused : Int32) (v_typed : Int32) (v_at : Int32) (v_sign : Int32) (v_number : Int32) (v_d_A : Nat → Int32) (v_was_A : Nat → Int32) (v_accounts_A : Nat → Int64) (N : Nat) (p0 : Int32) (sz : Nat) (u : Int32 × Int64 × Int32 × (Nat → Int32) × (Nat → Int32) × (Nat → Int64)) (hu : f_X8_setLoad N v_account v_states v_d_A v_was_A v_accounts_A p0 = some u) :
    Met l yX8_setLoad wsX8_setLoad ({ frames := 3, cells := 0, slots := 0, locals := 76 } : Room) (va_Pc [.ref a_h, .int p0] (PreW D (ty4 cI cC cJ cB) sz [(a_h, .inr (8, [.ref a_h_d, .long v_account, .ref a_h_was, .ref a_h_accounts, .int v_states, .int v_refused, .ref a_h_text, .int v_typed, .int v_at, .int v_sign, .int v_number, .ref a_h_aside, .ref a_h_places, .ref a_h_told])), (a_h_d, .inl (cI, 2086, .inl v_d_A)), (a_h_was, .inl (cI, 10430, .inl v_was_A)), (a_h_accounts, .inl (cJ, 5, .inr (.inl v_accounts_A)))]))
      (QI D (ty4 cI cC cJ cB) (va_A [(a_h, .inr (8, [.ref a_h_d, .long v_account, .ref a_h_was, .ref a_h_accounts, .int v_states, .int v_refused, .ref a_h_text, .int v_typed, .int v_at, .int v_sign, .int v_number, .ref a_h_aside, .ref a_h_places, .ref a_h_told])), (a_h_d, .inl (cI, 2086, .inl v_d_A)), (a_h_was, .inl (cI, 10430, .inl v_was_A)), (a_h_accounts, .inl (cJ, 5, .inr (.inl v_accounts_A)))] sz) [(a_h, .inr (8, [.ref a_h_d, .long u.2.1, .ref a_h_was, .ref a_h_accounts, .int u.2.2.1, .int v_refused, .ref a_h_text, .int v_typed, .int v_at, .int v_sign, .int v_number, .ref a_h_aside, .ref a_h_places, .ref a_h_told])), (a_h_d, .inl (cI, 2086, .inl u.2.2.2.1)), (a_h_was, .inl (cI, 10430, .inl u.2.2.2.2.1)), (a_h_accounts, .inl (cJ, 5, .inr (.inl u.2.2.2.2.2)))] u.1) 0 0 (va_A [(a_h, .inr (8, [.ref a_h_d, .long v_account, .ref a_h_was, .ref a_h_accounts, .int v_states, .int v_refused, .ref a_h_text, .int v_typed, .int v_at, .int v_sign, .int v_number, .ref a_h_aside, .ref a_h_places, .ref a_h_told])), (a_h_d, .inl (cI, 2086, .inl v_d_A)), (a_h_was, .inl (cI, 10430, .inl v_was_A)), (a_h_accounts, .inl (cJ, 5, .inr (.inl v_accounts_A)))] sz) := by
  refine met_go (y := yX8_setLoad) (wsy := wsX8_setLoad) (cc := cX8_setLoad) (maxL := 2) (ret := (some .int)) (av := [.ref a_h, .int p0]) (Qc := fun A => QI D (ty4 cI cC cJ cB) A [(a_h, .inr (8, [.ref a_h_d, .long u.2.1, .ref a_h_was, .ref a_h_accounts, .int u.2.2.1, .int v_refused, .ref a_h_text, .int v_typed, .int v_at, .int v_sign, .int v_number, .ref a_h_aside, .ref a_h_places, .ref a_h_told])), (a_h_d, .inl (cI, 2086, .inl u.2.2.2.1)), (a_h_was, .inl (cI, 10430, .inl u.2.2.2.2.1)), (a_h_accounts, .inl (cJ, 5, .inr (.inl u.2.2.2.2.2)))] u.1) (by decide) rfl (Nat.le_of_ble_eq_true rfl) ?_
  intro p e s m below meth c A ls hx hb hr hml hown hts hlocks hnm hN hK hP hD hS hA hl
  have h := hu
  clear hu
  unfold f_X8_setLoad at h
  have hl : lv_has ls 2 [(0, .ref a_h), (1, .int p0)] := hl
  refine lv_iload_n hx hb dX8_setLoad_0 rfl (lv_at hl 1 rfl) ?_
  refine lv_iconst (v := (0 : Int32)) hx hb dX8_setLoad_1 (by decide) ?_
  refine lv_sipush (v := (1000 : Int32)) hx hb dX8_setLoad_2 (by decide) ?_
  obtain ⟨u1, hu1, h⟩ := bd_e h
  refine kx_i (mc := 0) (ms := 0) (wr := [(a_h, .inr (8, [.ref a_h_d, .long v_account, .ref a_h_was, .ref a_h_accounts, .int v_states, .int v_refused, .ref a_h_text, .int v_typed, .int v_at, .int v_sign, .int v_number, .ref a_h_aside, .ref a_h_places, .ref a_h_told])), (a_h_d, .inl (cI, 2086, .inl v_d_A)), (a_h_was, .inl (cI, 10430, .inl v_was_A)), (a_h_accounts, .inl (cJ, 5, .inr (.inl v_accounts_A)))]) (ws2 := [(a_h, .inr (8, [.ref a_h_d, .long v_account, .ref a_h_was, .ref a_h_accounts, .int v_states, .int v_refused, .ref a_h_text, .int v_typed, .int v_at, .int v_sign, .int v_number, .ref a_h_aside, .ref a_h_places, .ref a_h_told])), (a_h_d, .inl (cI, 2086, .inl v_d_A)), (a_h_was, .inl (cI, 10430, .inl v_was_A)), (a_h_accounts, .inl (cJ, 5, .inr (.inl v_accounts_A)))]) (va_runS (As := [.int p0, .int (0 : Int32), .int (1000 : Int32)]) (rest := []) ⟨hx, hb, hml, hown, hts⟩ (k_X8_in l D cI cC cJ cB N p0 (0 : Int32) (1000 : Int32) s.heap.size _ hu1) (va_cwS 3 hts gX8_setLoad_X8_in rfl rfl rfl (by decide +kernel) ⟨Nat.le_of_ble_eq_true rfl, Nat.le_of_ble_eq_true rfl⟩) (pv_S hP hD hK hN [] rfl rfl) rfl rfl hl.1 rfl (lv_room (Nat.le_of_ble_eq_true rfl)) dX8_setLoad_5 ⟨Nat.zero_le _, Nat.zero_le _⟩) hP hD hS hA [] [0, 1, 2, 3] [0, 1, 2, 3] rfl rfl rfl rfl rfl rfl (fun H locs hP hD hS => ?_)
  refine lv_if_ne (tgt := 14) hx hb dX8_setLoad_8 (by decide) (fun hc2 => ?_) (fun hc2 => ?_)
  · replace h := it_e hc2 h
    refine lv_aload_n hx hb dX8_setLoad_14 rfl (lv_at hl 0 rfl) ?_
    obtain ⟨u3, hu3, h⟩ := bd_e h
    refine kx_i (mc := 0) (ms := 0) (wr := [(a_h_was, .inl (cI, 10430, .inl v_was_A)), (a_h_accounts, .inl (cJ, 5, .inr (.inl v_accounts_A)))]) (ws2 := [(a_h, .inr (8, [.ref a_h_d, .long v_account, .ref a_h_was, .ref a_h_accounts, .int v_states, .int v_refused, .ref a_h_text, .int v_typed, .int v_at, .int v_sign, .int v_number, .ref a_h_aside, .ref a_h_places, .ref a_h_told])), (a_h_d, .inl (cI, 2086, .inl v_d_A)), (a_h_was, .inl (cI, 10430, .inl v_was_A)), (a_h_accounts, .inl (cJ, 5, .inr (.inl v_accounts_A)))]) (va_runV (As := []) (rest := []) ⟨hx, hb, hml, hown, hts⟩ (k_X8_onPan l D cI cC cJ cB a_h a_h_d a_h_was a_h_accounts a_h_text a_h_aside a_h_places a_h_told v_account v_states v_refused v_typed v_at v_sign v_number v_d_A N H.size _ hu3) (cwV 0 hts gX8_setLoad_X8_onPan rfl rfl rfl (by decide +kernel) ⟨Nat.le_of_ble_eq_true rfl, Nat.le_of_ble_eq_true rfl⟩) (pv_V hP hD hK hN [0, 1] rfl rfl (ci := 8) rfl 0 rfl) rfl rfl hl.1 rfl (lv_room (Nat.le_of_ble_eq_true rfl)) dX8_setLoad_15 ⟨Nat.zero_le _, Nat.zero_le _⟩) hP hD hS hA [0, 1] [2, 3] [2, 3, 0, 1] rfl rfl rfl rfl rfl rfl (fun H locs hP hD hS => ?_)
    refine lv_iload_n hx hb dX8_setLoad_18 rfl (lv_at hl 1 rfl) ?_
    refine lv_icmp_le (tgt := 25) hx hb dX8_setLoad_19 (by decide) (fun hc4 => ?_) (fun hc4 => ?_)
    · replace h := it_e hc4 h
      refine lv_aload_n hx hb dX8_setLoad_25 rfl (lv_at hl 0 rfl) ?_
      obtain ⟨u5, hu5, h⟩ := bd_e h
      refine kx_v (mc := 0) (ms := 0) (wr := []) (ws2 := [(a_h, .inr (8, [.ref a_h_d, .long v_account, .ref a_h_was, .ref a_h_accounts, .int u5.1, .int v_refused, .ref a_h_text, .int v_typed, .int v_at, .int v_sign, .int v_number, .ref a_h_aside, .ref a_h_places, .ref a_h_told])), (a_h_d, .inl (cI, 2086, .inl v_d_A)), (a_h_was, .inl (cI, 10430, .inl u5.2.1)), (a_h_accounts, .inl (cJ, 5, .inr (.inl u5.2.2)))]) (va_runV (As := []) (rest := []) ⟨hx, hb, hml, hown, hts⟩ (k_X8_records l D cI cC cJ cB a_h a_h_d a_h_was a_h_accounts a_h_text a_h_aside a_h_places a_h_told v_account v_states v_refused v_typed v_at v_sign v_number v_d_A v_was_A v_accounts_A N H.size _ hu5) (cwV 0 hts gX8_setLoad_X8_records rfl rfl rfl (by decide +kernel) ⟨Nat.le_of_ble_eq_true rfl, Nat.le_of_ble_eq_true rfl⟩) (pv_V hP hD hK hN [0, 1, 2, 3] rfl rfl (ci := 8) rfl 0 rfl) rfl rfl hl.1 rfl (lv_room (Nat.le_of_ble_eq_true rfl)) dX8_setLoad_26 ⟨Nat.zero_le _, Nat.zero_le _⟩) hP hD hS hA [0, 1, 2, 3] [] [0, 1, 2, 3] rfl rfl rfl rfl rfl rfl (fun H locs hP hD hS => ?_)
      refine lv_aload_n hx hb dX8_setLoad_29 rfl (lv_at hl 0 rfl) ?_
      refine lv_iload_n hx hb dX8_setLoad_30 rfl (lv_at hl 1 rfl) ?_
      obtain ⟨u6, hu6, h⟩ := bd_e h
      refine kx_v (mc := 0) (ms := 0) (wr := [(a_h_was, .inl (cI, 10430, .inl u5.2.1)), (a_h_accounts, .inl (cJ, 5, .inr (.inl u5.2.2)))]) (ws2 := [(a_h, .inr (8, [.ref a_h_d, .long u6.1, .ref a_h_was, .ref a_h_accounts, .int u5.1, .int v_refused, .ref a_h_text, .int v_typed, .int v_at, .int v_sign, .int v_number, .ref a_h_aside, .ref a_h_places, .ref a_h_told])), (a_h_d, .inl (cI, 2086, .inl u6.2)), (a_h_was, .inl (cI, 10430, .inl u5.2.1)), (a_h_accounts, .inl (cJ, 5, .inr (.inl u5.2.2)))]) (va_runV (As := [.int p0]) (rest := []) ⟨hx, hb, hml, hown, hts⟩ (k_X8_goes l D cI cC cJ cB a_h a_h_d a_h_was a_h_accounts a_h_text a_h_aside a_h_places a_h_told v_account u5.1 v_refused v_typed v_at v_sign v_number v_d_A N p0 H.size _ hu6) (cwV 1 hts gX8_setLoad_X8_goes rfl rfl rfl (by decide +kernel) ⟨Nat.le_of_ble_eq_true rfl, Nat.le_of_ble_eq_true rfl⟩) (pv_V hP hD hK hN [0, 1] rfl rfl (ci := 8) rfl 0 rfl) rfl rfl hl.1 rfl (lv_room (Nat.le_of_ble_eq_true rfl)) dX8_setLoad_31 ⟨Nat.zero_le _, Nat.zero_le _⟩) hP hD hS hA [0, 1] [2, 3] [2, 3, 0, 1] rfl rfl rfl rfl rfl rfl (fun H locs hP hD hS => ?_)
      refine lv_aload_n hx hb dX8_setLoad_34 rfl (lv_at hl 0 rfl) ?_
      obtain ⟨u7, hu7, h⟩ := bd_e h
      refine kx_i (mc := 0) (ms := 0) (wr := [(a_h_was, .inl (cI, 10430, .inl u5.2.1)), (a_h_accounts, .inl (cJ, 5, .inr (.inl u5.2.2)))]) (ws2 := [(a_h, .inr (8, [.ref a_h_d, .long u6.1, .ref a_h_was, .ref a_h_accounts, .int u5.1, .int v_refused, .ref a_h_text, .int v_typed, .int v_at, .int v_sign, .int v_number, .ref a_h_aside, .ref a_h_places, .ref a_h_told])), (a_h_d, .inl (cI, 2086, .inl u6.2)), (a_h_was, .inl (cI, 10430, .inl u5.2.1)), (a_h_accounts, .inl (cJ, 5, .inr (.inl u5.2.2)))]) (va_runV (As := []) (rest := []) ⟨hx, hb, hml, hown, hts⟩ (k_X8_reads l D cI cC cJ cB a_h a_h_d a_h_was a_h_accounts a_h_text a_h_aside a_h_places a_h_told u6.1 u5.1 v_refused v_typed v_at v_sign v_number u6.2 N H.size _ hu7) (cwV 0 hts gX8_setLoad_X8_reads rfl rfl rfl (by decide +kernel) ⟨Nat.le_of_ble_eq_true rfl, Nat.le_of_ble_eq_true rfl⟩) (pv_V hP hD hK hN [0, 1] rfl rfl (ci := 8) rfl 0 rfl) rfl rfl hl.1 rfl (lv_room (Nat.le_of_ble_eq_true rfl)) dX8_setLoad_35 ⟨Nat.zero_le _, Nat.zero_le _⟩) hP hD hS hA [0, 1] [2, 3] [2, 3, 0, 1] rfl rfl rfl rfl rfl rfl (fun H locs hP hD hS => ?_)
      obtain rfl := sm_e h
      exact rx_i hx hb hr  hP hK hD hS dX8_setLoad_38 hlocks
    · replace h := if_e hc4 h
      refine lv_ldc (v := (-2000000002 : Int32)) hx hb hown (hts _ q_X8_setLoad_2) dX8_setLoad_22 ?_
      obtain rfl := sm_e h
      exact rx_i hx hb hr  hP hK hD hS dX8_setLoad_24 hlocks
  · replace h := in_e hc2 h
    refine lv_ldc (v := (-2000000001 : Int32)) hx hb hown (hts _ q_X8_setLoad_1) dX8_setLoad_11 ?_
    obtain rfl := sm_e h
    exact rx_i hx hb hr  hP hK hD hS dX8_setLoad_13 hlocks
-- X8_brings
def f_X8_brings (N : Nat) (v_account : Int64) (v_states : Int32) (v_d_A : Nat → Int32) (v_was_A : Nat → Int32) (v_accounts_A : Nat → Int64) (p0 : Int32) (p1 : Int32) : Option (Int32 × Int64 × Int32 × (Nat → Int32) × (Nat → Int32) × (Nat → Int64)) :=
  Option.bind (f_X8_refusal v_d_A p0 p1) (fun u1 => (if u1 ≤ 0 then Option.bind (f_X8_records N v_account v_states v_d_A v_was_A v_accounts_A) (fun u3 => Option.bind (f_X8_moves N v_account v_d_A p0 p1) (fun u4 => Option.bind (f_X8_reads N u4.2) (fun u5 => some (u5, u4.1, u3.1, u4.2, u3.2.1, u3.2.2))))
    else (if ¬ u1 = (1 : Int32) then some ((-2000000002 : Int32), v_account, v_states, v_d_A, v_was_A, v_accounts_A)
    else some ((-2000000001 : Int32), v_account, v_states, v_d_A, v_was_A, v_accounts_A))))
theorem q_X8_brings_2 : (.constant RX8 69 (-2000000002) : Cond) ∈ wsX8_brings := List.mem_of_getElem? (i := 2) (by decide +kernel)
theorem q_X8_brings_1 : (.constant RX8 64 (-2000000001) : Cond) ∈ wsX8_brings := List.mem_of_getElem? (i := 1) (by decide +kernel)
set_option maxHeartbeats 8000000 in
set_option maxRecDepth 100000 in
theorem k_X8_brings (l : Launch) (D : va_G) (cI cC cJ cB : ClassId) (a_h a_h_d a_h_was a_h_accounts a_h_text a_h_aside a_h_places a_h_told : Nat) (v_account : Int64) (v_states : Int32) (v_refused : Int32) (v_typed : Int32) (v_at : Int32) (v_sign : Int32) (v_number : Int32) (v_d_A : Nat → Int32) (v_was_A : Nat → Int32) (v_accounts_A : Nat → Int64) (N : Nat) (p0 : Int32) (p1 : Int32) (sz : Nat) (u : Int32 × Int64 × Int32 × (Nat → Int32) × (Nat → Int32) × (Nat → Int64)) (hu : f_X8_brings N v_account v_states v_d_A v_was_A v_accounts_A p0 p1 = some u) :
    Met l yX8_brings wsX8_brings ({ frames := 4, cells := 0, slots := 0, locals := 98 } : Room) (va_Pc [.ref a_h, .int p0, .int p1] (PreW D (ty4 cI cC cJ cB) sz [(a_h, .inr (8, [.ref a_h_d, .long v_account, .ref a_h_was, .ref a_h_accounts, .int v_states, .int v_refused, .ref a_h_text, .int v_typed, .int v_at, .int v_sign, .int v_number, .ref a_h_aside, .ref a_h_places, .ref a_h_told])), (a_h_d, .inl (cI, 2086, .inl v_d_A)), (a_h_was, .inl (cI, 10430, .inl v_was_A)), (a_h_accounts, .inl (cJ, 5, .inr (.inl v_accounts_A)))]))
      (QI D (ty4 cI cC cJ cB) (va_A [(a_h, .inr (8, [.ref a_h_d, .long v_account, .ref a_h_was, .ref a_h_accounts, .int v_states, .int v_refused, .ref a_h_text, .int v_typed, .int v_at, .int v_sign, .int v_number, .ref a_h_aside, .ref a_h_places, .ref a_h_told])), (a_h_d, .inl (cI, 2086, .inl v_d_A)), (a_h_was, .inl (cI, 10430, .inl v_was_A)), (a_h_accounts, .inl (cJ, 5, .inr (.inl v_accounts_A)))] sz) [(a_h, .inr (8, [.ref a_h_d, .long u.2.1, .ref a_h_was, .ref a_h_accounts, .int u.2.2.1, .int v_refused, .ref a_h_text, .int v_typed, .int v_at, .int v_sign, .int v_number, .ref a_h_aside, .ref a_h_places, .ref a_h_told])), (a_h_d, .inl (cI, 2086, .inl u.2.2.2.1)), (a_h_was, .inl (cI, 10430, .inl u.2.2.2.2.1)), (a_h_accounts, .inl (cJ, 5, .inr (.inl u.2.2.2.2.2)))] u.1) 0 0 (va_A [(a_h, .inr (8, [.ref a_h_d, .long v_account, .ref a_h_was, .ref a_h_accounts, .int v_states, .int v_refused, .ref a_h_text, .int v_typed, .int v_at, .int v_sign, .int v_number, .ref a_h_aside, .ref a_h_places, .ref a_h_told])), (a_h_d, .inl (cI, 2086, .inl v_d_A)), (a_h_was, .inl (cI, 10430, .inl v_was_A)), (a_h_accounts, .inl (cJ, 5, .inr (.inl v_accounts_A)))] sz) := by
  refine met_go (y := yX8_brings) (wsy := wsX8_brings) (cc := cX8_brings) (maxL := 4) (ret := (some .int)) (av := [.ref a_h, .int p0, .int p1]) (Qc := fun A => QI D (ty4 cI cC cJ cB) A [(a_h, .inr (8, [.ref a_h_d, .long u.2.1, .ref a_h_was, .ref a_h_accounts, .int u.2.2.1, .int v_refused, .ref a_h_text, .int v_typed, .int v_at, .int v_sign, .int v_number, .ref a_h_aside, .ref a_h_places, .ref a_h_told])), (a_h_d, .inl (cI, 2086, .inl u.2.2.2.1)), (a_h_was, .inl (cI, 10430, .inl u.2.2.2.2.1)), (a_h_accounts, .inl (cJ, 5, .inr (.inl u.2.2.2.2.2)))] u.1) (by decide) rfl (Nat.le_of_ble_eq_true rfl) ?_
  intro p e s m below meth c A ls hx hb hr hml hown hts hlocks hnm hN hK hP hD hS hA hl
  have h := hu
  clear hu
  unfold f_X8_brings at h
  have hl : lv_has ls 4 [(0, .ref a_h), (1, .int p0), (2, .int p1)] := hl
  refine lv_aload_n hx hb dX8_brings_0 rfl (lv_at hl 0 rfl) ?_
  refine lv_iload_n hx hb dX8_brings_1 rfl (lv_at hl 1 rfl) ?_
  refine lv_iload_n hx hb dX8_brings_2 rfl (lv_at hl 2 rfl) ?_
  obtain ⟨u1, hu1, h⟩ := bd_e h
  refine kx_i (mc := 0) (ms := 0) (wr := [(a_h_was, .inl (cI, 10430, .inl v_was_A)), (a_h_accounts, .inl (cJ, 5, .inr (.inl v_accounts_A)))]) (ws2 := [(a_h, .inr (8, [.ref a_h_d, .long v_account, .ref a_h_was, .ref a_h_accounts, .int v_states, .int v_refused, .ref a_h_text, .int v_typed, .int v_at, .int v_sign, .int v_number, .ref a_h_aside, .ref a_h_places, .ref a_h_told])), (a_h_d, .inl (cI, 2086, .inl v_d_A)), (a_h_was, .inl (cI, 10430, .inl v_was_A)), (a_h_accounts, .inl (cJ, 5, .inr (.inl v_accounts_A)))]) (va_runV (As := [.int p0, .int p1]) (rest := []) ⟨hx, hb, hml, hown, hts⟩ (k_X8_refusal l D cI cC cJ cB a_h a_h_d a_h_was a_h_accounts a_h_text a_h_aside a_h_places a_h_told v_account v_states v_refused v_typed v_at v_sign v_number v_d_A N p0 p1 s.heap.size _ hu1) (cwV 2 hts gX8_brings_X8_refusal rfl rfl rfl (by decide +kernel) ⟨Nat.le_of_ble_eq_true rfl, Nat.le_of_ble_eq_true rfl⟩) (pv_V hP hD hK hN [0, 1] rfl rfl (ci := 8) rfl 0 rfl) rfl rfl hl.1 rfl (lv_room (Nat.le_of_ble_eq_true rfl)) dX8_brings_3 ⟨Nat.zero_le _, Nat.zero_le _⟩) hP hD hS hA [0, 1] [2, 3] [2, 3, 0, 1] rfl rfl rfl rfl rfl rfl (fun H locs hP hD hS => ?_)
  refine lv_istore_n (lv' := [(3, .int u1), (0, .ref a_h), (1, .int p0), (2, .int p1)]) hx hb dX8_brings_6 rfl hl (by decide) rfl (fun ls hl => ?_)
  refine lv_iload_n hx hb dX8_brings_7 rfl (lv_at hl 0 rfl) ?_
  refine lv_if_le (tgt := 24) hx hb dX8_brings_8 (by decide) (fun hc2 => ?_) (fun hc2 => ?_)
  · replace h := it_e hc2 h
    refine lv_aload_n hx hb dX8_brings_24 rfl (lv_at hl 1 rfl) ?_
    obtain ⟨u3, hu3, h⟩ := bd_e h
    refine kx_v (mc := 0) (ms := 0) (wr := []) (ws2 := [(a_h, .inr (8, [.ref a_h_d, .long v_account, .ref a_h_was, .ref a_h_accounts, .int u3.1, .int v_refused, .ref a_h_text, .int v_typed, .int v_at, .int v_sign, .int v_number, .ref a_h_aside, .ref a_h_places, .ref a_h_told])), (a_h_d, .inl (cI, 2086, .inl v_d_A)), (a_h_was, .inl (cI, 10430, .inl u3.2.1)), (a_h_accounts, .inl (cJ, 5, .inr (.inl u3.2.2)))]) (va_runV (As := []) (rest := []) ⟨hx, hb, hml, hown, hts⟩ (k_X8_records l D cI cC cJ cB a_h a_h_d a_h_was a_h_accounts a_h_text a_h_aside a_h_places a_h_told v_account v_states v_refused v_typed v_at v_sign v_number v_d_A v_was_A v_accounts_A N H.size _ hu3) (cwV 0 hts gX8_brings_X8_records rfl rfl rfl (by decide +kernel) ⟨Nat.le_of_ble_eq_true rfl, Nat.le_of_ble_eq_true rfl⟩) (pv_V hP hD hK hN [0, 1, 2, 3] rfl rfl (ci := 8) rfl 0 rfl) rfl rfl hl.1 rfl (lv_room (Nat.le_of_ble_eq_true rfl)) dX8_brings_25 ⟨Nat.zero_le _, Nat.zero_le _⟩) hP hD hS hA [0, 1, 2, 3] [] [0, 1, 2, 3] rfl rfl rfl rfl rfl rfl (fun H locs hP hD hS => ?_)
    refine lv_aload_n hx hb dX8_brings_28 rfl (lv_at hl 1 rfl) ?_
    refine lv_iload_n hx hb dX8_brings_29 rfl (lv_at hl 2 rfl) ?_
    refine lv_iload_n hx hb dX8_brings_30 rfl (lv_at hl 3 rfl) ?_
    obtain ⟨u4, hu4, h⟩ := bd_e h
    refine kx_v (mc := 0) (ms := 0) (wr := [(a_h_was, .inl (cI, 10430, .inl u3.2.1)), (a_h_accounts, .inl (cJ, 5, .inr (.inl u3.2.2)))]) (ws2 := [(a_h, .inr (8, [.ref a_h_d, .long u4.1, .ref a_h_was, .ref a_h_accounts, .int u3.1, .int v_refused, .ref a_h_text, .int v_typed, .int v_at, .int v_sign, .int v_number, .ref a_h_aside, .ref a_h_places, .ref a_h_told])), (a_h_d, .inl (cI, 2086, .inl u4.2)), (a_h_was, .inl (cI, 10430, .inl u3.2.1)), (a_h_accounts, .inl (cJ, 5, .inr (.inl u3.2.2)))]) (va_runV (As := [.int p0, .int p1]) (rest := []) ⟨hx, hb, hml, hown, hts⟩ (k_X8_moves l D cI cC cJ cB a_h a_h_d a_h_was a_h_accounts a_h_text a_h_aside a_h_places a_h_told v_account u3.1 v_refused v_typed v_at v_sign v_number v_d_A N p0 p1 H.size _ hu4) (cwV 2 hts gX8_brings_X8_moves rfl rfl rfl (by decide +kernel) ⟨Nat.le_of_ble_eq_true rfl, Nat.le_of_ble_eq_true rfl⟩) (pv_V hP hD hK hN [0, 1] rfl rfl (ci := 8) rfl 0 rfl) rfl rfl hl.1 rfl (lv_room (Nat.le_of_ble_eq_true rfl)) dX8_brings_31 ⟨Nat.zero_le _, Nat.zero_le _⟩) hP hD hS hA [0, 1] [2, 3] [2, 3, 0, 1] rfl rfl rfl rfl rfl rfl (fun H locs hP hD hS => ?_)
    refine lv_aload_n hx hb dX8_brings_34 rfl (lv_at hl 1 rfl) ?_
    obtain ⟨u5, hu5, h⟩ := bd_e h
    refine kx_i (mc := 0) (ms := 0) (wr := [(a_h_was, .inl (cI, 10430, .inl u3.2.1)), (a_h_accounts, .inl (cJ, 5, .inr (.inl u3.2.2)))]) (ws2 := [(a_h, .inr (8, [.ref a_h_d, .long u4.1, .ref a_h_was, .ref a_h_accounts, .int u3.1, .int v_refused, .ref a_h_text, .int v_typed, .int v_at, .int v_sign, .int v_number, .ref a_h_aside, .ref a_h_places, .ref a_h_told])), (a_h_d, .inl (cI, 2086, .inl u4.2)), (a_h_was, .inl (cI, 10430, .inl u3.2.1)), (a_h_accounts, .inl (cJ, 5, .inr (.inl u3.2.2)))]) (va_runV (As := []) (rest := []) ⟨hx, hb, hml, hown, hts⟩ (k_X8_reads l D cI cC cJ cB a_h a_h_d a_h_was a_h_accounts a_h_text a_h_aside a_h_places a_h_told u4.1 u3.1 v_refused v_typed v_at v_sign v_number u4.2 N H.size _ hu5) (cwV 0 hts gX8_brings_X8_reads rfl rfl rfl (by decide +kernel) ⟨Nat.le_of_ble_eq_true rfl, Nat.le_of_ble_eq_true rfl⟩) (pv_V hP hD hK hN [0, 1] rfl rfl (ci := 8) rfl 0 rfl) rfl rfl hl.1 rfl (lv_room (Nat.le_of_ble_eq_true rfl)) dX8_brings_35 ⟨Nat.zero_le _, Nat.zero_le _⟩) hP hD hS hA [0, 1] [2, 3] [2, 3, 0, 1] rfl rfl rfl rfl rfl rfl (fun H locs hP hD hS => ?_)
    obtain rfl := sm_e h
    exact rx_i hx hb hr  hP hK hD hS dX8_brings_38 hlocks
  · replace h := if_e hc2 h
    refine lv_iload_n hx hb dX8_brings_11 rfl (lv_at hl 0 rfl) ?_
    refine lv_iconst (v := (1 : Int32)) hx hb dX8_brings_12 (by decide) ?_
    refine lv_icmp_ne (tgt := 21) hx hb dX8_brings_13 (by decide) (fun hc6 => ?_) (fun hc6 => ?_)
    · replace h := it_e hc6 h
      refine lv_ldc (v := (-2000000002 : Int32)) hx hb hown (hts _ q_X8_brings_2) dX8_brings_21 ?_
      obtain rfl := sm_e h
      exact rx_i hx hb hr  hP hK hD hS dX8_brings_23 hlocks
    · replace h := in_e hc6 h
      refine lv_ldc (v := (-2000000001 : Int32)) hx hb hown (hts _ q_X8_brings_1) dX8_brings_16 ?_
      refine lv_goto (tgt := 23) hx hb dX8_brings_18 (by decide) ?_
      obtain rfl := sm_e h
      exact rx_i hx hb hr  hP hK hD hS dX8_brings_23 hlocks
-- X8_put
def f_X8_put (N : Nat) (v_account : Int64) (v_states : Int32) (v_d_A : Nat → Int32) (v_was_A : Nat → Int32) (v_accounts_A : Nat → Int64) (p0 : Int32) : Option (Int32 × Int64 × Int32 × (Nat → Int32) × (Nat → Int32) × (Nat → Int64)) :=
  Option.bind (f_X8_brings N v_account v_states v_d_A v_was_A v_accounts_A p0 (1 : Int32)) (fun u1 => some (u1.1, u1.2.1, u1.2.2.1, u1.2.2.2.1, u1.2.2.2.2.1, u1.2.2.2.2.2))

set_option maxHeartbeats 8000000 in
set_option maxRecDepth 100000 in
theorem k_X8_put (l : Launch) (D : va_G) (cI cC cJ cB : ClassId) (a_h a_h_d a_h_was a_h_accounts a_h_text a_h_aside a_h_places a_h_told : Nat) (v_account : Int64) (v_states : Int32) (v_refused : Int32) (v_typed : Int32) (v_at : Int32) (v_sign : Int32) (v_number : Int32) (v_d_A : Nat → Int32) (v_was_A : Nat → Int32) (v_accounts_A : Nat → Int64) (N : Nat) (p0 : Int32) (sz : Nat) (u : Int32 × Int64 × Int32 × (Nat → Int32) × (Nat → Int32) × (Nat → Int64)) (hu : f_X8_put N v_account v_states v_d_A v_was_A v_accounts_A p0 = some u) :
    Met l yX8_put wsX8_put ({ frames := 5, cells := 0, slots := 0, locals := 121 } : Room) (va_Pc [.ref a_h, .int p0] (PreW D (ty4 cI cC cJ cB) sz [(a_h, .inr (8, [.ref a_h_d, .long v_account, .ref a_h_was, .ref a_h_accounts, .int v_states, .int v_refused, .ref a_h_text, .int v_typed, .int v_at, .int v_sign, .int v_number, .ref a_h_aside, .ref a_h_places, .ref a_h_told])), (a_h_d, .inl (cI, 2086, .inl v_d_A)), (a_h_was, .inl (cI, 10430, .inl v_was_A)), (a_h_accounts, .inl (cJ, 5, .inr (.inl v_accounts_A)))]))
      (QI D (ty4 cI cC cJ cB) (va_A [(a_h, .inr (8, [.ref a_h_d, .long v_account, .ref a_h_was, .ref a_h_accounts, .int v_states, .int v_refused, .ref a_h_text, .int v_typed, .int v_at, .int v_sign, .int v_number, .ref a_h_aside, .ref a_h_places, .ref a_h_told])), (a_h_d, .inl (cI, 2086, .inl v_d_A)), (a_h_was, .inl (cI, 10430, .inl v_was_A)), (a_h_accounts, .inl (cJ, 5, .inr (.inl v_accounts_A)))] sz) [(a_h, .inr (8, [.ref a_h_d, .long u.2.1, .ref a_h_was, .ref a_h_accounts, .int u.2.2.1, .int v_refused, .ref a_h_text, .int v_typed, .int v_at, .int v_sign, .int v_number, .ref a_h_aside, .ref a_h_places, .ref a_h_told])), (a_h_d, .inl (cI, 2086, .inl u.2.2.2.1)), (a_h_was, .inl (cI, 10430, .inl u.2.2.2.2.1)), (a_h_accounts, .inl (cJ, 5, .inr (.inl u.2.2.2.2.2)))] u.1) 0 0 (va_A [(a_h, .inr (8, [.ref a_h_d, .long v_account, .ref a_h_was, .ref a_h_accounts, .int v_states, .int v_refused, .ref a_h_text, .int v_typed, .int v_at, .int v_sign, .int v_number, .ref a_h_aside, .ref a_h_places, .ref a_h_told])), (a_h_d, .inl (cI, 2086, .inl v_d_A)), (a_h_was, .inl (cI, 10430, .inl v_was_A)), (a_h_accounts, .inl (cJ, 5, .inr (.inl v_accounts_A)))] sz) := by
  refine met_go (y := yX8_put) (wsy := wsX8_put) (cc := cX8_put) (maxL := 2) (ret := (some .int)) (av := [.ref a_h, .int p0]) (Qc := fun A => QI D (ty4 cI cC cJ cB) A [(a_h, .inr (8, [.ref a_h_d, .long u.2.1, .ref a_h_was, .ref a_h_accounts, .int u.2.2.1, .int v_refused, .ref a_h_text, .int v_typed, .int v_at, .int v_sign, .int v_number, .ref a_h_aside, .ref a_h_places, .ref a_h_told])), (a_h_d, .inl (cI, 2086, .inl u.2.2.2.1)), (a_h_was, .inl (cI, 10430, .inl u.2.2.2.2.1)), (a_h_accounts, .inl (cJ, 5, .inr (.inl u.2.2.2.2.2)))] u.1) (by decide) rfl (Nat.le_of_ble_eq_true rfl) ?_
  intro p e s m below meth c A ls hx hb hr hml hown hts hlocks hnm hN hK hP hD hS hA hl
  have h := hu
  clear hu
  unfold f_X8_put at h
  have hl : lv_has ls 2 [(0, .ref a_h), (1, .int p0)] := hl
  refine lv_aload_n hx hb dX8_put_0 rfl (lv_at hl 0 rfl) ?_
  refine lv_iload_n hx hb dX8_put_1 rfl (lv_at hl 1 rfl) ?_
  refine lv_iconst (v := (1 : Int32)) hx hb dX8_put_2 (by decide) ?_
  obtain ⟨u1, hu1, h⟩ := bd_e h
  refine kx_i (mc := 0) (ms := 0) (wr := []) (ws2 := [(a_h, .inr (8, [.ref a_h_d, .long u1.2.1, .ref a_h_was, .ref a_h_accounts, .int u1.2.2.1, .int v_refused, .ref a_h_text, .int v_typed, .int v_at, .int v_sign, .int v_number, .ref a_h_aside, .ref a_h_places, .ref a_h_told])), (a_h_d, .inl (cI, 2086, .inl u1.2.2.2.1)), (a_h_was, .inl (cI, 10430, .inl u1.2.2.2.2.1)), (a_h_accounts, .inl (cJ, 5, .inr (.inl u1.2.2.2.2.2)))]) (va_runV (As := [.int p0, .int (1 : Int32)]) (rest := []) ⟨hx, hb, hml, hown, hts⟩ (k_X8_brings l D cI cC cJ cB a_h a_h_d a_h_was a_h_accounts a_h_text a_h_aside a_h_places a_h_told v_account v_states v_refused v_typed v_at v_sign v_number v_d_A v_was_A v_accounts_A N p0 (1 : Int32) s.heap.size _ hu1) (cwV 2 hts gX8_put_X8_brings rfl rfl rfl (by decide +kernel) ⟨Nat.le_of_ble_eq_true rfl, Nat.le_of_ble_eq_true rfl⟩) (pv_V hP hD hK hN [0, 1, 2, 3] rfl rfl (ci := 8) rfl 0 rfl) rfl rfl hl.1 rfl (lv_room (Nat.le_of_ble_eq_true rfl)) dX8_put_3 ⟨Nat.zero_le _, Nat.zero_le _⟩) hP hD hS hA [0, 1, 2, 3] [] [0, 1, 2, 3] rfl rfl rfl rfl rfl rfl (fun H locs hP hD hS => ?_)
  obtain rfl := sm_e h
  exact rx_i hx hb hr  hP hK hD hS dX8_put_6 hlocks
-- X8_take
def f_X8_take (N : Nat) (v_account : Int64) (v_states : Int32) (v_d_A : Nat → Int32) (v_was_A : Nat → Int32) (v_accounts_A : Nat → Int64) (p0 : Int32) : Option (Int32 × Int64 × Int32 × (Nat → Int32) × (Nat → Int32) × (Nat → Int64)) :=
  Option.bind (f_X8_brings N v_account v_states v_d_A v_was_A v_accounts_A p0 (0 : Int32)) (fun u1 => some (u1.1, u1.2.1, u1.2.2.1, u1.2.2.2.1, u1.2.2.2.2.1, u1.2.2.2.2.2))

set_option maxHeartbeats 8000000 in
set_option maxRecDepth 100000 in
theorem k_X8_take (l : Launch) (D : va_G) (cI cC cJ cB : ClassId) (a_h a_h_d a_h_was a_h_accounts a_h_text a_h_aside a_h_places a_h_told : Nat) (v_account : Int64) (v_states : Int32) (v_refused : Int32) (v_typed : Int32) (v_at : Int32) (v_sign : Int32) (v_number : Int32) (v_d_A : Nat → Int32) (v_was_A : Nat → Int32) (v_accounts_A : Nat → Int64) (N : Nat) (p0 : Int32) (sz : Nat) (u : Int32 × Int64 × Int32 × (Nat → Int32) × (Nat → Int32) × (Nat → Int64)) (hu : f_X8_take N v_account v_states v_d_A v_was_A v_accounts_A p0 = some u) :
    Met l yX8_take wsX8_take ({ frames := 5, cells := 0, slots := 0, locals := 121 } : Room) (va_Pc [.ref a_h, .int p0] (PreW D (ty4 cI cC cJ cB) sz [(a_h, .inr (8, [.ref a_h_d, .long v_account, .ref a_h_was, .ref a_h_accounts, .int v_states, .int v_refused, .ref a_h_text, .int v_typed, .int v_at, .int v_sign, .int v_number, .ref a_h_aside, .ref a_h_places, .ref a_h_told])), (a_h_d, .inl (cI, 2086, .inl v_d_A)), (a_h_was, .inl (cI, 10430, .inl v_was_A)), (a_h_accounts, .inl (cJ, 5, .inr (.inl v_accounts_A)))]))
      (QI D (ty4 cI cC cJ cB) (va_A [(a_h, .inr (8, [.ref a_h_d, .long v_account, .ref a_h_was, .ref a_h_accounts, .int v_states, .int v_refused, .ref a_h_text, .int v_typed, .int v_at, .int v_sign, .int v_number, .ref a_h_aside, .ref a_h_places, .ref a_h_told])), (a_h_d, .inl (cI, 2086, .inl v_d_A)), (a_h_was, .inl (cI, 10430, .inl v_was_A)), (a_h_accounts, .inl (cJ, 5, .inr (.inl v_accounts_A)))] sz) [(a_h, .inr (8, [.ref a_h_d, .long u.2.1, .ref a_h_was, .ref a_h_accounts, .int u.2.2.1, .int v_refused, .ref a_h_text, .int v_typed, .int v_at, .int v_sign, .int v_number, .ref a_h_aside, .ref a_h_places, .ref a_h_told])), (a_h_d, .inl (cI, 2086, .inl u.2.2.2.1)), (a_h_was, .inl (cI, 10430, .inl u.2.2.2.2.1)), (a_h_accounts, .inl (cJ, 5, .inr (.inl u.2.2.2.2.2)))] u.1) 0 0 (va_A [(a_h, .inr (8, [.ref a_h_d, .long v_account, .ref a_h_was, .ref a_h_accounts, .int v_states, .int v_refused, .ref a_h_text, .int v_typed, .int v_at, .int v_sign, .int v_number, .ref a_h_aside, .ref a_h_places, .ref a_h_told])), (a_h_d, .inl (cI, 2086, .inl v_d_A)), (a_h_was, .inl (cI, 10430, .inl v_was_A)), (a_h_accounts, .inl (cJ, 5, .inr (.inl v_accounts_A)))] sz) := by
  refine met_go (y := yX8_take) (wsy := wsX8_take) (cc := cX8_take) (maxL := 2) (ret := (some .int)) (av := [.ref a_h, .int p0]) (Qc := fun A => QI D (ty4 cI cC cJ cB) A [(a_h, .inr (8, [.ref a_h_d, .long u.2.1, .ref a_h_was, .ref a_h_accounts, .int u.2.2.1, .int v_refused, .ref a_h_text, .int v_typed, .int v_at, .int v_sign, .int v_number, .ref a_h_aside, .ref a_h_places, .ref a_h_told])), (a_h_d, .inl (cI, 2086, .inl u.2.2.2.1)), (a_h_was, .inl (cI, 10430, .inl u.2.2.2.2.1)), (a_h_accounts, .inl (cJ, 5, .inr (.inl u.2.2.2.2.2)))] u.1) (by decide) rfl (Nat.le_of_ble_eq_true rfl) ?_
  intro p e s m below meth c A ls hx hb hr hml hown hts hlocks hnm hN hK hP hD hS hA hl
  have h := hu
  clear hu
  unfold f_X8_take at h
  have hl : lv_has ls 2 [(0, .ref a_h), (1, .int p0)] := hl
  refine lv_aload_n hx hb dX8_take_0 rfl (lv_at hl 0 rfl) ?_
  refine lv_iload_n hx hb dX8_take_1 rfl (lv_at hl 1 rfl) ?_
  refine lv_iconst (v := (0 : Int32)) hx hb dX8_take_2 (by decide) ?_
  obtain ⟨u1, hu1, h⟩ := bd_e h
  refine kx_i (mc := 0) (ms := 0) (wr := []) (ws2 := [(a_h, .inr (8, [.ref a_h_d, .long u1.2.1, .ref a_h_was, .ref a_h_accounts, .int u1.2.2.1, .int v_refused, .ref a_h_text, .int v_typed, .int v_at, .int v_sign, .int v_number, .ref a_h_aside, .ref a_h_places, .ref a_h_told])), (a_h_d, .inl (cI, 2086, .inl u1.2.2.2.1)), (a_h_was, .inl (cI, 10430, .inl u1.2.2.2.2.1)), (a_h_accounts, .inl (cJ, 5, .inr (.inl u1.2.2.2.2.2)))]) (va_runV (As := [.int p0, .int (0 : Int32)]) (rest := []) ⟨hx, hb, hml, hown, hts⟩ (k_X8_brings l D cI cC cJ cB a_h a_h_d a_h_was a_h_accounts a_h_text a_h_aside a_h_places a_h_told v_account v_states v_refused v_typed v_at v_sign v_number v_d_A v_was_A v_accounts_A N p0 (0 : Int32) s.heap.size _ hu1) (cwV 2 hts gX8_take_X8_brings rfl rfl rfl (by decide +kernel) ⟨Nat.le_of_ble_eq_true rfl, Nat.le_of_ble_eq_true rfl⟩) (pv_V hP hD hK hN [0, 1, 2, 3] rfl rfl (ci := 8) rfl 0 rfl) rfl rfl hl.1 rfl (lv_room (Nat.le_of_ble_eq_true rfl)) dX8_take_3 ⟨Nat.zero_le _, Nat.zero_le _⟩) hP hD hS hA [0, 1, 2, 3] [] [0, 1, 2, 3] rfl rfl rfl rfl rfl rfl (fun H locs hP hD hS => ?_)
  obtain rfl := sm_e h
  exact rx_i hx hb hr  hP hK hD hS dX8_take_6 hlocks
-- X8_hours
def f_X8_hours (N : Nat) (v_account : Int64) (v_states : Int32) (v_d_A : Nat → Int32) (v_was_A : Nat → Int32) (v_accounts_A : Nat → Int64) (p0 : Int32) : Option (Int32 × Int32 × (Nat → Int32) × (Nat → Int32) × (Nat → Int64)) :=
  Option.bind (f_X8_in p0 (1 : Int32) (200 : Int32)) (fun u1 => (if ¬ u1 = 0 then Option.bind (f_X8_records N v_account v_states v_d_A v_was_A v_accounts_A) (fun u3 => Option.bind (f_X8_creeps N v_d_A p0) (fun u4 => some ((u4 2), u3.1, u4, u3.2.1, u3.2.2)))
    else some ((-2000000001 : Int32), v_states, v_d_A, v_was_A, v_accounts_A)))
theorem q_X8_hours_2 : (.fieldLink RX8 7 "SpringBalanceModel" "d" "[I" : Cond) ∈ wsX8_hours := List.mem_of_getElem? (i := 2) (by decide +kernel)
set_option maxRecDepth 20000 in
theorem in_X8_hours_X8 : ∀ w ∈ u_ws RX8 TX8 14, w ∈ wsX8_hours := by decide +kernel
theorem q_X8_hours_1 : (.constant RX8 64 (-2000000001) : Cond) ∈ wsX8_hours := List.mem_of_getElem? (i := 1) (by decide +kernel)
set_option maxHeartbeats 8000000 in
set_option maxRecDepth 100000 in
theorem k_X8_hours (l : Launch) (D : va_G) (cI cC cJ cB : ClassId) (a_h a_h_d a_h_was a_h_accounts a_h_text a_h_aside a_h_places a_h_told : Nat) (v_account : Int64) (v_states : Int32) (v_refused : Int32) (v_typed : Int32) (v_at : Int32) (v_sign : Int32) (v_number : Int32) (v_d_A : Nat → Int32) (v_was_A : Nat → Int32) (v_accounts_A : Nat → Int64) (N : Nat) (p0 : Int32) (sz : Nat) (u : Int32 × Int32 × (Nat → Int32) × (Nat → Int32) × (Nat → Int64)) (hu : f_X8_hours N v_account v_states v_d_A v_was_A v_accounts_A p0 = some u) :
    Met l yX8_hours wsX8_hours ({ frames := 2, cells := 0, slots := 0, locals := 45 } : Room) (va_Pc [.ref a_h, .int p0] (PreW D (ty4 cI cC cJ cB) sz [(a_h, .inr (8, [.ref a_h_d, .long v_account, .ref a_h_was, .ref a_h_accounts, .int v_states, .int v_refused, .ref a_h_text, .int v_typed, .int v_at, .int v_sign, .int v_number, .ref a_h_aside, .ref a_h_places, .ref a_h_told])), (a_h_d, .inl (cI, 2086, .inl v_d_A)), (a_h_was, .inl (cI, 10430, .inl v_was_A)), (a_h_accounts, .inl (cJ, 5, .inr (.inl v_accounts_A)))]))
      (QI D (ty4 cI cC cJ cB) (va_A [(a_h, .inr (8, [.ref a_h_d, .long v_account, .ref a_h_was, .ref a_h_accounts, .int v_states, .int v_refused, .ref a_h_text, .int v_typed, .int v_at, .int v_sign, .int v_number, .ref a_h_aside, .ref a_h_places, .ref a_h_told])), (a_h_d, .inl (cI, 2086, .inl v_d_A)), (a_h_was, .inl (cI, 10430, .inl v_was_A)), (a_h_accounts, .inl (cJ, 5, .inr (.inl v_accounts_A)))] sz) [(a_h, .inr (8, [.ref a_h_d, .long v_account, .ref a_h_was, .ref a_h_accounts, .int u.2.1, .int v_refused, .ref a_h_text, .int v_typed, .int v_at, .int v_sign, .int v_number, .ref a_h_aside, .ref a_h_places, .ref a_h_told])), (a_h_d, .inl (cI, 2086, .inl u.2.2.1)), (a_h_was, .inl (cI, 10430, .inl u.2.2.2.1)), (a_h_accounts, .inl (cJ, 5, .inr (.inl u.2.2.2.2)))] u.1) 0 0 (va_A [(a_h, .inr (8, [.ref a_h_d, .long v_account, .ref a_h_was, .ref a_h_accounts, .int v_states, .int v_refused, .ref a_h_text, .int v_typed, .int v_at, .int v_sign, .int v_number, .ref a_h_aside, .ref a_h_places, .ref a_h_told])), (a_h_d, .inl (cI, 2086, .inl v_d_A)), (a_h_was, .inl (cI, 10430, .inl v_was_A)), (a_h_accounts, .inl (cJ, 5, .inr (.inl v_accounts_A)))] sz) := by
  refine met_go (y := yX8_hours) (wsy := wsX8_hours) (cc := cX8_hours) (maxL := 2) (ret := (some .int)) (av := [.ref a_h, .int p0]) (Qc := fun A => QI D (ty4 cI cC cJ cB) A [(a_h, .inr (8, [.ref a_h_d, .long v_account, .ref a_h_was, .ref a_h_accounts, .int u.2.1, .int v_refused, .ref a_h_text, .int v_typed, .int v_at, .int v_sign, .int v_number, .ref a_h_aside, .ref a_h_places, .ref a_h_told])), (a_h_d, .inl (cI, 2086, .inl u.2.2.1)), (a_h_was, .inl (cI, 10430, .inl u.2.2.2.1)), (a_h_accounts, .inl (cJ, 5, .inr (.inl u.2.2.2.2)))] u.1) (by decide) rfl (Nat.le_of_ble_eq_true rfl) ?_
  intro p e s m below meth c A ls hx hb hr hml hown hts hlocks hnm hN hK hP hD hS hA hl
  have h := hu
  clear hu
  unfold f_X8_hours at h
  have hl : lv_has ls 2 [(0, .ref a_h), (1, .int p0)] := hl
  refine lv_iload_n hx hb dX8_hours_0 rfl (lv_at hl 1 rfl) ?_
  refine lv_iconst (v := (1 : Int32)) hx hb dX8_hours_1 (by decide) ?_
  refine lv_sipush (v := (200 : Int32)) hx hb dX8_hours_2 (by decide) ?_
  obtain ⟨u1, hu1, h⟩ := bd_e h
  refine kx_i (mc := 0) (ms := 0) (wr := [(a_h, .inr (8, [.ref a_h_d, .long v_account, .ref a_h_was, .ref a_h_accounts, .int v_states, .int v_refused, .ref a_h_text, .int v_typed, .int v_at, .int v_sign, .int v_number, .ref a_h_aside, .ref a_h_places, .ref a_h_told])), (a_h_d, .inl (cI, 2086, .inl v_d_A)), (a_h_was, .inl (cI, 10430, .inl v_was_A)), (a_h_accounts, .inl (cJ, 5, .inr (.inl v_accounts_A)))]) (ws2 := [(a_h, .inr (8, [.ref a_h_d, .long v_account, .ref a_h_was, .ref a_h_accounts, .int v_states, .int v_refused, .ref a_h_text, .int v_typed, .int v_at, .int v_sign, .int v_number, .ref a_h_aside, .ref a_h_places, .ref a_h_told])), (a_h_d, .inl (cI, 2086, .inl v_d_A)), (a_h_was, .inl (cI, 10430, .inl v_was_A)), (a_h_accounts, .inl (cJ, 5, .inr (.inl v_accounts_A)))]) (va_runS (As := [.int p0, .int (1 : Int32), .int (200 : Int32)]) (rest := []) ⟨hx, hb, hml, hown, hts⟩ (k_X8_in l D cI cC cJ cB N p0 (1 : Int32) (200 : Int32) s.heap.size _ hu1) (va_cwS 3 hts gX8_hours_X8_in rfl rfl rfl (by decide +kernel) ⟨Nat.le_of_ble_eq_true rfl, Nat.le_of_ble_eq_true rfl⟩) (pv_S hP hD hK hN [] rfl rfl) rfl rfl hl.1 rfl (lv_room (Nat.le_of_ble_eq_true rfl)) dX8_hours_5 ⟨Nat.zero_le _, Nat.zero_le _⟩) hP hD hS hA [] [0, 1, 2, 3] [0, 1, 2, 3] rfl rfl rfl rfl rfl rfl (fun H locs hP hD hS => ?_)
  refine lv_if_ne (tgt := 14) hx hb dX8_hours_8 (by decide) (fun hc2 => ?_) (fun hc2 => ?_)
  · replace h := it_e hc2 h
    refine lv_aload_n hx hb dX8_hours_14 rfl (lv_at hl 0 rfl) ?_
    obtain ⟨u3, hu3, h⟩ := bd_e h
    refine kx_v (mc := 0) (ms := 0) (wr := []) (ws2 := [(a_h, .inr (8, [.ref a_h_d, .long v_account, .ref a_h_was, .ref a_h_accounts, .int u3.1, .int v_refused, .ref a_h_text, .int v_typed, .int v_at, .int v_sign, .int v_number, .ref a_h_aside, .ref a_h_places, .ref a_h_told])), (a_h_d, .inl (cI, 2086, .inl v_d_A)), (a_h_was, .inl (cI, 10430, .inl u3.2.1)), (a_h_accounts, .inl (cJ, 5, .inr (.inl u3.2.2)))]) (va_runV (As := []) (rest := []) ⟨hx, hb, hml, hown, hts⟩ (k_X8_records l D cI cC cJ cB a_h a_h_d a_h_was a_h_accounts a_h_text a_h_aside a_h_places a_h_told v_account v_states v_refused v_typed v_at v_sign v_number v_d_A v_was_A v_accounts_A N H.size _ hu3) (cwV 0 hts gX8_hours_X8_records rfl rfl rfl (by decide +kernel) ⟨Nat.le_of_ble_eq_true rfl, Nat.le_of_ble_eq_true rfl⟩) (pv_V hP hD hK hN [0, 1, 2, 3] rfl rfl (ci := 8) rfl 0 rfl) rfl rfl hl.1 rfl (lv_room (Nat.le_of_ble_eq_true rfl)) dX8_hours_15 ⟨Nat.zero_le _, Nat.zero_le _⟩) hP hD hS hA [0, 1, 2, 3] [] [0, 1, 2, 3] rfl rfl rfl rfl rfl rfl (fun H locs hP hD hS => ?_)
    refine lv_aload_n hx hb dX8_hours_18 rfl (lv_at hl 0 rfl) ?_
    refine lv_iload_n hx hb dX8_hours_19 rfl (lv_at hl 1 rfl) ?_
    obtain ⟨u4, hu4, h⟩ := bd_e h
    refine kx_v (mc := 0) (ms := 0) (wr := [(a_h_was, .inl (cI, 10430, .inl u3.2.1)), (a_h_accounts, .inl (cJ, 5, .inr (.inl u3.2.2)))]) (ws2 := [(a_h, .inr (8, [.ref a_h_d, .long v_account, .ref a_h_was, .ref a_h_accounts, .int u3.1, .int v_refused, .ref a_h_text, .int v_typed, .int v_at, .int v_sign, .int v_number, .ref a_h_aside, .ref a_h_places, .ref a_h_told])), (a_h_d, .inl (cI, 2086, .inl u4)), (a_h_was, .inl (cI, 10430, .inl u3.2.1)), (a_h_accounts, .inl (cJ, 5, .inr (.inl u3.2.2)))]) (va_runV (As := [.int p0]) (rest := []) ⟨hx, hb, hml, hown, hts⟩ (k_X8_creeps l D cI cC cJ cB a_h a_h_d a_h_was a_h_accounts a_h_text a_h_aside a_h_places a_h_told v_account u3.1 v_refused v_typed v_at v_sign v_number v_d_A N p0 H.size _ hu4) (cwV 1 hts gX8_hours_X8_creeps rfl rfl rfl (by decide +kernel) ⟨Nat.le_of_ble_eq_true rfl, Nat.le_of_ble_eq_true rfl⟩) (pv_V hP hD hK hN [0, 1] rfl rfl (ci := 8) rfl 0 rfl) rfl rfl hl.1 rfl (lv_room (Nat.le_of_ble_eq_true rfl)) dX8_hours_20 ⟨Nat.zero_le _, Nat.zero_le _⟩) hP hD hS hA [0, 1] [2, 3] [2, 3, 0, 1] rfl rfl rfl rfl rfl rfl (fun H locs hP hD hS => ?_)
    refine lv_aload_n hx hb dX8_hours_23 rfl (lv_at hl 0 rfl) ?_
    refine va_get (D := D) (ci := 8) (v := .ref a_h_d) (C := RX8) (T := TX8) (N := 14) hx hb hts in_X8_hours_X8 hown hK hP 0 rfl rfl 0 (by decide) (hts _ q_X8_hours_2) (fun _ h9 => h9) rfl dX8_hours_24 ?_
    refine lv_iconst (v := (2 : Int32)) hx hb dX8_hours_27 (by decide) ?_
    refine wx_iald hx hb hK hP 1 0 rfl rfl 2 (by decide) (by unfold vp_in; decide) dX8_hours_28 ?_
    obtain rfl := sm_e h
    exact rx_i hx hb hr  hP hK hD hS dX8_hours_29 hlocks
  · replace h := in_e hc2 h
    refine lv_ldc (v := (-2000000001 : Int32)) hx hb hown (hts _ q_X8_hours_1) dX8_hours_11 ?_
    obtain rfl := sm_e h
    exact rx_i hx hb hr  hP hK hD hS dX8_hours_13 hlocks
-- X8_zero
def f_X8_zero (N : Nat) (v_account : Int64) (v_states : Int32) (v_d_A : Nat → Int32) (v_was_A : Nat → Int32) (v_accounts_A : Nat → Int64) : Option (Int32 × Int64 × Int32 × (Nat → Int32) × (Nat → Int32) × (Nat → Int64)) :=
  (if (v_d_A 0) = 0 then Option.bind (f_X8_records N v_account v_states v_d_A v_was_A v_accounts_A) (fun u2 => nm (v_d_A 5) (fun t3 => Option.bind (f_X8_zeroes v_d_A) (fun u4 => some (t3, u4.1, u2.1, u4.2, u2.2.1, u2.2.2))))
    else some ((-2000000002 : Int32), v_account, v_states, v_d_A, v_was_A, v_accounts_A))
theorem q_X8_zero_1 : (.fieldLink RX8 7 "SpringBalanceModel" "d" "[I" : Cond) ∈ wsX8_zero := List.mem_of_getElem? (i := 1) (by decide +kernel)
set_option maxRecDepth 20000 in
theorem in_X8_zero_X8 : ∀ w ∈ u_ws RX8 TX8 14, w ∈ wsX8_zero := by decide +kernel
theorem q_X8_zero_2 : (.constant RX8 69 (-2000000002) : Cond) ∈ wsX8_zero := List.mem_of_getElem? (i := 2) (by decide +kernel)
set_option maxHeartbeats 8000000 in
set_option maxRecDepth 100000 in
theorem k_X8_zero (l : Launch) (D : va_G) (cI cC cJ cB : ClassId) (a_h a_h_d a_h_was a_h_accounts a_h_text a_h_aside a_h_places a_h_told : Nat) (v_account : Int64) (v_states : Int32) (v_refused : Int32) (v_typed : Int32) (v_at : Int32) (v_sign : Int32) (v_number : Int32) (v_d_A : Nat → Int32) (v_was_A : Nat → Int32) (v_accounts_A : Nat → Int64) (N : Nat) (sz : Nat) (u : Int32 × Int64 × Int32 × (Nat → Int32) × (Nat → Int32) × (Nat → Int64)) (hu : f_X8_zero N v_account v_states v_d_A v_was_A v_accounts_A = some u) :
    Met l yX8_zero wsX8_zero ({ frames := 1, cells := 0, slots := 0, locals := 21 } : Room) (va_Pc [.ref a_h] (PreW D (ty4 cI cC cJ cB) sz [(a_h, .inr (8, [.ref a_h_d, .long v_account, .ref a_h_was, .ref a_h_accounts, .int v_states, .int v_refused, .ref a_h_text, .int v_typed, .int v_at, .int v_sign, .int v_number, .ref a_h_aside, .ref a_h_places, .ref a_h_told])), (a_h_d, .inl (cI, 2086, .inl v_d_A)), (a_h_was, .inl (cI, 10430, .inl v_was_A)), (a_h_accounts, .inl (cJ, 5, .inr (.inl v_accounts_A)))]))
      (QI D (ty4 cI cC cJ cB) (va_A [(a_h, .inr (8, [.ref a_h_d, .long v_account, .ref a_h_was, .ref a_h_accounts, .int v_states, .int v_refused, .ref a_h_text, .int v_typed, .int v_at, .int v_sign, .int v_number, .ref a_h_aside, .ref a_h_places, .ref a_h_told])), (a_h_d, .inl (cI, 2086, .inl v_d_A)), (a_h_was, .inl (cI, 10430, .inl v_was_A)), (a_h_accounts, .inl (cJ, 5, .inr (.inl v_accounts_A)))] sz) [(a_h, .inr (8, [.ref a_h_d, .long u.2.1, .ref a_h_was, .ref a_h_accounts, .int u.2.2.1, .int v_refused, .ref a_h_text, .int v_typed, .int v_at, .int v_sign, .int v_number, .ref a_h_aside, .ref a_h_places, .ref a_h_told])), (a_h_d, .inl (cI, 2086, .inl u.2.2.2.1)), (a_h_was, .inl (cI, 10430, .inl u.2.2.2.2.1)), (a_h_accounts, .inl (cJ, 5, .inr (.inl u.2.2.2.2.2)))] u.1) 0 0 (va_A [(a_h, .inr (8, [.ref a_h_d, .long v_account, .ref a_h_was, .ref a_h_accounts, .int v_states, .int v_refused, .ref a_h_text, .int v_typed, .int v_at, .int v_sign, .int v_number, .ref a_h_aside, .ref a_h_places, .ref a_h_told])), (a_h_d, .inl (cI, 2086, .inl v_d_A)), (a_h_was, .inl (cI, 10430, .inl v_was_A)), (a_h_accounts, .inl (cJ, 5, .inr (.inl v_accounts_A)))] sz) := by
  refine met_go (y := yX8_zero) (wsy := wsX8_zero) (cc := cX8_zero) (maxL := 2) (ret := (some .int)) (av := [.ref a_h]) (Qc := fun A => QI D (ty4 cI cC cJ cB) A [(a_h, .inr (8, [.ref a_h_d, .long u.2.1, .ref a_h_was, .ref a_h_accounts, .int u.2.2.1, .int v_refused, .ref a_h_text, .int v_typed, .int v_at, .int v_sign, .int v_number, .ref a_h_aside, .ref a_h_places, .ref a_h_told])), (a_h_d, .inl (cI, 2086, .inl u.2.2.2.1)), (a_h_was, .inl (cI, 10430, .inl u.2.2.2.2.1)), (a_h_accounts, .inl (cJ, 5, .inr (.inl u.2.2.2.2.2)))] u.1) (by decide) rfl (Nat.le_of_ble_eq_true rfl) ?_
  intro p e s m below meth c A ls hx hb hr hml hown hts hlocks hnm hN hK hP hD hS hA hl
  have h := hu
  clear hu
  unfold f_X8_zero at h
  have hl : lv_has ls 2 [(0, .ref a_h)] := hl
  refine lv_aload_n hx hb dX8_zero_0 rfl (lv_at hl 0 rfl) ?_
  refine va_get (D := D) (ci := 8) (v := .ref a_h_d) (C := RX8) (T := TX8) (N := 14) hx hb hts in_X8_zero_X8 hown hK hP 0 rfl rfl 0 (by decide) (hts _ q_X8_zero_1) (fun _ h9 => h9) rfl dX8_zero_1 ?_
  refine lv_iconst (v := (0 : Int32)) hx hb dX8_zero_4 (by decide) ?_
  refine wx_iald hx hb hK hP 1 0 rfl rfl 0 (by decide) (by unfold vp_in; decide) dX8_zero_5 ?_
  refine lv_if_eq (tgt := 12) hx hb dX8_zero_6 (by decide) (fun hc1 => ?_) (fun hc1 => ?_)
  · replace h := it_e hc1 h
    refine lv_aload_n hx hb dX8_zero_12 rfl (lv_at hl 0 rfl) ?_
    obtain ⟨u2, hu2, h⟩ := bd_e h
    refine kx_v (mc := 0) (ms := 0) (wr := []) (ws2 := [(a_h, .inr (8, [.ref a_h_d, .long v_account, .ref a_h_was, .ref a_h_accounts, .int u2.1, .int v_refused, .ref a_h_text, .int v_typed, .int v_at, .int v_sign, .int v_number, .ref a_h_aside, .ref a_h_places, .ref a_h_told])), (a_h_d, .inl (cI, 2086, .inl v_d_A)), (a_h_was, .inl (cI, 10430, .inl u2.2.1)), (a_h_accounts, .inl (cJ, 5, .inr (.inl u2.2.2)))]) (va_runV (As := []) (rest := []) ⟨hx, hb, hml, hown, hts⟩ (k_X8_records l D cI cC cJ cB a_h a_h_d a_h_was a_h_accounts a_h_text a_h_aside a_h_places a_h_told v_account v_states v_refused v_typed v_at v_sign v_number v_d_A v_was_A v_accounts_A N s.heap.size _ hu2) (cwV 0 hts gX8_zero_X8_records rfl rfl rfl (by decide +kernel) ⟨Nat.le_of_ble_eq_true rfl, Nat.le_of_ble_eq_true rfl⟩) (pv_V hP hD hK hN [0, 1, 2, 3] rfl rfl (ci := 8) rfl 0 rfl) rfl rfl hl.1 rfl (lv_room (Nat.le_of_ble_eq_true rfl)) dX8_zero_13 ⟨Nat.zero_le _, Nat.zero_le _⟩) hP hD hS hA [0, 1, 2, 3] [] [0, 1, 2, 3] rfl rfl rfl rfl rfl rfl (fun H locs hP hD hS => ?_)
    refine lv_aload_n hx hb dX8_zero_16 rfl (lv_at hl 0 rfl) ?_
    refine va_get (D := D) (ci := 8) (v := .ref a_h_d) (C := RX8) (T := TX8) (N := 14) hx hb hts in_X8_zero_X8 hown hK hP 0 rfl rfl 0 (by decide) (hts _ q_X8_zero_1) (fun _ h9 => h9) rfl dX8_zero_17 ?_
    refine lv_iconst (v := (5 : Int32)) hx hb dX8_zero_20 (by decide) ?_
    refine wx_iald hx hb hK hP 1 0 rfl rfl 5 (by decide) (by unfold vp_in; decide) dX8_zero_21 ?_
    refine lv_topi (fun t3 et3 => ?_)
    replace h := nm_at h et3
    refine lv_istore_n (lv' := [(1, .int t3), (0, .ref a_h)]) hx hb dX8_zero_22 rfl hl (by decide) rfl (fun ls hl => ?_)
    refine lv_aload_n hx hb dX8_zero_23 rfl (lv_at hl 1 rfl) ?_
    obtain ⟨u4, hu4, h⟩ := bd_e h
    refine kx_v (mc := 0) (ms := 0) (wr := [(a_h_was, .inl (cI, 10430, .inl u2.2.1)), (a_h_accounts, .inl (cJ, 5, .inr (.inl u2.2.2)))]) (ws2 := [(a_h, .inr (8, [.ref a_h_d, .long u4.1, .ref a_h_was, .ref a_h_accounts, .int u2.1, .int v_refused, .ref a_h_text, .int v_typed, .int v_at, .int v_sign, .int v_number, .ref a_h_aside, .ref a_h_places, .ref a_h_told])), (a_h_d, .inl (cI, 2086, .inl u4.2)), (a_h_was, .inl (cI, 10430, .inl u2.2.1)), (a_h_accounts, .inl (cJ, 5, .inr (.inl u2.2.2)))]) (va_runV (As := []) (rest := []) ⟨hx, hb, hml, hown, hts⟩ (k_X8_zeroes l D cI cC cJ cB a_h a_h_d a_h_was a_h_accounts a_h_text a_h_aside a_h_places a_h_told v_account u2.1 v_refused v_typed v_at v_sign v_number v_d_A N H.size _ hu4) (cwV 0 hts gX8_zero_X8_zeroes rfl rfl rfl (by decide +kernel) ⟨Nat.le_of_ble_eq_true rfl, Nat.le_of_ble_eq_true rfl⟩) (pv_V hP hD hK hN [0, 1] rfl rfl (ci := 8) rfl 0 rfl) rfl rfl hl.1 rfl (lv_room (Nat.le_of_ble_eq_true rfl)) dX8_zero_24 ⟨Nat.zero_le _, Nat.zero_le _⟩) hP hD hS hA [0, 1] [2, 3] [2, 3, 0, 1] rfl rfl rfl rfl rfl rfl (fun H locs hP hD hS => ?_)
    refine lv_iload_n hx hb dX8_zero_27 rfl (lv_at hl 0 rfl) ?_
    obtain rfl := sm_e h
    exact rx_i hx hb hr  hP hK hD hS dX8_zero_28 hlocks
  · replace h := if_e hc1 h
    refine lv_ldc (v := (-2000000002 : Int32)) hx hb hown (hts _ q_X8_zero_2) dX8_zero_9 ?_
    obtain rfl := sm_e h
    exact rx_i hx hb hr  hP hK hD hS dX8_zero_11 hlocks
-- X8_undo
def f_X8_undo_b22 (v_was_A : Nat → Int32) (v_accounts_A : Nat → Int64) (m_states : Int32) : Nat → Int32 → (Nat → Int32) → Option (Int32 × Int64 × Int32 × (Nat → Int32))
  | 0, _, _ => none
  | k + 1, x1, m_d_A =>
    (if (2086 : Int32) ≤ x1 then gA m_states 5 (nm (v_accounts_A (Int32.toNatClampNeg m_states)) (fun t5 => some (m_states, t5, m_states, m_d_A)))
    else gA (((2086 : Int32) * m_states) + x1) 10430 (nm (v_was_A (Int32.toNatClampNeg (((2086 : Int32) * m_states) + x1))) (fun t7 => gA x1 2086 (nm (upd m_d_A (Int32.toNatClampNeg x1) t7) (fun g9 => nm (x1 + (1 : Int32)) (fun t10 => (f_X8_undo_b22 v_was_A v_accounts_A m_states k t10 g9)))))))
def f_X8_undo (N : Nat) (v_account : Int64) (v_states : Int32) (v_d_A : Nat → Int32) (v_was_A : Nat → Int32) (v_accounts_A : Nat → Int64) : Option (Int32 × Int64 × Int32 × (Nat → Int32)) :=
  (if ¬ v_states = 0 then nm (v_states - (1 : Int32)) (fun t2 => (f_X8_undo_b22 v_was_A v_accounts_A t2 N (0 : Int32) v_d_A))
    else some ((-2000000002 : Int32), v_account, v_states, v_d_A))
theorem q_X8_undo_1 : (.fieldLink RX8 33 "SpringBalanceModel" "states" "I" : Cond) ∈ wsX8_undo := List.mem_of_getElem? (i := 1) (by decide +kernel)
set_option maxRecDepth 20000 in
theorem in_X8_undo_X8 : ∀ w ∈ u_ws RX8 TX8 14, w ∈ wsX8_undo := by decide +kernel
theorem q_X8_undo_5 : (.fieldLink RX8 16 "SpringBalanceModel" "accounts" "[J" : Cond) ∈ wsX8_undo := List.mem_of_getElem? (i := 5) (by decide +kernel)
theorem q_X8_undo_6 : (.fieldLink RX8 37 "SpringBalanceModel" "account" "J" : Cond) ∈ wsX8_undo := List.mem_of_getElem? (i := 6) (by decide +kernel)
theorem q_X8_undo_3 : (.fieldLink RX8 7 "SpringBalanceModel" "d" "[I" : Cond) ∈ wsX8_undo := List.mem_of_getElem? (i := 3) (by decide +kernel)
theorem q_X8_undo_4 : (.fieldLink RX8 13 "SpringBalanceModel" "was" "[I" : Cond) ∈ wsX8_undo := List.mem_of_getElem? (i := 4) (by decide +kernel)
theorem q_X8_undo_2 : (.constant RX8 69 (-2000000002) : Cond) ∈ wsX8_undo := List.mem_of_getElem? (i := 2) (by decide +kernel)
set_option maxHeartbeats 8000000 in
set_option maxRecDepth 100000 in
theorem k_X8_undo (l : Launch) (D : va_G) (cI cC cJ cB : ClassId) (a_h a_h_d a_h_was a_h_accounts a_h_text a_h_aside a_h_places a_h_told : Nat) (v_account : Int64) (v_states : Int32) (v_refused : Int32) (v_typed : Int32) (v_at : Int32) (v_sign : Int32) (v_number : Int32) (v_d_A : Nat → Int32) (v_was_A : Nat → Int32) (v_accounts_A : Nat → Int64) (N : Nat) (sz : Nat) (u : Int32 × Int64 × Int32 × (Nat → Int32)) (hu : f_X8_undo N v_account v_states v_d_A v_was_A v_accounts_A = some u) :
    Met l yX8_undo wsX8_undo ({ frames := 0, cells := 0, slots := 0, locals := 0 } : Room) (va_Pc [.ref a_h] (PreW D (ty4 cI cC cJ cB) sz [(a_h, .inr (8, [.ref a_h_d, .long v_account, .ref a_h_was, .ref a_h_accounts, .int v_states, .int v_refused, .ref a_h_text, .int v_typed, .int v_at, .int v_sign, .int v_number, .ref a_h_aside, .ref a_h_places, .ref a_h_told])), (a_h_d, .inl (cI, 2086, .inl v_d_A)), (a_h_was, .inl (cI, 10430, .inl v_was_A)), (a_h_accounts, .inl (cJ, 5, .inr (.inl v_accounts_A)))]))
      (QI D (ty4 cI cC cJ cB) (va_A [(a_h, .inr (8, [.ref a_h_d, .long v_account, .ref a_h_was, .ref a_h_accounts, .int v_states, .int v_refused, .ref a_h_text, .int v_typed, .int v_at, .int v_sign, .int v_number, .ref a_h_aside, .ref a_h_places, .ref a_h_told])), (a_h_d, .inl (cI, 2086, .inl v_d_A)), (a_h_was, .inl (cI, 10430, .inl v_was_A)), (a_h_accounts, .inl (cJ, 5, .inr (.inl v_accounts_A)))] sz) [(a_h, .inr (8, [.ref a_h_d, .long u.2.1, .ref a_h_was, .ref a_h_accounts, .int u.2.2.1, .int v_refused, .ref a_h_text, .int v_typed, .int v_at, .int v_sign, .int v_number, .ref a_h_aside, .ref a_h_places, .ref a_h_told])), (a_h_d, .inl (cI, 2086, .inl u.2.2.2)), (a_h_was, .inl (cI, 10430, .inl v_was_A)), (a_h_accounts, .inl (cJ, 5, .inr (.inl v_accounts_A)))] u.1) 0 0 (va_A [(a_h, .inr (8, [.ref a_h_d, .long v_account, .ref a_h_was, .ref a_h_accounts, .int v_states, .int v_refused, .ref a_h_text, .int v_typed, .int v_at, .int v_sign, .int v_number, .ref a_h_aside, .ref a_h_places, .ref a_h_told])), (a_h_d, .inl (cI, 2086, .inl v_d_A)), (a_h_was, .inl (cI, 10430, .inl v_was_A)), (a_h_accounts, .inl (cJ, 5, .inr (.inl v_accounts_A)))] sz) := by
  refine met_go (y := yX8_undo) (wsy := wsX8_undo) (cc := cX8_undo) (maxL := 2) (ret := (some .int)) (av := [.ref a_h]) (Qc := fun A => QI D (ty4 cI cC cJ cB) A [(a_h, .inr (8, [.ref a_h_d, .long u.2.1, .ref a_h_was, .ref a_h_accounts, .int u.2.2.1, .int v_refused, .ref a_h_text, .int v_typed, .int v_at, .int v_sign, .int v_number, .ref a_h_aside, .ref a_h_places, .ref a_h_told])), (a_h_d, .inl (cI, 2086, .inl u.2.2.2)), (a_h_was, .inl (cI, 10430, .inl v_was_A)), (a_h_accounts, .inl (cJ, 5, .inr (.inl v_accounts_A)))] u.1) (by decide) rfl (Nat.le_of_ble_eq_true rfl) ?_
  intro p e s m below meth c A ls hx hb hr hml hown hts hlocks hnm hN hK hP hD hS hA hl
  have h := hu
  clear hu
  unfold f_X8_undo at h
  have hl : lv_has ls 2 [(0, .ref a_h)] := hl
  have B22 : ∀ (k : Nat) (x1 : Int32) (m_account : Int64) (m_states : Int32) (m_d_A : Nat → Int32) (H : Heap) (locs : List Loc) (ls : Array Slot), f_X8_undo_b22 v_was_A v_accounts_A m_states k x1 m_d_A = some u → va_P D vwCl [(a_h, .inr (8, [.ref a_h_d, .long m_account, .ref a_h_was, .ref a_h_accounts, .int m_states, .int v_refused, .ref a_h_text, .int v_typed, .int v_at, .int v_sign, .int v_number, .ref a_h_aside, .ref a_h_places, .ref a_h_told])), (a_h_d, .inl (cI, 2086, .inl m_d_A)), (a_h_was, .inl (cI, 10430, .inl v_was_A)), (a_h_accounts, .inl (cJ, 5, .inr (.inl v_accounts_A)))] H → va_D A [(a_h, .inr (8, [.ref a_h_d, .long m_account, .ref a_h_was, .ref a_h_accounts, .int m_states, .int v_refused, .ref a_h_text, .int v_typed, .int v_at, .int v_sign, .int v_number, .ref a_h_aside, .ref a_h_places, .ref a_h_told])), (a_h_d, .inl (cI, 2086, .inl m_d_A)), (a_h_was, .inl (cI, 10430, .inl v_was_A)), (a_h_accounts, .inl (cJ, 5, .inr (.inl v_accounts_A)))] → va_S A s.heap H locs → lv_has ls 2 [(0, .ref a_h), (1, .int x1)] → W p l e ({ frames := 0, cells := 0, slots := 0, locals := 0 } : Room) s m ([.ref a_h] : List Value).toArray below meth c H locs 0 0 (MQ below (QI D (ty4 cI cC cJ cB) A [(a_h, .inr (8, [.ref a_h_d, .long u.2.1, .ref a_h_was, .ref a_h_accounts, .int u.2.2.1, .int v_refused, .ref a_h_text, .int v_typed, .int v_at, .int v_sign, .int v_number, .ref a_h_aside, .ref a_h_places, .ref a_h_told])), (a_h_d, .inl (cI, 2086, .inl u.2.2.2)), (a_h_was, .inl (cI, 10430, .inl v_was_A)), (a_h_accounts, .inl (cJ, 5, .inr (.inl v_accounts_A)))] u.1) ([.ref a_h] : List Value).toArray s 0 0 A) (F0 m 22 ls []) := by
    intro k
    induction k with
    | zero =>
      intro x1 m_account m_states m_d_A H locs ls h
      exact nomatch (show (none : Option (Int32 × Int64 × Int32 × (Nat → Int32))) = some u from h)
    | succ k ih =>
      intro x1 m_account m_states m_d_A H locs ls h hP hD hS hl
      rw [f_X8_undo_b22.eq_2] at h
      refine lv_iload_n hx hb dX8_undo_22 rfl (lv_at hl 1 rfl) ?_
      refine lv_sipush (v := (2086 : Int32)) hx hb dX8_undo_23 (by decide) ?_
      refine lv_icmp_ge (tgt := 56) hx hb dX8_undo_26 (by decide) (fun hc3 => ?_) (fun hc3 => ?_)
      · replace h := it_e hc3 h
        refine lv_aload_n hx hb dX8_undo_56 rfl (lv_at hl 0 rfl) ?_
        refine lv_aload_n hx hb dX8_undo_57 rfl (lv_at hl 0 rfl) ?_
        refine va_get (D := D) (ci := 8) (v := .ref a_h_accounts) (C := RX8) (T := TX8) (N := 14) hx hb hts in_X8_undo_X8 hown hK hP 0 rfl rfl 3 (by decide) (hts _ q_X8_undo_5) (fun _ h9 => h9) rfl dX8_undo_58 ?_
        refine lv_aload_n hx hb dX8_undo_61 rfl (lv_at hl 0 rfl) ?_
        refine va_get (D := D) (ci := 8) (v := .int m_states) (C := RX8) (T := TX8) (N := 14) hx hb hts in_X8_undo_X8 hown hK hP 0 rfl rfl 4 (by decide) (hts _ q_X8_undo_1) (fun _ h9 => h9) rfl dX8_undo_62 ?_
        obtain ⟨hi4, h⟩ := gA_e h
        refine va_lald hx hb hK hP 3 2 rfl rfl hi4 dX8_undo_65 ?_
        refine lv_topl (fun t5 et5 => ?_)
        replace h := nm_at h et5
        refine va_put (D := D) (ci := 8) (v := .long t5) (ty := .long) (C := RX8) (T := TX8) (N := 14) hx hb hts in_X8_undo_X8 tyX8 tyX8_ok nmX8 hown hK hP hD hS 0 rfl rfl 1 (by decide) (hts _ q_X8_undo_6) (fun _ h9 => h9) rfl (by decide +kernel) rfl rfl (Nat.le_of_ble_eq_true rfl) dX8_undo_66 (fun H locs hP hD hS => ?_)
        have hP : va_P D vwCl [(a_h, .inr (8, [.ref a_h_d, .long t5, .ref a_h_was, .ref a_h_accounts, .int m_states, .int v_refused, .ref a_h_text, .int v_typed, .int v_at, .int v_sign, .int v_number, .ref a_h_aside, .ref a_h_places, .ref a_h_told])), (a_h_d, .inl (cI, 2086, .inl m_d_A)), (a_h_was, .inl (cI, 10430, .inl v_was_A)), (a_h_accounts, .inl (cJ, 5, .inr (.inl v_accounts_A)))] H := hP
        have hD : va_D A [(a_h, .inr (8, [.ref a_h_d, .long t5, .ref a_h_was, .ref a_h_accounts, .int m_states, .int v_refused, .ref a_h_text, .int v_typed, .int v_at, .int v_sign, .int v_number, .ref a_h_aside, .ref a_h_places, .ref a_h_told])), (a_h_d, .inl (cI, 2086, .inl m_d_A)), (a_h_was, .inl (cI, 10430, .inl v_was_A)), (a_h_accounts, .inl (cJ, 5, .inr (.inl v_accounts_A)))] := hD
        refine lv_aload_n hx hb dX8_undo_69 rfl (lv_at hl 0 rfl) ?_
        refine va_get (D := D) (ci := 8) (v := .int m_states) (C := RX8) (T := TX8) (N := 14) hx hb hts in_X8_undo_X8 hown hK hP 0 rfl rfl 4 (by decide) (hts _ q_X8_undo_1) (fun _ h9 => h9) rfl dX8_undo_70 ?_
        obtain rfl := sm_e h
        exact rx_i hx hb hr  hP hK hD hS dX8_undo_73 hlocks
      · replace h := if_e hc3 h
        refine lv_aload_n hx hb dX8_undo_29 rfl (lv_at hl 0 rfl) ?_
        refine va_get (D := D) (ci := 8) (v := .ref a_h_d) (C := RX8) (T := TX8) (N := 14) hx hb hts in_X8_undo_X8 hown hK hP 0 rfl rfl 0 (by decide) (hts _ q_X8_undo_3) (fun _ h9 => h9) rfl dX8_undo_30 ?_
        refine lv_iload_n hx hb dX8_undo_33 rfl (lv_at hl 1 rfl) ?_
        refine lv_aload_n hx hb dX8_undo_34 rfl (lv_at hl 0 rfl) ?_
        refine va_get (D := D) (ci := 8) (v := .ref a_h_was) (C := RX8) (T := TX8) (N := 14) hx hb hts in_X8_undo_X8 hown hK hP 0 rfl rfl 2 (by decide) (hts _ q_X8_undo_4) (fun _ h9 => h9) rfl dX8_undo_35 ?_
        refine lv_sipush (v := (2086 : Int32)) hx hb dX8_undo_38 (by decide) ?_
        refine lv_aload_n hx hb dX8_undo_41 rfl (lv_at hl 0 rfl) ?_
        refine va_get (D := D) (ci := 8) (v := .int m_states) (C := RX8) (T := TX8) (N := 14) hx hb hts in_X8_undo_X8 hown hK hP 0 rfl rfl 4 (by decide) (hts _ q_X8_undo_1) (fun _ h9 => h9) rfl dX8_undo_42 ?_
        refine lv_imul hx hb dX8_undo_45 ?_
        refine lv_iload_n hx hb dX8_undo_46 rfl (lv_at hl 1 rfl) ?_
        refine lv_iadd hx hb dX8_undo_47 ?_
        obtain ⟨hi6, h⟩ := gA_e h
        refine wx_iald hx hb hK hP 2 0 rfl rfl (Int32.toNatClampNeg (((2086 : Int32) * m_states) + x1)) rfl hi6 dX8_undo_48 ?_
        refine lv_topi (fun t7 et7 => ?_)
        replace h := nm_at h et7
        obtain ⟨hi8, h⟩ := gA_e h
        refine wx_iast hx hb hK hP hD hS 1 0 rfl rfl (Int32.toNatClampNeg x1) rfl hi8 dX8_undo_49 rfl (fun H locs hP hD hS => ?_)
        obtain ⟨g9, eg9, h⟩ := nm_x h
        have hP : va_P D vwCl [(a_h, .inr (8, [.ref a_h_d, .long m_account, .ref a_h_was, .ref a_h_accounts, .int m_states, .int v_refused, .ref a_h_text, .int v_typed, .int v_at, .int v_sign, .int v_number, .ref a_h_aside, .ref a_h_places, .ref a_h_told])), (a_h_d, .inl (cI, 2086, .inl g9)), (a_h_was, .inl (cI, 10430, .inl v_was_A)), (a_h_accounts, .inl (cJ, 5, .inr (.inl v_accounts_A)))] H := by rw [eg9]; exact hP
        have hD : va_D A [(a_h, .inr (8, [.ref a_h_d, .long m_account, .ref a_h_was, .ref a_h_accounts, .int m_states, .int v_refused, .ref a_h_text, .int v_typed, .int v_at, .int v_sign, .int v_number, .ref a_h_aside, .ref a_h_places, .ref a_h_told])), (a_h_d, .inl (cI, 2086, .inl g9)), (a_h_was, .inl (cI, 10430, .inl v_was_A)), (a_h_accounts, .inl (cJ, 5, .inr (.inl v_accounts_A)))] := by rw [eg9]; exact hD
        obtain ⟨t10, et10, h⟩ := nm_x h
        refine lv_iinc (v := t10) (lv' := [(1, .int t10), (0, .ref a_h)]) hx hb dX8_undo_50 hl (k := 1) rfl (by rw [et10]; rfl) (by decide) rfl (fun ls hl => ?_)
        refine lv_goto (tgt := 22) hx hb dX8_undo_53 (by decide) ?_
        exact ih t10 m_account m_states g9 _ _ _ h hP hD hS (lv_sub hl [1, 0] rfl)
  refine lv_aload_n hx hb dX8_undo_0 rfl (lv_at hl 0 rfl) ?_
  refine va_get (D := D) (ci := 8) (v := .int v_states) (C := RX8) (T := TX8) (N := 14) hx hb hts in_X8_undo_X8 hown hK hP 0 rfl rfl 4 (by decide) (hts _ q_X8_undo_1) (fun _ h9 => h9) rfl dX8_undo_1 ?_
  refine lv_if_ne (tgt := 10) hx hb dX8_undo_4 (by decide) (fun hc1 => ?_) (fun hc1 => ?_)
  · replace h := it_e hc1 h
    refine lv_aload_n hx hb dX8_undo_10 rfl (lv_at hl 0 rfl) ?_
    refine lv_dup hx hb dX8_undo_11 rfl ?_
    refine va_get (D := D) (ci := 8) (v := .int v_states) (C := RX8) (T := TX8) (N := 14) hx hb hts in_X8_undo_X8 hown hK hP 0 rfl rfl 4 (by decide) (hts _ q_X8_undo_1) (fun _ h9 => h9) rfl dX8_undo_12 ?_
    refine lv_iconst (v := (1 : Int32)) hx hb dX8_undo_15 (by decide) ?_
    refine lv_isub hx hb dX8_undo_16 ?_
    refine lv_topi (fun t2 et2 => ?_)
    replace h := nm_at h et2
    refine va_put (D := D) (ci := 8) (v := .int t2) (ty := .int) (C := RX8) (T := TX8) (N := 14) hx hb hts in_X8_undo_X8 tyX8 tyX8_ok nmX8 hown hK hP hD hS 0 rfl rfl 4 (by decide) (hts _ q_X8_undo_1) (fun _ h9 => h9) rfl (by decide +kernel) rfl rfl (Nat.le_of_ble_eq_true rfl) dX8_undo_17 (fun H locs hP hD hS => ?_)
    have hP : va_P D vwCl [(a_h, .inr (8, [.ref a_h_d, .long v_account, .ref a_h_was, .ref a_h_accounts, .int t2, .int v_refused, .ref a_h_text, .int v_typed, .int v_at, .int v_sign, .int v_number, .ref a_h_aside, .ref a_h_places, .ref a_h_told])), (a_h_d, .inl (cI, 2086, .inl v_d_A)), (a_h_was, .inl (cI, 10430, .inl v_was_A)), (a_h_accounts, .inl (cJ, 5, .inr (.inl v_accounts_A)))] H := hP
    have hD : va_D A [(a_h, .inr (8, [.ref a_h_d, .long v_account, .ref a_h_was, .ref a_h_accounts, .int t2, .int v_refused, .ref a_h_text, .int v_typed, .int v_at, .int v_sign, .int v_number, .ref a_h_aside, .ref a_h_places, .ref a_h_told])), (a_h_d, .inl (cI, 2086, .inl v_d_A)), (a_h_was, .inl (cI, 10430, .inl v_was_A)), (a_h_accounts, .inl (cJ, 5, .inr (.inl v_accounts_A)))] := hD
    refine lv_iconst (v := (0 : Int32)) hx hb dX8_undo_20 (by decide) ?_
    refine lv_istore_n (lv' := [(1, .int (0 : Int32)), (0, .ref a_h)]) hx hb dX8_undo_21 rfl hl (by decide) rfl (fun ls hl => ?_)
    exact B22 N (0 : Int32) v_account t2 v_d_A _ _ _ h hP hD hS (lv_sub hl [1, 0] rfl)
  · replace h := in_e hc1 h
    refine lv_ldc (v := (-2000000002 : Int32)) hx hb hown (hts _ q_X8_undo_2) dX8_undo_7 ?_
    obtain rfl := sm_e h
    exact rx_i hx hb hr  hP hK hD hS dX8_undo_9 hlocks
