-- X7_isOutside
def f_X7_isOutside (p0 : Int32) (p1 : Int32) (p2 : Int32) : Option (Int32) :=
  (if p0 < p1 then some (1 : Int32)
    else (if p0 ≤ p2 then some (0 : Int32)
    else some (1 : Int32)))

set_option maxHeartbeats 8000000 in
set_option maxRecDepth 100000 in
theorem k_X7_isOutside (l : Launch) (D : va_G) (cI cC cJ cB : ClassId) (N : Nat) (p0 : Int32) (p1 : Int32) (p2 : Int32) (sz : Nat) (u : Int32) (hu : f_X7_isOutside p0 p1 p2 = some u) :
    Met l yX7_isOutside wsX7_isOutside ({ frames := 0, cells := 0, slots := 0, locals := 0 } : Room) (va_Pc [.int p0, .int p1, .int p2] (PreW D (ty4 cI cC cJ cB) sz []))
      (QI D (ty4 cI cC cJ cB) (va_A [] sz) [] u) 0 0 (va_A [] sz) := by
  refine met_go (y := yX7_isOutside) (wsy := wsX7_isOutside) (cc := cX7_isOutside) (maxL := 3) (ret := (some .boolean)) (av := [.int p0, .int p1, .int p2]) (Qc := fun A => QI D (ty4 cI cC cJ cB) A [] u) (by decide) rfl (Nat.le_of_ble_eq_true rfl) ?_
  intro p e s m below meth c A ls hx hb hr hml hown hts hlocks hnm hN hK hP hD hS hA hl
  have h := hu
  clear hu
  unfold f_X7_isOutside at h
  have hl : lv_has ls 3 [(0, .int p0), (1, .int p1), (2, .int p2)] := hl
  refine lv_iload_n hx hb dX7_isOutside_0 rfl (lv_at hl 0 rfl) ?_
  refine lv_iload_n hx hb dX7_isOutside_1 rfl (lv_at hl 1 rfl) ?_
  refine lv_icmp_lt (tgt := 10) hx hb dX7_isOutside_2 (by decide) (fun hc1 => ?_) (fun hc1 => ?_)
  · replace h := it_e hc1 h
    refine lv_iconst (v := (1 : Int32)) hx hb dX7_isOutside_10 (by decide) ?_
    refine lv_goto (tgt := 15) hx hb dX7_isOutside_11 (by decide) ?_
    obtain rfl := sm_e h
    exact rx_z hx hb hr rfl hP hK hD hS dX7_isOutside_15 hlocks
  · replace h := if_e hc1 h
    refine lv_iload_n hx hb dX7_isOutside_5 rfl (lv_at hl 0 rfl) ?_
    refine lv_iload_n hx hb dX7_isOutside_6 rfl (lv_at hl 2 rfl) ?_
    refine lv_icmp_le (tgt := 14) hx hb dX7_isOutside_7 (by decide) (fun hc2 => ?_) (fun hc2 => ?_)
    · replace h := it_e hc2 h
      refine lv_iconst (v := (0 : Int32)) hx hb dX7_isOutside_14 (by decide) ?_
      obtain rfl := sm_e h
      exact rx_z hx hb hr rfl hP hK hD hS dX7_isOutside_15 hlocks
    · replace h := if_e hc2 h
      refine lv_iconst (v := (1 : Int32)) hx hb dX7_isOutside_10 (by decide) ?_
      refine lv_goto (tgt := 15) hx hb dX7_isOutside_11 (by decide) ?_
      obtain rfl := sm_e h
      exact rx_z hx hb hr rfl hP hK hD hS dX7_isOutside_15 hlocks
-- X7_errorOf
def f_X7_errorOf (p0 : Int32) : Option (Int32) :=
  (if ¬ p0 = 0 then (if ¬ p0 = (1 : Int32) then some (-2000000002 : Int32)
    else some (-2000000001 : Int32))
    else some (0 : Int32))
theorem q_X7_errorOf_2 : (.constant RX7 102 (-2000000002) : Cond) ∈ wsX7_errorOf := List.mem_of_getElem? (i := 2) (by decide +kernel)
theorem q_X7_errorOf_1 : (.constant RX7 41 (-2000000001) : Cond) ∈ wsX7_errorOf := List.mem_of_getElem? (i := 1) (by decide +kernel)
set_option maxHeartbeats 8000000 in
set_option maxRecDepth 100000 in
theorem k_X7_errorOf (l : Launch) (D : va_G) (cI cC cJ cB : ClassId) (N : Nat) (p0 : Int32) (sz : Nat) (u : Int32) (hu : f_X7_errorOf p0 = some u) :
    Met l yX7_errorOf wsX7_errorOf ({ frames := 0, cells := 0, slots := 0, locals := 0 } : Room) (va_Pc [.int p0] (PreW D (ty4 cI cC cJ cB) sz []))
      (QI D (ty4 cI cC cJ cB) (va_A [] sz) [] u) 0 0 (va_A [] sz) := by
  refine met_go (y := yX7_errorOf) (wsy := wsX7_errorOf) (cc := cX7_errorOf) (maxL := 1) (ret := (some .int)) (av := [.int p0]) (Qc := fun A => QI D (ty4 cI cC cJ cB) A [] u) (by decide) rfl (Nat.le_of_ble_eq_true rfl) ?_
  intro p e s m below meth c A ls hx hb hr hml hown hts hlocks hnm hN hK hP hD hS hA hl
  have h := hu
  clear hu
  unfold f_X7_errorOf at h
  have hl : lv_has ls 1 [(0, .int p0)] := hl
  refine lv_iload_n hx hb dX7_errorOf_0 rfl (lv_at hl 0 rfl) ?_
  refine lv_if_ne (tgt := 6) hx hb dX7_errorOf_1 (by decide) (fun hc1 => ?_) (fun hc1 => ?_)
  · replace h := it_e hc1 h
    refine lv_iload_n hx hb dX7_errorOf_6 rfl (lv_at hl 0 rfl) ?_
    refine lv_iconst (v := (1 : Int32)) hx hb dX7_errorOf_7 (by decide) ?_
    refine lv_icmp_ne (tgt := 16) hx hb dX7_errorOf_8 (by decide) (fun hc2 => ?_) (fun hc2 => ?_)
    · replace h := it_e hc2 h
      refine lv_ldc (v := (-2000000002 : Int32)) hx hb hown (hts _ q_X7_errorOf_2) dX7_errorOf_16 ?_
      obtain rfl := sm_e h
      exact rx_i hx hb hr  hP hK hD hS dX7_errorOf_18 hlocks
    · replace h := in_e hc2 h
      refine lv_ldc (v := (-2000000001 : Int32)) hx hb hown (hts _ q_X7_errorOf_1) dX7_errorOf_11 ?_
      refine lv_goto (tgt := 18) hx hb dX7_errorOf_13 (by decide) ?_
      obtain rfl := sm_e h
      exact rx_i hx hb hr  hP hK hD hS dX7_errorOf_18 hlocks
  · replace h := in_e hc1 h
    refine lv_iconst (v := (0 : Int32)) hx hb dX7_errorOf_4 (by decide) ?_
    obtain rfl := sm_e h
    exact rx_i hx hb hr  hP hK hD hS dX7_errorOf_5 hlocks
-- X7_count
def f_X7_count (N : Nat) (v_now_spring_load : Int32) (v_now_spring_extension : Int32) (v_now_spring_creep : Int32) (v_now_spring_pointer : Int32) (v_now_spring_way : Int32) (v_now_spring_deadZone : Int32) (v_now_spring_rate : Int32) (v_now_spring_step : Int32) (v_now_spring_turns_size : Int32) (v_now_spring_curve_size : Int32) (v_now_scale_size : Int32) (v_now_scale_firsts_A : Nat → Int32) (v_now_scale_seconds_A : Nat → Int32) (v_now_weights_size : Int32) (v_now_weights_onPan_A : Nat → Int32) (v_history_size : Int32) (v_text_length : Int32) (p0 : Int32) : Option (Int32) :=
  (if p0 = (0 : Int32) then some v_now_spring_load
    else (if p0 = (1 : Int32) then some v_now_spring_extension
    else (if p0 = (2 : Int32) then some v_now_spring_creep
    else (if p0 = (3 : Int32) then some v_now_spring_pointer
    else (if p0 = (4 : Int32) then Option.bind (f_X0_reading N 6 v_now_spring_pointer v_now_scale_size v_now_scale_firsts_A v_now_scale_seconds_A) (fun u6 => some u6)
    else (if p0 = (5 : Int32) then some v_now_spring_turns_size
    else (if p0 = (6 : Int32) then some v_now_spring_way
    else (if p0 = (7 : Int32) then some v_now_weights_size
    else (if p0 = (8 : Int32) then Option.bind (f_X6_numberOnPan N v_now_weights_size v_now_weights_onPan_A) (fun u11 => some u11)
    else (if p0 = (9 : Int32) then some v_history_size
    else (if p0 = (10 : Int32) then some v_text_length
    else (if p0 = (11 : Int32) then some v_now_spring_curve_size
    else (if p0 = (12 : Int32) then some v_now_scale_size
    else (if p0 = (13 : Int32) then some v_now_spring_deadZone
    else (if p0 = (14 : Int32) then some v_now_spring_rate
    else (if p0 = (15 : Int32) then some v_now_spring_step
    else some (-2000000001 : Int32)))))))))))))))))
theorem q_X7_count_1 : (.fieldLink RX7 12 "SpringBalance" "now" "LSpringBalance$Bench;" : Cond) ∈ wsX7_count := List.mem_of_getElem? (i := 1) (by decide +kernel)
set_option maxRecDepth 20000 in
theorem in_X7_count_X7 : ∀ w ∈ u_ws RX7 TX7 5, w ∈ wsX7_count := by decide +kernel
set_option maxRecDepth 20000 in
theorem in_X7_count_X0 : ∀ w ∈ u_ws RX0 TX0 3, w ∈ wsX7_count := by decide +kernel
set_option maxRecDepth 20000 in
theorem in_X7_count_X3 : ∀ w ∈ u_ws RX3 TX3 11, w ∈ wsX7_count := by decide +kernel
theorem q_X7_count_6 : (.initialized RX0 : Cond) ∈ wsX7_count := List.mem_of_getElem? (i := 6) (by decide +kernel)
theorem q_X7_count_5 : (.instanceMethod yX0_reading : Cond) ∈ wsX7_count := List.mem_of_getElem? (i := 5) (by decide +kernel)
theorem q_X7_count_7 : (.selects RX0 yX0_reading yX0_reading : Cond) ∈ wsX7_count := List.mem_of_getElem? (i := 7) (by decide +kernel)
set_option maxRecDepth 20000 in
theorem in_X7_count_X2 : ∀ w ∈ u_ws RX2 TX2 3, w ∈ wsX7_count := by decide +kernel
set_option maxRecDepth 20000 in
theorem in_X7_count_X6 : ∀ w ∈ u_ws RX6 TX6 6, w ∈ wsX7_count := by decide +kernel
theorem q_X7_count_31 : (.initialized RX6 : Cond) ∈ wsX7_count := List.mem_of_getElem? (i := 31) (by decide +kernel)
theorem q_X7_count_30 : (.instanceMethod yX6_numberOnPan : Cond) ∈ wsX7_count := List.mem_of_getElem? (i := 30) (by decide +kernel)
theorem q_X7_count_32 : (.selects RX6 yX6_numberOnPan yX6_numberOnPan : Cond) ∈ wsX7_count := List.mem_of_getElem? (i := 32) (by decide +kernel)
theorem q_X7_count_2 : (.fieldLink RX7 19 "SpringBalance" "history" "LSpringBalance$History;" : Cond) ∈ wsX7_count := List.mem_of_getElem? (i := 2) (by decide +kernel)
set_option maxRecDepth 20000 in
theorem in_X7_count_X1 : ∀ w ∈ u_ws RX1 TX1 2, w ∈ wsX7_count := by decide +kernel
theorem q_X7_count_3 : (.fieldLink RX7 26 "SpringBalance" "text" "LSpringBalance$Text;" : Cond) ∈ wsX7_count := List.mem_of_getElem? (i := 3) (by decide +kernel)
set_option maxRecDepth 20000 in
theorem in_X7_count_X4 : ∀ w ∈ u_ws RX4 TX4 6, w ∈ wsX7_count := by decide +kernel
theorem q_X7_count_4 : (.constant RX7 41 (-2000000001) : Cond) ∈ wsX7_count := List.mem_of_getElem? (i := 4) (by decide +kernel)
set_option maxHeartbeats 8000000 in
set_option maxRecDepth 100000 in
theorem k_X7_count (l : Launch) (D : va_G) (cI cC cJ cB : ClassId) (a_h a_h_now a_h_history a_h_text a_h_trial a_h_now_spring a_h_now_scale a_h_now_weights a_h_now_spring_turns a_h_now_spring_curve a_h_now_spring_turns_firsts a_h_now_spring_turns_seconds a_h_now_spring_curve_firsts a_h_now_spring_curve_seconds a_h_now_scale_firsts a_h_now_scale_seconds a_h_now_weights_masses a_h_now_weights_errors a_h_now_weights_variances a_h_now_weights_parents a_h_now_weights_onPan a_h_history_benches a_h_text_signs : Nat) (v_refusal : Int32) (v_now_spring_load : Int32) (v_now_spring_extension : Int32) (v_now_spring_creep : Int32) (v_now_spring_pointer : Int32) (v_now_spring_way : Int32) (v_now_spring_account : Int64) (v_now_spring_deadZone : Int32) (v_now_spring_rate : Int32) (v_now_spring_step : Int32) (v_now_spring_turns_size : Int32) (v_now_spring_curve_size : Int32) (v_now_scale_size : Int32) (v_now_scale_firsts_A : Nat → Int32) (v_now_scale_seconds_A : Nat → Int32) (v_now_weights_size : Int32) (v_now_weights_onPan_A : Nat → Int32) (v_history_size : Int32) (v_text_length : Int32) (v_text_kind : Int32) (v_text_number : Int32) (v_text_digits : Int32) (v_text_next : Int32) (N : Nat) (p0 : Int32) (sz : Nat) (u : Int32) (hu : f_X7_count N v_now_spring_load v_now_spring_extension v_now_spring_creep v_now_spring_pointer v_now_spring_way v_now_spring_deadZone v_now_spring_rate v_now_spring_step v_now_spring_turns_size v_now_spring_curve_size v_now_scale_size v_now_scale_firsts_A v_now_scale_seconds_A v_now_weights_size v_now_weights_onPan_A v_history_size v_text_length p0 = some u) :
    Met l yX7_count wsX7_count ({ frames := 3, cells := 0, slots := 0, locals := 70 } : Room) (va_Pc [.ref a_h, .int p0] (PreW D (ty4 cI cC cJ cB) sz [(a_h, .inr (7, [.ref a_h_now, .ref a_h_history, .ref a_h_text, .ref a_h_trial, .int v_refusal])), (a_h_now, .inr (0, [.ref a_h_now_spring, .ref a_h_now_scale, .ref a_h_now_weights])), (a_h_now_spring, .inr (3, [.int v_now_spring_load, .int v_now_spring_extension, .int v_now_spring_creep, .int v_now_spring_pointer, .int v_now_spring_way, .long v_now_spring_account, .int v_now_spring_deadZone, .int v_now_spring_rate, .int v_now_spring_step, .ref a_h_now_spring_turns, .ref a_h_now_spring_curve])), (a_h_now_spring_turns, .inr (2, [.ref a_h_now_spring_turns_firsts, .ref a_h_now_spring_turns_seconds, .int v_now_spring_turns_size])), (a_h_now_spring_curve, .inr (2, [.ref a_h_now_spring_curve_firsts, .ref a_h_now_spring_curve_seconds, .int v_now_spring_curve_size])), (a_h_now_scale, .inr (2, [.ref a_h_now_scale_firsts, .ref a_h_now_scale_seconds, .int v_now_scale_size])), (a_h_now_scale_firsts, .inl (cI, 6, .inl v_now_scale_firsts_A)), (a_h_now_scale_seconds, .inl (cI, 6, .inl v_now_scale_seconds_A)), (a_h_now_weights, .inr (6, [.ref a_h_now_weights_masses, .ref a_h_now_weights_errors, .ref a_h_now_weights_variances, .ref a_h_now_weights_parents, .ref a_h_now_weights_onPan, .int v_now_weights_size])), (a_h_now_weights_onPan, .inl (cI, 8, .inl v_now_weights_onPan_A)), (a_h_history, .inr (1, [.ref a_h_history_benches, .int v_history_size])), (a_h_text, .inr (4, [.ref a_h_text_signs, .int v_text_length, .int v_text_kind, .int v_text_number, .int v_text_digits, .int v_text_next]))]))
      (QI D (ty4 cI cC cJ cB) (va_A [(a_h, .inr (7, [.ref a_h_now, .ref a_h_history, .ref a_h_text, .ref a_h_trial, .int v_refusal])), (a_h_now, .inr (0, [.ref a_h_now_spring, .ref a_h_now_scale, .ref a_h_now_weights])), (a_h_now_spring, .inr (3, [.int v_now_spring_load, .int v_now_spring_extension, .int v_now_spring_creep, .int v_now_spring_pointer, .int v_now_spring_way, .long v_now_spring_account, .int v_now_spring_deadZone, .int v_now_spring_rate, .int v_now_spring_step, .ref a_h_now_spring_turns, .ref a_h_now_spring_curve])), (a_h_now_spring_turns, .inr (2, [.ref a_h_now_spring_turns_firsts, .ref a_h_now_spring_turns_seconds, .int v_now_spring_turns_size])), (a_h_now_spring_curve, .inr (2, [.ref a_h_now_spring_curve_firsts, .ref a_h_now_spring_curve_seconds, .int v_now_spring_curve_size])), (a_h_now_scale, .inr (2, [.ref a_h_now_scale_firsts, .ref a_h_now_scale_seconds, .int v_now_scale_size])), (a_h_now_scale_firsts, .inl (cI, 6, .inl v_now_scale_firsts_A)), (a_h_now_scale_seconds, .inl (cI, 6, .inl v_now_scale_seconds_A)), (a_h_now_weights, .inr (6, [.ref a_h_now_weights_masses, .ref a_h_now_weights_errors, .ref a_h_now_weights_variances, .ref a_h_now_weights_parents, .ref a_h_now_weights_onPan, .int v_now_weights_size])), (a_h_now_weights_onPan, .inl (cI, 8, .inl v_now_weights_onPan_A)), (a_h_history, .inr (1, [.ref a_h_history_benches, .int v_history_size])), (a_h_text, .inr (4, [.ref a_h_text_signs, .int v_text_length, .int v_text_kind, .int v_text_number, .int v_text_digits, .int v_text_next]))] sz) [(a_h, .inr (7, [.ref a_h_now, .ref a_h_history, .ref a_h_text, .ref a_h_trial, .int v_refusal])), (a_h_now, .inr (0, [.ref a_h_now_spring, .ref a_h_now_scale, .ref a_h_now_weights])), (a_h_now_spring, .inr (3, [.int v_now_spring_load, .int v_now_spring_extension, .int v_now_spring_creep, .int v_now_spring_pointer, .int v_now_spring_way, .long v_now_spring_account, .int v_now_spring_deadZone, .int v_now_spring_rate, .int v_now_spring_step, .ref a_h_now_spring_turns, .ref a_h_now_spring_curve])), (a_h_now_spring_turns, .inr (2, [.ref a_h_now_spring_turns_firsts, .ref a_h_now_spring_turns_seconds, .int v_now_spring_turns_size])), (a_h_now_spring_curve, .inr (2, [.ref a_h_now_spring_curve_firsts, .ref a_h_now_spring_curve_seconds, .int v_now_spring_curve_size])), (a_h_now_scale, .inr (2, [.ref a_h_now_scale_firsts, .ref a_h_now_scale_seconds, .int v_now_scale_size])), (a_h_now_scale_firsts, .inl (cI, 6, .inl v_now_scale_firsts_A)), (a_h_now_scale_seconds, .inl (cI, 6, .inl v_now_scale_seconds_A)), (a_h_now_weights, .inr (6, [.ref a_h_now_weights_masses, .ref a_h_now_weights_errors, .ref a_h_now_weights_variances, .ref a_h_now_weights_parents, .ref a_h_now_weights_onPan, .int v_now_weights_size])), (a_h_now_weights_onPan, .inl (cI, 8, .inl v_now_weights_onPan_A)), (a_h_history, .inr (1, [.ref a_h_history_benches, .int v_history_size])), (a_h_text, .inr (4, [.ref a_h_text_signs, .int v_text_length, .int v_text_kind, .int v_text_number, .int v_text_digits, .int v_text_next]))] u) 0 0 (va_A [(a_h, .inr (7, [.ref a_h_now, .ref a_h_history, .ref a_h_text, .ref a_h_trial, .int v_refusal])), (a_h_now, .inr (0, [.ref a_h_now_spring, .ref a_h_now_scale, .ref a_h_now_weights])), (a_h_now_spring, .inr (3, [.int v_now_spring_load, .int v_now_spring_extension, .int v_now_spring_creep, .int v_now_spring_pointer, .int v_now_spring_way, .long v_now_spring_account, .int v_now_spring_deadZone, .int v_now_spring_rate, .int v_now_spring_step, .ref a_h_now_spring_turns, .ref a_h_now_spring_curve])), (a_h_now_spring_turns, .inr (2, [.ref a_h_now_spring_turns_firsts, .ref a_h_now_spring_turns_seconds, .int v_now_spring_turns_size])), (a_h_now_spring_curve, .inr (2, [.ref a_h_now_spring_curve_firsts, .ref a_h_now_spring_curve_seconds, .int v_now_spring_curve_size])), (a_h_now_scale, .inr (2, [.ref a_h_now_scale_firsts, .ref a_h_now_scale_seconds, .int v_now_scale_size])), (a_h_now_scale_firsts, .inl (cI, 6, .inl v_now_scale_firsts_A)), (a_h_now_scale_seconds, .inl (cI, 6, .inl v_now_scale_seconds_A)), (a_h_now_weights, .inr (6, [.ref a_h_now_weights_masses, .ref a_h_now_weights_errors, .ref a_h_now_weights_variances, .ref a_h_now_weights_parents, .ref a_h_now_weights_onPan, .int v_now_weights_size])), (a_h_now_weights_onPan, .inl (cI, 8, .inl v_now_weights_onPan_A)), (a_h_history, .inr (1, [.ref a_h_history_benches, .int v_history_size])), (a_h_text, .inr (4, [.ref a_h_text_signs, .int v_text_length, .int v_text_kind, .int v_text_number, .int v_text_digits, .int v_text_next]))] sz) := by
  refine met_go (y := yX7_count) (wsy := wsX7_count) (cc := cX7_count) (maxL := 3) (ret := (some .int)) (av := [.ref a_h, .int p0]) (Qc := fun A => QI D (ty4 cI cC cJ cB) A [(a_h, .inr (7, [.ref a_h_now, .ref a_h_history, .ref a_h_text, .ref a_h_trial, .int v_refusal])), (a_h_now, .inr (0, [.ref a_h_now_spring, .ref a_h_now_scale, .ref a_h_now_weights])), (a_h_now_spring, .inr (3, [.int v_now_spring_load, .int v_now_spring_extension, .int v_now_spring_creep, .int v_now_spring_pointer, .int v_now_spring_way, .long v_now_spring_account, .int v_now_spring_deadZone, .int v_now_spring_rate, .int v_now_spring_step, .ref a_h_now_spring_turns, .ref a_h_now_spring_curve])), (a_h_now_spring_turns, .inr (2, [.ref a_h_now_spring_turns_firsts, .ref a_h_now_spring_turns_seconds, .int v_now_spring_turns_size])), (a_h_now_spring_curve, .inr (2, [.ref a_h_now_spring_curve_firsts, .ref a_h_now_spring_curve_seconds, .int v_now_spring_curve_size])), (a_h_now_scale, .inr (2, [.ref a_h_now_scale_firsts, .ref a_h_now_scale_seconds, .int v_now_scale_size])), (a_h_now_scale_firsts, .inl (cI, 6, .inl v_now_scale_firsts_A)), (a_h_now_scale_seconds, .inl (cI, 6, .inl v_now_scale_seconds_A)), (a_h_now_weights, .inr (6, [.ref a_h_now_weights_masses, .ref a_h_now_weights_errors, .ref a_h_now_weights_variances, .ref a_h_now_weights_parents, .ref a_h_now_weights_onPan, .int v_now_weights_size])), (a_h_now_weights_onPan, .inl (cI, 8, .inl v_now_weights_onPan_A)), (a_h_history, .inr (1, [.ref a_h_history_benches, .int v_history_size])), (a_h_text, .inr (4, [.ref a_h_text_signs, .int v_text_length, .int v_text_kind, .int v_text_number, .int v_text_digits, .int v_text_next]))] u) (by decide) rfl (Nat.le_of_ble_eq_true rfl) ?_
  intro p e s m below meth c A ls hx hb hr hml hown hts hlocks hnm hN hK hP hD hS hA hl
  have h := hu
  clear hu
  unfold f_X7_count at h
  have hl : lv_has ls 3 [(0, .ref a_h), (1, .int p0)] := hl
  refine lv_aload_n hx hb dX7_count_0 rfl (lv_at hl 0 rfl) ?_
  refine va_get (D := D) (ci := 7) (v := .ref a_h_now) (C := RX7) (T := TX7) (N := 5) hx hb hts in_X7_count_X7 hown hK hP 0 rfl rfl 0 (by decide) (hts _ q_X7_count_1) (fun _ h9 => h9) rfl dX7_count_1 ?_
  refine va_getN (D := D) (ci := 0) (v := .ref a_h_now_spring) (C := RX0) (T := TX0) (N := 3) hx hb hts in_X7_count_X0 hown hK hP 1 rfl rfl 0 (by decide) (NN.f hN 16 rfl) (fun _ h9 => h9) rfl dX7_count_4 ?_
  refine lv_astore_n (lv' := [(2, .ref a_h_now_spring), (0, .ref a_h), (1, .int p0)]) hx hb dX7_count_7 rfl hl (by decide) rfl (fun ls hl => ?_)
  refine lv_iload_n hx hb dX7_count_8 rfl (lv_at hl 2 rfl) ?_
  by_cases hc1 : p0 = (0 : Int32)
  · replace h := it_e hc1 h
    refine lv_tableIn (off := 79) (tgt := 88) hx hb dX7_count_9 (by rw [hc1]; decide) (by rw [hc1]; decide) (by rw [hc1]; rfl) (by decide) ?_
    refine lv_aload_n hx hb dX7_count_88 rfl (lv_at hl 0 rfl) ?_
    refine va_getN (D := D) (ci := 3) (v := .int v_now_spring_load) (C := RX3) (T := TX3) (N := 11) hx hb hts in_X7_count_X3 hown hK hP 2 rfl rfl 0 (by decide) (NN.f hN 3 rfl) (fun _ h9 => h9) rfl dX7_count_89 ?_
    obtain rfl := sm_e h
    exact rx_i hx hb hr  hP hK hD hS dX7_count_92 hlocks
  · replace h := if_e hc1 h
    by_cases hc2 : p0 = (1 : Int32)
    · replace h := it_e hc2 h
      refine lv_tableIn (off := 84) (tgt := 93) hx hb dX7_count_9 (by rw [hc2]; decide) (by rw [hc2]; decide) (by rw [hc2]; rfl) (by decide) ?_
      refine lv_aload_n hx hb dX7_count_93 rfl (lv_at hl 0 rfl) ?_
      refine va_getN (D := D) (ci := 3) (v := .int v_now_spring_extension) (C := RX3) (T := TX3) (N := 11) hx hb hts in_X7_count_X3 hown hK hP 2 rfl rfl 1 (by decide) (NN.f hN 4 rfl) (fun _ h9 => h9) rfl dX7_count_94 ?_
      obtain rfl := sm_e h
      exact rx_i hx hb hr  hP hK hD hS dX7_count_97 hlocks
    · replace h := if_e hc2 h
      by_cases hc3 : p0 = (2 : Int32)
      · replace h := it_e hc3 h
        refine lv_tableIn (off := 89) (tgt := 98) hx hb dX7_count_9 (by rw [hc3]; decide) (by rw [hc3]; decide) (by rw [hc3]; rfl) (by decide) ?_
        refine lv_aload_n hx hb dX7_count_98 rfl (lv_at hl 0 rfl) ?_
        refine va_getN (D := D) (ci := 3) (v := .int v_now_spring_creep) (C := RX3) (T := TX3) (N := 11) hx hb hts in_X7_count_X3 hown hK hP 2 rfl rfl 2 (by decide) (NN.f hN 5 rfl) (fun _ h9 => h9) rfl dX7_count_99 ?_
        obtain rfl := sm_e h
        exact rx_i hx hb hr  hP hK hD hS dX7_count_102 hlocks
      · replace h := if_e hc3 h
        by_cases hc4 : p0 = (3 : Int32)
        · replace h := it_e hc4 h
          refine lv_tableIn (off := 94) (tgt := 103) hx hb dX7_count_9 (by rw [hc4]; decide) (by rw [hc4]; decide) (by rw [hc4]; rfl) (by decide) ?_
          refine lv_aload_n hx hb dX7_count_103 rfl (lv_at hl 0 rfl) ?_
          refine va_getN (D := D) (ci := 3) (v := .int v_now_spring_pointer) (C := RX3) (T := TX3) (N := 11) hx hb hts in_X7_count_X3 hown hK hP 2 rfl rfl 3 (by decide) (NN.f hN 7 rfl) (fun _ h9 => h9) rfl dX7_count_104 ?_
          obtain rfl := sm_e h
          exact rx_i hx hb hr  hP hK hD hS dX7_count_107 hlocks
        · replace h := if_e hc4 h
          by_cases hc5 : p0 = (4 : Int32)
          · replace h := it_e hc5 h
            refine lv_tableIn (off := 99) (tgt := 108) hx hb dX7_count_9 (by rw [hc5]; decide) (by rw [hc5]; decide) (by rw [hc5]; rfl) (by decide) ?_
            refine lv_aload_n hx hb dX7_count_108 rfl (lv_at hl 1 rfl) ?_
            refine va_get (D := D) (ci := 7) (v := .ref a_h_now) (C := RX7) (T := TX7) (N := 5) hx hb hts in_X7_count_X7 hown hK hP 0 rfl rfl 0 (by decide) (hts _ q_X7_count_1) (fun _ h9 => h9) rfl dX7_count_109 ?_
            obtain ⟨u6, hu6, h⟩ := bd_e h
            refine kx_i (mc := 0) (ms := 0) (wr := [(a_h, .inr (7, [.ref a_h_now, .ref a_h_history, .ref a_h_text, .ref a_h_trial, .int v_refusal])), (a_h_now_spring_turns, .inr (2, [.ref a_h_now_spring_turns_firsts, .ref a_h_now_spring_turns_seconds, .int v_now_spring_turns_size])), (a_h_now_spring_curve, .inr (2, [.ref a_h_now_spring_curve_firsts, .ref a_h_now_spring_curve_seconds, .int v_now_spring_curve_size])), (a_h_now_weights, .inr (6, [.ref a_h_now_weights_masses, .ref a_h_now_weights_errors, .ref a_h_now_weights_variances, .ref a_h_now_weights_parents, .ref a_h_now_weights_onPan, .int v_now_weights_size])), (a_h_now_weights_onPan, .inl (cI, 8, .inl v_now_weights_onPan_A)), (a_h_history, .inr (1, [.ref a_h_history_benches, .int v_history_size])), (a_h_text, .inr (4, [.ref a_h_text_signs, .int v_text_length, .int v_text_kind, .int v_text_number, .int v_text_digits, .int v_text_next]))]) (ws2 := [(a_h, .inr (7, [.ref a_h_now, .ref a_h_history, .ref a_h_text, .ref a_h_trial, .int v_refusal])), (a_h_now, .inr (0, [.ref a_h_now_spring, .ref a_h_now_scale, .ref a_h_now_weights])), (a_h_now_spring, .inr (3, [.int v_now_spring_load, .int v_now_spring_extension, .int v_now_spring_creep, .int v_now_spring_pointer, .int v_now_spring_way, .long v_now_spring_account, .int v_now_spring_deadZone, .int v_now_spring_rate, .int v_now_spring_step, .ref a_h_now_spring_turns, .ref a_h_now_spring_curve])), (a_h_now_spring_turns, .inr (2, [.ref a_h_now_spring_turns_firsts, .ref a_h_now_spring_turns_seconds, .int v_now_spring_turns_size])), (a_h_now_spring_curve, .inr (2, [.ref a_h_now_spring_curve_firsts, .ref a_h_now_spring_curve_seconds, .int v_now_spring_curve_size])), (a_h_now_scale, .inr (2, [.ref a_h_now_scale_firsts, .ref a_h_now_scale_seconds, .int v_now_scale_size])), (a_h_now_scale_firsts, .inl (cI, 6, .inl v_now_scale_firsts_A)), (a_h_now_scale_seconds, .inl (cI, 6, .inl v_now_scale_seconds_A)), (a_h_now_weights, .inr (6, [.ref a_h_now_weights_masses, .ref a_h_now_weights_errors, .ref a_h_now_weights_variances, .ref a_h_now_weights_parents, .ref a_h_now_weights_onPan, .int v_now_weights_size])), (a_h_now_weights_onPan, .inl (cI, 8, .inl v_now_weights_onPan_A)), (a_h_history, .inr (1, [.ref a_h_history_benches, .int v_history_size])), (a_h_text, .inr (4, [.ref a_h_text_signs, .int v_text_length, .int v_text_kind, .int v_text_number, .int v_text_digits, .int v_text_next]))]) (va_runVN (As := []) (rest := []) ⟨hx, hb, hml, hown, hts⟩ (k_X0_reading l D cI cC cJ cB a_h_now a_h_now_spring a_h_now_scale a_h_now_weights a_h_now_spring_turns a_h_now_spring_curve a_h_now_scale_firsts a_h_now_scale_seconds 6 v_now_spring_load v_now_spring_extension v_now_spring_creep v_now_spring_pointer v_now_spring_way v_now_spring_account v_now_spring_deadZone v_now_spring_rate v_now_spring_step v_now_scale_size v_now_scale_firsts_A v_now_scale_seconds_A N s.heap.size _ hu6) ⟨va_cnB 0 hts gX7_count_X0_reading_n63 rfl rfl rfl (hN.m 26 rfl) (hts _ q_X7_count_6) (by decide +kernel) ⟨Nat.le_of_ble_eq_true rfl, Nat.le_of_ble_eq_true rfl⟩, (hts _ q_X7_count_5), (hts _ q_X7_count_7)⟩ (pv_V hP hD hK hN [1, 2, 5, 6, 7] rfl rfl (ci := 0) rfl 1 rfl) rfl rfl hl.1 rfl (lv_room (Nat.le_of_ble_eq_true rfl)) dX7_count_112 ⟨Nat.zero_le _, Nat.zero_le _⟩) hP hD hS hA [1, 2, 5, 6, 7] [0, 3, 4, 8, 9, 10, 11] [0, 7, 8, 1, 2, 9, 10, 11, 3, 4, 5, 6] rfl rfl rfl rfl rfl rfl (fun H locs hP hD hS => ?_)
            obtain rfl := sm_e h
            exact rx_i hx hb hr  hP hK hD hS dX7_count_115 hlocks
          · replace h := if_e hc5 h
            by_cases hc7 : p0 = (5 : Int32)
            · replace h := it_e hc7 h
              refine lv_tableIn (off := 107) (tgt := 116) hx hb dX7_count_9 (by rw [hc7]; decide) (by rw [hc7]; decide) (by rw [hc7]; rfl) (by decide) ?_
              refine lv_aload_n hx hb dX7_count_116 rfl (lv_at hl 0 rfl) ?_
              refine va_getN (D := D) (ci := 3) (v := .ref a_h_now_spring_turns) (C := RX3) (T := TX3) (N := 11) hx hb hts in_X7_count_X3 hown hK hP 2 rfl rfl 9 (by decide) (NN.f hN 13 rfl) (fun _ h9 => h9) rfl dX7_count_117 ?_
              refine va_getN (D := D) (ci := 2) (v := .int v_now_spring_turns_size) (C := RX2) (T := TX2) (N := 3) hx hb hts in_X7_count_X2 hown hK hP 3 rfl rfl 2 (by decide) (NN.f hN 1 rfl) (fun _ h9 => h9) rfl dX7_count_120 ?_
              obtain rfl := sm_e h
              exact rx_i hx hb hr  hP hK hD hS dX7_count_123 hlocks
            · replace h := if_e hc7 h
              by_cases hc8 : p0 = (6 : Int32)
              · replace h := it_e hc8 h
                refine lv_tableIn (off := 115) (tgt := 124) hx hb dX7_count_9 (by rw [hc8]; decide) (by rw [hc8]; decide) (by rw [hc8]; rfl) (by decide) ?_
                refine lv_aload_n hx hb dX7_count_124 rfl (lv_at hl 0 rfl) ?_
                refine va_getN (D := D) (ci := 3) (v := .int v_now_spring_way) (C := RX3) (T := TX3) (N := 11) hx hb hts in_X7_count_X3 hown hK hP 2 rfl rfl 4 (by decide) (NN.f hN 8 rfl) (fun _ h9 => h9) rfl dX7_count_125 ?_
                obtain rfl := sm_e h
                exact rx_i hx hb hr  hP hK hD hS dX7_count_128 hlocks
              · replace h := if_e hc8 h
                by_cases hc9 : p0 = (7 : Int32)
                · replace h := it_e hc9 h
                  refine lv_tableIn (off := 120) (tgt := 129) hx hb dX7_count_9 (by rw [hc9]; decide) (by rw [hc9]; decide) (by rw [hc9]; rfl) (by decide) ?_
                  refine lv_aload_n hx hb dX7_count_129 rfl (lv_at hl 1 rfl) ?_
                  refine va_get (D := D) (ci := 7) (v := .ref a_h_now) (C := RX7) (T := TX7) (N := 5) hx hb hts in_X7_count_X7 hown hK hP 0 rfl rfl 0 (by decide) (hts _ q_X7_count_1) (fun _ h9 => h9) rfl dX7_count_130 ?_
                  refine va_getN (D := D) (ci := 0) (v := .ref a_h_now_weights) (C := RX0) (T := TX0) (N := 3) hx hb hts in_X7_count_X0 hown hK hP 1 rfl rfl 2 (by decide) (NN.f hN 18 rfl) (fun _ h9 => h9) rfl dX7_count_133 ?_
                  refine va_getN (D := D) (ci := 6) (v := .int v_now_weights_size) (C := RX6) (T := TX6) (N := 6) hx hb hts in_X7_count_X6 hown hK hP 8 rfl rfl 5 (by decide) (NN.f hN 15 rfl) (fun _ h9 => h9) rfl dX7_count_136 ?_
                  obtain rfl := sm_e h
                  exact rx_i hx hb hr  hP hK hD hS dX7_count_139 hlocks
                · replace h := if_e hc9 h
                  by_cases hc10 : p0 = (8 : Int32)
                  · replace h := it_e hc10 h
                    refine lv_tableIn (off := 131) (tgt := 140) hx hb dX7_count_9 (by rw [hc10]; decide) (by rw [hc10]; decide) (by rw [hc10]; rfl) (by decide) ?_
                    refine lv_aload_n hx hb dX7_count_140 rfl (lv_at hl 1 rfl) ?_
                    refine va_get (D := D) (ci := 7) (v := .ref a_h_now) (C := RX7) (T := TX7) (N := 5) hx hb hts in_X7_count_X7 hown hK hP 0 rfl rfl 0 (by decide) (hts _ q_X7_count_1) (fun _ h9 => h9) rfl dX7_count_141 ?_
                    refine va_getN (D := D) (ci := 0) (v := .ref a_h_now_weights) (C := RX0) (T := TX0) (N := 3) hx hb hts in_X7_count_X0 hown hK hP 1 rfl rfl 2 (by decide) (NN.f hN 18 rfl) (fun _ h9 => h9) rfl dX7_count_144 ?_
                    obtain ⟨u11, hu11, h⟩ := bd_e h
                    refine kx_i (mc := 0) (ms := 0) (wr := [(a_h, .inr (7, [.ref a_h_now, .ref a_h_history, .ref a_h_text, .ref a_h_trial, .int v_refusal])), (a_h_now, .inr (0, [.ref a_h_now_spring, .ref a_h_now_scale, .ref a_h_now_weights])), (a_h_now_spring, .inr (3, [.int v_now_spring_load, .int v_now_spring_extension, .int v_now_spring_creep, .int v_now_spring_pointer, .int v_now_spring_way, .long v_now_spring_account, .int v_now_spring_deadZone, .int v_now_spring_rate, .int v_now_spring_step, .ref a_h_now_spring_turns, .ref a_h_now_spring_curve])), (a_h_now_spring_turns, .inr (2, [.ref a_h_now_spring_turns_firsts, .ref a_h_now_spring_turns_seconds, .int v_now_spring_turns_size])), (a_h_now_spring_curve, .inr (2, [.ref a_h_now_spring_curve_firsts, .ref a_h_now_spring_curve_seconds, .int v_now_spring_curve_size])), (a_h_now_scale, .inr (2, [.ref a_h_now_scale_firsts, .ref a_h_now_scale_seconds, .int v_now_scale_size])), (a_h_now_scale_firsts, .inl (cI, 6, .inl v_now_scale_firsts_A)), (a_h_now_scale_seconds, .inl (cI, 6, .inl v_now_scale_seconds_A)), (a_h_history, .inr (1, [.ref a_h_history_benches, .int v_history_size])), (a_h_text, .inr (4, [.ref a_h_text_signs, .int v_text_length, .int v_text_kind, .int v_text_number, .int v_text_digits, .int v_text_next]))]) (ws2 := [(a_h, .inr (7, [.ref a_h_now, .ref a_h_history, .ref a_h_text, .ref a_h_trial, .int v_refusal])), (a_h_now, .inr (0, [.ref a_h_now_spring, .ref a_h_now_scale, .ref a_h_now_weights])), (a_h_now_spring, .inr (3, [.int v_now_spring_load, .int v_now_spring_extension, .int v_now_spring_creep, .int v_now_spring_pointer, .int v_now_spring_way, .long v_now_spring_account, .int v_now_spring_deadZone, .int v_now_spring_rate, .int v_now_spring_step, .ref a_h_now_spring_turns, .ref a_h_now_spring_curve])), (a_h_now_spring_turns, .inr (2, [.ref a_h_now_spring_turns_firsts, .ref a_h_now_spring_turns_seconds, .int v_now_spring_turns_size])), (a_h_now_spring_curve, .inr (2, [.ref a_h_now_spring_curve_firsts, .ref a_h_now_spring_curve_seconds, .int v_now_spring_curve_size])), (a_h_now_scale, .inr (2, [.ref a_h_now_scale_firsts, .ref a_h_now_scale_seconds, .int v_now_scale_size])), (a_h_now_scale_firsts, .inl (cI, 6, .inl v_now_scale_firsts_A)), (a_h_now_scale_seconds, .inl (cI, 6, .inl v_now_scale_seconds_A)), (a_h_now_weights, .inr (6, [.ref a_h_now_weights_masses, .ref a_h_now_weights_errors, .ref a_h_now_weights_variances, .ref a_h_now_weights_parents, .ref a_h_now_weights_onPan, .int v_now_weights_size])), (a_h_now_weights_onPan, .inl (cI, 8, .inl v_now_weights_onPan_A)), (a_h_history, .inr (1, [.ref a_h_history_benches, .int v_history_size])), (a_h_text, .inr (4, [.ref a_h_text_signs, .int v_text_length, .int v_text_kind, .int v_text_number, .int v_text_digits, .int v_text_next]))]) (va_runVN (As := []) (rest := []) ⟨hx, hb, hml, hown, hts⟩ (k_X6_numberOnPan l D cI cC cJ cB a_h_now_weights a_h_now_weights_masses a_h_now_weights_errors a_h_now_weights_variances a_h_now_weights_parents a_h_now_weights_onPan v_now_weights_size v_now_weights_onPan_A N s.heap.size _ hu11) ⟨va_cnB 0 hts gX7_count_X6_numberOnPan_n125 rfl rfl rfl (hN.m 32 rfl) (hts _ q_X7_count_31) (by decide +kernel) ⟨Nat.le_of_ble_eq_true rfl, Nat.le_of_ble_eq_true rfl⟩, (hts _ q_X7_count_30), (hts _ q_X7_count_32)⟩ (pv_V hP hD hK hN [8, 9] rfl rfl (ci := 6) rfl 8 rfl) rfl rfl hl.1 rfl (lv_room (Nat.le_of_ble_eq_true rfl)) dX7_count_147 ⟨Nat.zero_le _, Nat.zero_le _⟩) hP hD hS hA [8, 9] [0, 1, 2, 3, 4, 5, 6, 7, 10, 11] [0, 1, 2, 3, 4, 5, 6, 7, 10, 11, 8, 9] rfl rfl rfl rfl rfl rfl (fun H locs hP hD hS => ?_)
                    obtain rfl := sm_e h
                    exact rx_i hx hb hr  hP hK hD hS dX7_count_150 hlocks
                  · replace h := if_e hc10 h
                    by_cases hc12 : p0 = (9 : Int32)
                    · replace h := it_e hc12 h
                      refine lv_tableIn (off := 142) (tgt := 151) hx hb dX7_count_9 (by rw [hc12]; decide) (by rw [hc12]; decide) (by rw [hc12]; rfl) (by decide) ?_
                      refine lv_aload_n hx hb dX7_count_151 rfl (lv_at hl 1 rfl) ?_
                      refine va_get (D := D) (ci := 7) (v := .ref a_h_history) (C := RX7) (T := TX7) (N := 5) hx hb hts in_X7_count_X7 hown hK hP 0 rfl rfl 1 (by decide) (hts _ q_X7_count_2) (fun _ h9 => h9) rfl dX7_count_152 ?_
                      refine va_getN (D := D) (ci := 1) (v := .int v_history_size) (C := RX1) (T := TX1) (N := 2) hx hb hts in_X7_count_X1 hown hK hP 10 rfl rfl 1 (by decide) (NN.f hN 19 rfl) (fun _ h9 => h9) rfl dX7_count_155 ?_
                      obtain rfl := sm_e h
                      exact rx_i hx hb hr  hP hK hD hS dX7_count_158 hlocks
                    · replace h := if_e hc12 h
                      by_cases hc13 : p0 = (10 : Int32)
                      · replace h := it_e hc13 h
                        refine lv_tableIn (off := 150) (tgt := 159) hx hb dX7_count_9 (by rw [hc13]; decide) (by rw [hc13]; decide) (by rw [hc13]; rfl) (by decide) ?_
                        refine lv_aload_n hx hb dX7_count_159 rfl (lv_at hl 1 rfl) ?_
                        refine va_get (D := D) (ci := 7) (v := .ref a_h_text) (C := RX7) (T := TX7) (N := 5) hx hb hts in_X7_count_X7 hown hK hP 0 rfl rfl 2 (by decide) (hts _ q_X7_count_3) (fun _ h9 => h9) rfl dX7_count_160 ?_
                        refine va_getN (D := D) (ci := 4) (v := .int v_text_length) (C := RX4) (T := TX4) (N := 6) hx hb hts in_X7_count_X4 hown hK hP 11 rfl rfl 1 (by decide) (NN.f hN 20 rfl) (fun _ h9 => h9) rfl dX7_count_163 ?_
                        obtain rfl := sm_e h
                        exact rx_i hx hb hr  hP hK hD hS dX7_count_166 hlocks
                      · replace h := if_e hc13 h
                        by_cases hc14 : p0 = (11 : Int32)
                        · replace h := it_e hc14 h
                          refine lv_tableIn (off := 158) (tgt := 167) hx hb dX7_count_9 (by rw [hc14]; decide) (by rw [hc14]; decide) (by rw [hc14]; rfl) (by decide) ?_
                          refine lv_aload_n hx hb dX7_count_167 rfl (lv_at hl 0 rfl) ?_
                          refine va_getN (D := D) (ci := 3) (v := .ref a_h_now_spring_curve) (C := RX3) (T := TX3) (N := 11) hx hb hts in_X7_count_X3 hown hK hP 2 rfl rfl 10 (by decide) (NN.f hN 14 rfl) (fun _ h9 => h9) rfl dX7_count_168 ?_
                          refine va_getN (D := D) (ci := 2) (v := .int v_now_spring_curve_size) (C := RX2) (T := TX2) (N := 3) hx hb hts in_X7_count_X2 hown hK hP 4 rfl rfl 2 (by decide) (NN.f hN 1 rfl) (fun _ h9 => h9) rfl dX7_count_171 ?_
                          obtain rfl := sm_e h
                          exact rx_i hx hb hr  hP hK hD hS dX7_count_174 hlocks
                        · replace h := if_e hc14 h
                          by_cases hc15 : p0 = (12 : Int32)
                          · replace h := it_e hc15 h
                            refine lv_tableIn (off := 166) (tgt := 175) hx hb dX7_count_9 (by rw [hc15]; decide) (by rw [hc15]; decide) (by rw [hc15]; rfl) (by decide) ?_
                            refine lv_aload_n hx hb dX7_count_175 rfl (lv_at hl 1 rfl) ?_
                            refine va_get (D := D) (ci := 7) (v := .ref a_h_now) (C := RX7) (T := TX7) (N := 5) hx hb hts in_X7_count_X7 hown hK hP 0 rfl rfl 0 (by decide) (hts _ q_X7_count_1) (fun _ h9 => h9) rfl dX7_count_176 ?_
                            refine va_getN (D := D) (ci := 0) (v := .ref a_h_now_scale) (C := RX0) (T := TX0) (N := 3) hx hb hts in_X7_count_X0 hown hK hP 1 rfl rfl 1 (by decide) (NN.f hN 17 rfl) (fun _ h9 => h9) rfl dX7_count_179 ?_
                            refine va_getN (D := D) (ci := 2) (v := .int v_now_scale_size) (C := RX2) (T := TX2) (N := 3) hx hb hts in_X7_count_X2 hown hK hP 5 rfl rfl 2 (by decide) (NN.f hN 1 rfl) (fun _ h9 => h9) rfl dX7_count_182 ?_
                            obtain rfl := sm_e h
                            exact rx_i hx hb hr  hP hK hD hS dX7_count_185 hlocks
                          · replace h := if_e hc15 h
                            by_cases hc16 : p0 = (13 : Int32)
                            · replace h := it_e hc16 h
                              refine lv_tableIn (off := 177) (tgt := 186) hx hb dX7_count_9 (by rw [hc16]; decide) (by rw [hc16]; decide) (by rw [hc16]; rfl) (by decide) ?_
                              refine lv_aload_n hx hb dX7_count_186 rfl (lv_at hl 0 rfl) ?_
                              refine va_getN (D := D) (ci := 3) (v := .int v_now_spring_deadZone) (C := RX3) (T := TX3) (N := 11) hx hb hts in_X7_count_X3 hown hK hP 2 rfl rfl 6 (by decide) (NN.f hN 10 rfl) (fun _ h9 => h9) rfl dX7_count_187 ?_
                              obtain rfl := sm_e h
                              exact rx_i hx hb hr  hP hK hD hS dX7_count_190 hlocks
                            · replace h := if_e hc16 h
                              by_cases hc17 : p0 = (14 : Int32)
                              · replace h := it_e hc17 h
                                refine lv_tableIn (off := 182) (tgt := 191) hx hb dX7_count_9 (by rw [hc17]; decide) (by rw [hc17]; decide) (by rw [hc17]; rfl) (by decide) ?_
                                refine lv_aload_n hx hb dX7_count_191 rfl (lv_at hl 0 rfl) ?_
                                refine va_getN (D := D) (ci := 3) (v := .int v_now_spring_rate) (C := RX3) (T := TX3) (N := 11) hx hb hts in_X7_count_X3 hown hK hP 2 rfl rfl 7 (by decide) (NN.f hN 11 rfl) (fun _ h9 => h9) rfl dX7_count_192 ?_
                                obtain rfl := sm_e h
                                exact rx_i hx hb hr  hP hK hD hS dX7_count_195 hlocks
                              · replace h := if_e hc17 h
                                by_cases hc18 : p0 = (15 : Int32)
                                · replace h := it_e hc18 h
                                  refine lv_tableIn (off := 187) (tgt := 196) hx hb dX7_count_9 (by rw [hc18]; decide) (by rw [hc18]; decide) (by rw [hc18]; rfl) (by decide) ?_
                                  refine lv_aload_n hx hb dX7_count_196 rfl (lv_at hl 0 rfl) ?_
                                  refine va_getN (D := D) (ci := 3) (v := .int v_now_spring_step) (C := RX3) (T := TX3) (N := 11) hx hb hts in_X7_count_X3 hown hK hP 2 rfl rfl 8 (by decide) (NN.f hN 12 rfl) (fun _ h9 => h9) rfl dX7_count_197 ?_
                                  obtain rfl := sm_e h
                                  exact rx_i hx hb hr  hP hK hD hS dX7_count_200 hlocks
                                · replace h := if_e hc18 h
                                  refine lv_tableOut (tgt := 201) hx hb dX7_count_9 (sw_out 0 15 (fun k h1 h2 hk => by
                                    have hc9 : k = 0 ∨ k = 1 ∨ k = 2 ∨ k = 3 ∨ k = 4 ∨ k = 5 ∨ k = 6 ∨ k = 7 ∨ k = 8 ∨ k = 9 ∨ k = 10 ∨ k = 11 ∨ k = 12 ∨ k = 13 ∨ k = 14 ∨ k = 15 := by omega
                                    rcases hc9 with rfl | rfl | rfl | rfl | rfl | rfl | rfl | rfl | rfl | rfl | rfl | rfl | rfl | rfl | rfl | rfl
                                    · exact hc1 (Int32.toInt_inj.mp hk)
                                    · exact hc2 (Int32.toInt_inj.mp hk)
                                    · exact hc3 (Int32.toInt_inj.mp hk)
                                    · exact hc4 (Int32.toInt_inj.mp hk)
                                    · exact hc5 (Int32.toInt_inj.mp hk)
                                    · exact hc7 (Int32.toInt_inj.mp hk)
                                    · exact hc8 (Int32.toInt_inj.mp hk)
                                    · exact hc9 (Int32.toInt_inj.mp hk)
                                    · exact hc10 (Int32.toInt_inj.mp hk)
                                    · exact hc12 (Int32.toInt_inj.mp hk)
                                    · exact hc13 (Int32.toInt_inj.mp hk)
                                    · exact hc14 (Int32.toInt_inj.mp hk)
                                    · exact hc15 (Int32.toInt_inj.mp hk)
                                    · exact hc16 (Int32.toInt_inj.mp hk)
                                    · exact hc17 (Int32.toInt_inj.mp hk)
                                    · exact hc18 (Int32.toInt_inj.mp hk))) (by decide) ?_
                                  refine lv_ldc (v := (-2000000001 : Int32)) hx hb hown (hts _ q_X7_count_4) dX7_count_201 ?_
                                  obtain rfl := sm_e h
                                  exact rx_i hx hb hr  hP hK hD hS dX7_count_203 hlocks
-- X7_turning
def f_X7_turning (v_now_spring_turns_size : Int32) (v_now_spring_turns_firsts_A : Nat → Int32) (v_now_spring_turns_seconds_A : Nat → Int32) (p0 : Int32) (p1 : Int32) : Option (Int32) :=
  (if p0 < 0 then some (-2000000001 : Int32)
    else Option.bind (f_X7_isOutside p1 (0 : Int32) (1 : Int32)) (fun u2 => (if u2 = 0 then Option.bind (f_X2_found 1001 v_now_spring_turns_size v_now_spring_turns_firsts_A v_now_spring_turns_seconds_A p0 p1) (fun u4 => some u4)
    else some (-2000000001 : Int32))))
theorem q_X7_turning_1 : (.constant RX7 41 (-2000000001) : Cond) ∈ wsX7_turning := List.mem_of_getElem? (i := 1) (by decide +kernel)
theorem q_X7_turning_2 : (.fieldLink RX7 12 "SpringBalance" "now" "LSpringBalance$Bench;" : Cond) ∈ wsX7_turning := List.mem_of_getElem? (i := 2) (by decide +kernel)
set_option maxRecDepth 20000 in
theorem in_X7_turning_X7 : ∀ w ∈ u_ws RX7 TX7 5, w ∈ wsX7_turning := by decide +kernel
set_option maxRecDepth 20000 in
theorem in_X7_turning_X0 : ∀ w ∈ u_ws RX0 TX0 3, w ∈ wsX7_turning := by decide +kernel
set_option maxRecDepth 20000 in
theorem in_X7_turning_X3 : ∀ w ∈ u_ws RX3 TX3 11, w ∈ wsX7_turning := by decide +kernel
theorem q_X7_turning_8 : (.initialized RX2 : Cond) ∈ wsX7_turning := List.mem_of_getElem? (i := 8) (by decide +kernel)
theorem q_X7_turning_7 : (.instanceMethod yX2_found : Cond) ∈ wsX7_turning := List.mem_of_getElem? (i := 7) (by decide +kernel)
theorem q_X7_turning_9 : (.selects RX2 yX2_found yX2_found : Cond) ∈ wsX7_turning := List.mem_of_getElem? (i := 9) (by decide +kernel)
set_option maxHeartbeats 8000000 in
set_option maxRecDepth 100000 in
theorem k_X7_turning (l : Launch) (D : va_G) (cI cC cJ cB : ClassId) (a_h a_h_now a_h_history a_h_text a_h_trial a_h_now_spring a_h_now_scale a_h_now_weights a_h_now_spring_turns a_h_now_spring_curve a_h_now_spring_turns_firsts a_h_now_spring_turns_seconds : Nat) (v_refusal : Int32) (v_now_spring_load : Int32) (v_now_spring_extension : Int32) (v_now_spring_creep : Int32) (v_now_spring_pointer : Int32) (v_now_spring_way : Int32) (v_now_spring_account : Int64) (v_now_spring_deadZone : Int32) (v_now_spring_rate : Int32) (v_now_spring_step : Int32) (v_now_spring_turns_size : Int32) (v_now_spring_turns_firsts_A : Nat → Int32) (v_now_spring_turns_seconds_A : Nat → Int32) (N : Nat) (p0 : Int32) (p1 : Int32) (sz : Nat) (u : Int32) (hu : f_X7_turning v_now_spring_turns_size v_now_spring_turns_firsts_A v_now_spring_turns_seconds_A p0 p1 = some u) :
    Met l yX7_turning wsX7_turning ({ frames := 2, cells := 0, slots := 0, locals := 43 } : Room) (va_Pc [.ref a_h, .int p0, .int p1] (PreW D (ty4 cI cC cJ cB) sz [(a_h, .inr (7, [.ref a_h_now, .ref a_h_history, .ref a_h_text, .ref a_h_trial, .int v_refusal])), (a_h_now, .inr (0, [.ref a_h_now_spring, .ref a_h_now_scale, .ref a_h_now_weights])), (a_h_now_spring, .inr (3, [.int v_now_spring_load, .int v_now_spring_extension, .int v_now_spring_creep, .int v_now_spring_pointer, .int v_now_spring_way, .long v_now_spring_account, .int v_now_spring_deadZone, .int v_now_spring_rate, .int v_now_spring_step, .ref a_h_now_spring_turns, .ref a_h_now_spring_curve])), (a_h_now_spring_turns, .inr (2, [.ref a_h_now_spring_turns_firsts, .ref a_h_now_spring_turns_seconds, .int v_now_spring_turns_size])), (a_h_now_spring_turns_firsts, .inl (cI, 1001, .inl v_now_spring_turns_firsts_A)), (a_h_now_spring_turns_seconds, .inl (cI, 1001, .inl v_now_spring_turns_seconds_A))]))
      (QI D (ty4 cI cC cJ cB) (va_A [(a_h, .inr (7, [.ref a_h_now, .ref a_h_history, .ref a_h_text, .ref a_h_trial, .int v_refusal])), (a_h_now, .inr (0, [.ref a_h_now_spring, .ref a_h_now_scale, .ref a_h_now_weights])), (a_h_now_spring, .inr (3, [.int v_now_spring_load, .int v_now_spring_extension, .int v_now_spring_creep, .int v_now_spring_pointer, .int v_now_spring_way, .long v_now_spring_account, .int v_now_spring_deadZone, .int v_now_spring_rate, .int v_now_spring_step, .ref a_h_now_spring_turns, .ref a_h_now_spring_curve])), (a_h_now_spring_turns, .inr (2, [.ref a_h_now_spring_turns_firsts, .ref a_h_now_spring_turns_seconds, .int v_now_spring_turns_size])), (a_h_now_spring_turns_firsts, .inl (cI, 1001, .inl v_now_spring_turns_firsts_A)), (a_h_now_spring_turns_seconds, .inl (cI, 1001, .inl v_now_spring_turns_seconds_A))] sz) [(a_h, .inr (7, [.ref a_h_now, .ref a_h_history, .ref a_h_text, .ref a_h_trial, .int v_refusal])), (a_h_now, .inr (0, [.ref a_h_now_spring, .ref a_h_now_scale, .ref a_h_now_weights])), (a_h_now_spring, .inr (3, [.int v_now_spring_load, .int v_now_spring_extension, .int v_now_spring_creep, .int v_now_spring_pointer, .int v_now_spring_way, .long v_now_spring_account, .int v_now_spring_deadZone, .int v_now_spring_rate, .int v_now_spring_step, .ref a_h_now_spring_turns, .ref a_h_now_spring_curve])), (a_h_now_spring_turns, .inr (2, [.ref a_h_now_spring_turns_firsts, .ref a_h_now_spring_turns_seconds, .int v_now_spring_turns_size])), (a_h_now_spring_turns_firsts, .inl (cI, 1001, .inl v_now_spring_turns_firsts_A)), (a_h_now_spring_turns_seconds, .inl (cI, 1001, .inl v_now_spring_turns_seconds_A))] u) 0 0 (va_A [(a_h, .inr (7, [.ref a_h_now, .ref a_h_history, .ref a_h_text, .ref a_h_trial, .int v_refusal])), (a_h_now, .inr (0, [.ref a_h_now_spring, .ref a_h_now_scale, .ref a_h_now_weights])), (a_h_now_spring, .inr (3, [.int v_now_spring_load, .int v_now_spring_extension, .int v_now_spring_creep, .int v_now_spring_pointer, .int v_now_spring_way, .long v_now_spring_account, .int v_now_spring_deadZone, .int v_now_spring_rate, .int v_now_spring_step, .ref a_h_now_spring_turns, .ref a_h_now_spring_curve])), (a_h_now_spring_turns, .inr (2, [.ref a_h_now_spring_turns_firsts, .ref a_h_now_spring_turns_seconds, .int v_now_spring_turns_size])), (a_h_now_spring_turns_firsts, .inl (cI, 1001, .inl v_now_spring_turns_firsts_A)), (a_h_now_spring_turns_seconds, .inl (cI, 1001, .inl v_now_spring_turns_seconds_A))] sz) := by
  refine met_go (y := yX7_turning) (wsy := wsX7_turning) (cc := cX7_turning) (maxL := 3) (ret := (some .int)) (av := [.ref a_h, .int p0, .int p1]) (Qc := fun A => QI D (ty4 cI cC cJ cB) A [(a_h, .inr (7, [.ref a_h_now, .ref a_h_history, .ref a_h_text, .ref a_h_trial, .int v_refusal])), (a_h_now, .inr (0, [.ref a_h_now_spring, .ref a_h_now_scale, .ref a_h_now_weights])), (a_h_now_spring, .inr (3, [.int v_now_spring_load, .int v_now_spring_extension, .int v_now_spring_creep, .int v_now_spring_pointer, .int v_now_spring_way, .long v_now_spring_account, .int v_now_spring_deadZone, .int v_now_spring_rate, .int v_now_spring_step, .ref a_h_now_spring_turns, .ref a_h_now_spring_curve])), (a_h_now_spring_turns, .inr (2, [.ref a_h_now_spring_turns_firsts, .ref a_h_now_spring_turns_seconds, .int v_now_spring_turns_size])), (a_h_now_spring_turns_firsts, .inl (cI, 1001, .inl v_now_spring_turns_firsts_A)), (a_h_now_spring_turns_seconds, .inl (cI, 1001, .inl v_now_spring_turns_seconds_A))] u) (by decide) rfl (Nat.le_of_ble_eq_true rfl) ?_
  intro p e s m below meth c A ls hx hb hr hml hown hts hlocks hnm hN hK hP hD hS hA hl
  have h := hu
  clear hu
  unfold f_X7_turning at h
  have hl : lv_has ls 3 [(0, .ref a_h), (1, .int p0), (2, .int p1)] := hl
  refine lv_iload_n hx hb dX7_turning_0 rfl (lv_at hl 1 rfl) ?_
  refine lv_if_lt (tgt := 13) hx hb dX7_turning_1 (by decide) (fun hc1 => ?_) (fun hc1 => ?_)
  · replace h := it_e hc1 h
    refine lv_ldc (v := (-2000000001 : Int32)) hx hb hown (hts _ q_X7_turning_1) dX7_turning_13 ?_
    obtain rfl := sm_e h
    exact rx_i hx hb hr  hP hK hD hS dX7_turning_15 hlocks
  · replace h := if_e hc1 h
    refine lv_iload_n hx hb dX7_turning_4 rfl (lv_at hl 2 rfl) ?_
    refine lv_iconst (v := (0 : Int32)) hx hb dX7_turning_5 (by decide) ?_
    refine lv_iconst (v := (1 : Int32)) hx hb dX7_turning_6 (by decide) ?_
    obtain ⟨u2, hu2, h⟩ := bd_e h
    refine kx_i (mc := 0) (ms := 0) (wr := [(a_h, .inr (7, [.ref a_h_now, .ref a_h_history, .ref a_h_text, .ref a_h_trial, .int v_refusal])), (a_h_now, .inr (0, [.ref a_h_now_spring, .ref a_h_now_scale, .ref a_h_now_weights])), (a_h_now_spring, .inr (3, [.int v_now_spring_load, .int v_now_spring_extension, .int v_now_spring_creep, .int v_now_spring_pointer, .int v_now_spring_way, .long v_now_spring_account, .int v_now_spring_deadZone, .int v_now_spring_rate, .int v_now_spring_step, .ref a_h_now_spring_turns, .ref a_h_now_spring_curve])), (a_h_now_spring_turns, .inr (2, [.ref a_h_now_spring_turns_firsts, .ref a_h_now_spring_turns_seconds, .int v_now_spring_turns_size])), (a_h_now_spring_turns_firsts, .inl (cI, 1001, .inl v_now_spring_turns_firsts_A)), (a_h_now_spring_turns_seconds, .inl (cI, 1001, .inl v_now_spring_turns_seconds_A))]) (ws2 := [(a_h, .inr (7, [.ref a_h_now, .ref a_h_history, .ref a_h_text, .ref a_h_trial, .int v_refusal])), (a_h_now, .inr (0, [.ref a_h_now_spring, .ref a_h_now_scale, .ref a_h_now_weights])), (a_h_now_spring, .inr (3, [.int v_now_spring_load, .int v_now_spring_extension, .int v_now_spring_creep, .int v_now_spring_pointer, .int v_now_spring_way, .long v_now_spring_account, .int v_now_spring_deadZone, .int v_now_spring_rate, .int v_now_spring_step, .ref a_h_now_spring_turns, .ref a_h_now_spring_curve])), (a_h_now_spring_turns, .inr (2, [.ref a_h_now_spring_turns_firsts, .ref a_h_now_spring_turns_seconds, .int v_now_spring_turns_size])), (a_h_now_spring_turns_firsts, .inl (cI, 1001, .inl v_now_spring_turns_firsts_A)), (a_h_now_spring_turns_seconds, .inl (cI, 1001, .inl v_now_spring_turns_seconds_A))]) (va_runS (As := [.int p1, .int (0 : Int32), .int (1 : Int32)]) (rest := []) ⟨hx, hb, hml, hown, hts⟩ (k_X7_isOutside l D cI cC cJ cB N p1 (0 : Int32) (1 : Int32) s.heap.size _ hu2) (va_cwS 3 hts gX7_turning_X7_isOutside rfl rfl rfl (by decide +kernel) ⟨Nat.le_of_ble_eq_true rfl, Nat.le_of_ble_eq_true rfl⟩) (pv_S hP hD hK hN [] rfl rfl) rfl rfl hl.1 rfl (lv_room (Nat.le_of_ble_eq_true rfl)) dX7_turning_7 ⟨Nat.zero_le _, Nat.zero_le _⟩) hP hD hS hA [] [0, 1, 2, 3, 4, 5] [0, 1, 2, 3, 4, 5] rfl rfl rfl rfl rfl rfl (fun H locs hP hD hS => ?_)
    refine lv_if_eq (tgt := 16) hx hb dX7_turning_10 (by decide) (fun hc3 => ?_) (fun hc3 => ?_)
    · replace h := it_e hc3 h
      refine lv_aload_n hx hb dX7_turning_16 rfl (lv_at hl 0 rfl) ?_
      refine va_get (D := D) (ci := 7) (v := .ref a_h_now) (C := RX7) (T := TX7) (N := 5) hx hb hts in_X7_turning_X7 hown hK hP 0 rfl rfl 0 (by decide) (hts _ q_X7_turning_2) (fun _ h9 => h9) rfl dX7_turning_17 ?_
      refine va_getN (D := D) (ci := 0) (v := .ref a_h_now_spring) (C := RX0) (T := TX0) (N := 3) hx hb hts in_X7_turning_X0 hown hK hP 1 rfl rfl 0 (by decide) (NN.f hN 16 rfl) (fun _ h9 => h9) rfl dX7_turning_20 ?_
      refine va_getN (D := D) (ci := 3) (v := .ref a_h_now_spring_turns) (C := RX3) (T := TX3) (N := 11) hx hb hts in_X7_turning_X3 hown hK hP 2 rfl rfl 9 (by decide) (NN.f hN 13 rfl) (fun _ h9 => h9) rfl dX7_turning_23 ?_
      refine lv_iload_n hx hb dX7_turning_26 rfl (lv_at hl 1 rfl) ?_
      refine lv_iload_n hx hb dX7_turning_27 rfl (lv_at hl 2 rfl) ?_
      obtain ⟨u4, hu4, h⟩ := bd_e h
      refine kx_i (mc := 0) (ms := 0) (wr := [(a_h, .inr (7, [.ref a_h_now, .ref a_h_history, .ref a_h_text, .ref a_h_trial, .int v_refusal])), (a_h_now, .inr (0, [.ref a_h_now_spring, .ref a_h_now_scale, .ref a_h_now_weights])), (a_h_now_spring, .inr (3, [.int v_now_spring_load, .int v_now_spring_extension, .int v_now_spring_creep, .int v_now_spring_pointer, .int v_now_spring_way, .long v_now_spring_account, .int v_now_spring_deadZone, .int v_now_spring_rate, .int v_now_spring_step, .ref a_h_now_spring_turns, .ref a_h_now_spring_curve]))]) (ws2 := [(a_h, .inr (7, [.ref a_h_now, .ref a_h_history, .ref a_h_text, .ref a_h_trial, .int v_refusal])), (a_h_now, .inr (0, [.ref a_h_now_spring, .ref a_h_now_scale, .ref a_h_now_weights])), (a_h_now_spring, .inr (3, [.int v_now_spring_load, .int v_now_spring_extension, .int v_now_spring_creep, .int v_now_spring_pointer, .int v_now_spring_way, .long v_now_spring_account, .int v_now_spring_deadZone, .int v_now_spring_rate, .int v_now_spring_step, .ref a_h_now_spring_turns, .ref a_h_now_spring_curve])), (a_h_now_spring_turns, .inr (2, [.ref a_h_now_spring_turns_firsts, .ref a_h_now_spring_turns_seconds, .int v_now_spring_turns_size])), (a_h_now_spring_turns_firsts, .inl (cI, 1001, .inl v_now_spring_turns_firsts_A)), (a_h_now_spring_turns_seconds, .inl (cI, 1001, .inl v_now_spring_turns_seconds_A))]) (va_runVN (As := [.int p0, .int p1]) (rest := []) ⟨hx, hb, hml, hown, hts⟩ (k_X2_found l D cI cC cJ cB a_h_now_spring_turns a_h_now_spring_turns_firsts a_h_now_spring_turns_seconds 1001 v_now_spring_turns_size v_now_spring_turns_firsts_A v_now_spring_turns_seconds_A N p0 p1 H.size _ hu4) ⟨va_cnB 2 hts gX7_turning_X2_found_n146 rfl rfl rfl (hN.m 40 rfl) (hts _ q_X7_turning_8) (by decide +kernel) ⟨Nat.le_of_ble_eq_true rfl, Nat.le_of_ble_eq_true rfl⟩, (hts _ q_X7_turning_7), (hts _ q_X7_turning_9)⟩ (pv_V hP hD hK hN [3, 4, 5] rfl rfl (ci := 2) rfl 3 rfl) rfl rfl hl.1 rfl (lv_room (Nat.le_of_ble_eq_true rfl)) dX7_turning_28 ⟨Nat.zero_le _, Nat.zero_le _⟩) hP hD hS hA [3, 4, 5] [0, 1, 2] [0, 1, 2, 3, 4, 5] rfl rfl rfl rfl rfl rfl (fun H locs hP hD hS => ?_)
      obtain rfl := sm_e h
      exact rx_i hx hb hr  hP hK hD hS dX7_turning_31 hlocks
    · replace h := if_e hc3 h
      refine lv_ldc (v := (-2000000001 : Int32)) hx hb hown (hts _ q_X7_turning_1) dX7_turning_13 ?_
      obtain rfl := sm_e h
      exact rx_i hx hb hr  hP hK hD hS dX7_turning_15 hlocks
-- X7_account
def f_X7_account (v_now_spring_account : Int64) : Option (Int64) :=
  some v_now_spring_account
theorem q_X7_account_1 : (.fieldLink RX7 12 "SpringBalance" "now" "LSpringBalance$Bench;" : Cond) ∈ wsX7_account := List.mem_of_getElem? (i := 1) (by decide +kernel)
set_option maxRecDepth 20000 in
theorem in_X7_account_X7 : ∀ w ∈ u_ws RX7 TX7 5, w ∈ wsX7_account := by decide +kernel
set_option maxRecDepth 20000 in
theorem in_X7_account_X0 : ∀ w ∈ u_ws RX0 TX0 3, w ∈ wsX7_account := by decide +kernel
set_option maxRecDepth 20000 in
theorem in_X7_account_X3 : ∀ w ∈ u_ws RX3 TX3 11, w ∈ wsX7_account := by decide +kernel
set_option maxHeartbeats 8000000 in
set_option maxRecDepth 100000 in
theorem k_X7_account (l : Launch) (D : va_G) (cI cC cJ cB : ClassId) (a_h a_h_now a_h_history a_h_text a_h_trial a_h_now_spring a_h_now_scale a_h_now_weights a_h_now_spring_turns a_h_now_spring_curve : Nat) (v_refusal : Int32) (v_now_spring_load : Int32) (v_now_spring_extension : Int32) (v_now_spring_creep : Int32) (v_now_spring_pointer : Int32) (v_now_spring_way : Int32) (v_now_spring_account : Int64) (v_now_spring_deadZone : Int32) (v_now_spring_rate : Int32) (v_now_spring_step : Int32) (N : Nat) (sz : Nat) (u : Int64) (hu : f_X7_account v_now_spring_account = some u) :
    Met l yX7_account wsX7_account ({ frames := 0, cells := 0, slots := 0, locals := 0 } : Room) (va_Pc [.ref a_h] (PreW D (ty4 cI cC cJ cB) sz [(a_h, .inr (7, [.ref a_h_now, .ref a_h_history, .ref a_h_text, .ref a_h_trial, .int v_refusal])), (a_h_now, .inr (0, [.ref a_h_now_spring, .ref a_h_now_scale, .ref a_h_now_weights])), (a_h_now_spring, .inr (3, [.int v_now_spring_load, .int v_now_spring_extension, .int v_now_spring_creep, .int v_now_spring_pointer, .int v_now_spring_way, .long v_now_spring_account, .int v_now_spring_deadZone, .int v_now_spring_rate, .int v_now_spring_step, .ref a_h_now_spring_turns, .ref a_h_now_spring_curve]))]))
      (QL D (ty4 cI cC cJ cB) (va_A [(a_h, .inr (7, [.ref a_h_now, .ref a_h_history, .ref a_h_text, .ref a_h_trial, .int v_refusal])), (a_h_now, .inr (0, [.ref a_h_now_spring, .ref a_h_now_scale, .ref a_h_now_weights])), (a_h_now_spring, .inr (3, [.int v_now_spring_load, .int v_now_spring_extension, .int v_now_spring_creep, .int v_now_spring_pointer, .int v_now_spring_way, .long v_now_spring_account, .int v_now_spring_deadZone, .int v_now_spring_rate, .int v_now_spring_step, .ref a_h_now_spring_turns, .ref a_h_now_spring_curve]))] sz) [(a_h, .inr (7, [.ref a_h_now, .ref a_h_history, .ref a_h_text, .ref a_h_trial, .int v_refusal])), (a_h_now, .inr (0, [.ref a_h_now_spring, .ref a_h_now_scale, .ref a_h_now_weights])), (a_h_now_spring, .inr (3, [.int v_now_spring_load, .int v_now_spring_extension, .int v_now_spring_creep, .int v_now_spring_pointer, .int v_now_spring_way, .long v_now_spring_account, .int v_now_spring_deadZone, .int v_now_spring_rate, .int v_now_spring_step, .ref a_h_now_spring_turns, .ref a_h_now_spring_curve]))] u) 0 0 (va_A [(a_h, .inr (7, [.ref a_h_now, .ref a_h_history, .ref a_h_text, .ref a_h_trial, .int v_refusal])), (a_h_now, .inr (0, [.ref a_h_now_spring, .ref a_h_now_scale, .ref a_h_now_weights])), (a_h_now_spring, .inr (3, [.int v_now_spring_load, .int v_now_spring_extension, .int v_now_spring_creep, .int v_now_spring_pointer, .int v_now_spring_way, .long v_now_spring_account, .int v_now_spring_deadZone, .int v_now_spring_rate, .int v_now_spring_step, .ref a_h_now_spring_turns, .ref a_h_now_spring_curve]))] sz) := by
  refine met_go (y := yX7_account) (wsy := wsX7_account) (cc := cX7_account) (maxL := 1) (ret := (some .long)) (av := [.ref a_h]) (Qc := fun A => QL D (ty4 cI cC cJ cB) A [(a_h, .inr (7, [.ref a_h_now, .ref a_h_history, .ref a_h_text, .ref a_h_trial, .int v_refusal])), (a_h_now, .inr (0, [.ref a_h_now_spring, .ref a_h_now_scale, .ref a_h_now_weights])), (a_h_now_spring, .inr (3, [.int v_now_spring_load, .int v_now_spring_extension, .int v_now_spring_creep, .int v_now_spring_pointer, .int v_now_spring_way, .long v_now_spring_account, .int v_now_spring_deadZone, .int v_now_spring_rate, .int v_now_spring_step, .ref a_h_now_spring_turns, .ref a_h_now_spring_curve]))] u) (by decide) rfl (Nat.le_of_ble_eq_true rfl) ?_
  intro p e s m below meth c A ls hx hb hr hml hown hts hlocks hnm hN hK hP hD hS hA hl
  have h := hu
  clear hu
  unfold f_X7_account at h
  have hl : lv_has ls 1 [(0, .ref a_h)] := hl
  refine lv_aload_n hx hb dX7_account_0 rfl (lv_at hl 0 rfl) ?_
  refine va_get (D := D) (ci := 7) (v := .ref a_h_now) (C := RX7) (T := TX7) (N := 5) hx hb hts in_X7_account_X7 hown hK hP 0 rfl rfl 0 (by decide) (hts _ q_X7_account_1) (fun _ h9 => h9) rfl dX7_account_1 ?_
  refine va_getN (D := D) (ci := 0) (v := .ref a_h_now_spring) (C := RX0) (T := TX0) (N := 3) hx hb hts in_X7_account_X0 hown hK hP 1 rfl rfl 0 (by decide) (NN.f hN 16 rfl) (fun _ h9 => h9) rfl dX7_account_4 ?_
  refine va_getN (D := D) (ci := 3) (v := .long v_now_spring_account) (C := RX3) (T := TX3) (N := 11) hx hb hts in_X7_account_X3 hown hK hP 2 rfl rfl 5 (by decide) (NN.f hN 9 rfl) (fun _ h9 => h9) rfl dX7_account_7 ?_
  obtain rfl := sm_e h
  exact rx_l hx hb hr  hP hK hD hS dX7_account_10 hlocks
-- X7_again
def f_X7_again (N : Nat) (v_now_spring_load : Int32) (v_now_spring_turns_size : Int32) (v_now_spring_turns_firsts_A : Nat → Int32) (v_now_spring_curve_size : Int32) (v_now_spring_curve_firsts_A : Nat → Int32) (v_now_spring_curve_seconds_A : Nat → Int32) : Option (Int32) :=
  Option.bind (f_X3_extensionFromTurns N 1001 8 v_now_spring_load v_now_spring_turns_size v_now_spring_turns_firsts_A v_now_spring_curve_size v_now_spring_curve_firsts_A v_now_spring_curve_seconds_A) (fun u1 => some u1)
theorem q_X7_again_1 : (.fieldLink RX7 12 "SpringBalance" "now" "LSpringBalance$Bench;" : Cond) ∈ wsX7_again := List.mem_of_getElem? (i := 1) (by decide +kernel)
set_option maxRecDepth 20000 in
theorem in_X7_again_X7 : ∀ w ∈ u_ws RX7 TX7 5, w ∈ wsX7_again := by decide +kernel
set_option maxRecDepth 20000 in
theorem in_X7_again_X0 : ∀ w ∈ u_ws RX0 TX0 3, w ∈ wsX7_again := by decide +kernel
theorem q_X7_again_3 : (.initialized RX3 : Cond) ∈ wsX7_again := List.mem_of_getElem? (i := 3) (by decide +kernel)
theorem q_X7_again_2 : (.instanceMethod yX3_extensionFromTurns : Cond) ∈ wsX7_again := List.mem_of_getElem? (i := 2) (by decide +kernel)
theorem q_X7_again_4 : (.selects RX3 yX3_extensionFromTurns yX3_extensionFromTurns : Cond) ∈ wsX7_again := List.mem_of_getElem? (i := 4) (by decide +kernel)
set_option maxHeartbeats 8000000 in
set_option maxRecDepth 100000 in
theorem k_X7_again (l : Launch) (D : va_G) (cI cC cJ cB : ClassId) (a_h a_h_now a_h_history a_h_text a_h_trial a_h_now_spring a_h_now_scale a_h_now_weights a_h_now_spring_turns a_h_now_spring_curve a_h_now_spring_turns_firsts a_h_now_spring_turns_seconds a_h_now_spring_curve_firsts a_h_now_spring_curve_seconds : Nat) (v_refusal : Int32) (v_now_spring_load : Int32) (v_now_spring_extension : Int32) (v_now_spring_creep : Int32) (v_now_spring_pointer : Int32) (v_now_spring_way : Int32) (v_now_spring_account : Int64) (v_now_spring_deadZone : Int32) (v_now_spring_rate : Int32) (v_now_spring_step : Int32) (v_now_spring_turns_size : Int32) (v_now_spring_turns_firsts_A : Nat → Int32) (v_now_spring_curve_size : Int32) (v_now_spring_curve_firsts_A : Nat → Int32) (v_now_spring_curve_seconds_A : Nat → Int32) (N : Nat) (sz : Nat) (u : Int32) (hu : f_X7_again N v_now_spring_load v_now_spring_turns_size v_now_spring_turns_firsts_A v_now_spring_curve_size v_now_spring_curve_firsts_A v_now_spring_curve_seconds_A = some u) :
    Met l yX7_again wsX7_again ({ frames := 3, cells := 0, slots := 0, locals := 74 } : Room) (va_Pc [.ref a_h] (PreW D (ty4 cI cC cJ cB) sz [(a_h, .inr (7, [.ref a_h_now, .ref a_h_history, .ref a_h_text, .ref a_h_trial, .int v_refusal])), (a_h_now, .inr (0, [.ref a_h_now_spring, .ref a_h_now_scale, .ref a_h_now_weights])), (a_h_now_spring, .inr (3, [.int v_now_spring_load, .int v_now_spring_extension, .int v_now_spring_creep, .int v_now_spring_pointer, .int v_now_spring_way, .long v_now_spring_account, .int v_now_spring_deadZone, .int v_now_spring_rate, .int v_now_spring_step, .ref a_h_now_spring_turns, .ref a_h_now_spring_curve])), (a_h_now_spring_turns, .inr (2, [.ref a_h_now_spring_turns_firsts, .ref a_h_now_spring_turns_seconds, .int v_now_spring_turns_size])), (a_h_now_spring_turns_firsts, .inl (cI, 1001, .inl v_now_spring_turns_firsts_A)), (a_h_now_spring_curve, .inr (2, [.ref a_h_now_spring_curve_firsts, .ref a_h_now_spring_curve_seconds, .int v_now_spring_curve_size])), (a_h_now_spring_curve_firsts, .inl (cI, 8, .inl v_now_spring_curve_firsts_A)), (a_h_now_spring_curve_seconds, .inl (cI, 8, .inl v_now_spring_curve_seconds_A))]))
      (QI D (ty4 cI cC cJ cB) (va_A [(a_h, .inr (7, [.ref a_h_now, .ref a_h_history, .ref a_h_text, .ref a_h_trial, .int v_refusal])), (a_h_now, .inr (0, [.ref a_h_now_spring, .ref a_h_now_scale, .ref a_h_now_weights])), (a_h_now_spring, .inr (3, [.int v_now_spring_load, .int v_now_spring_extension, .int v_now_spring_creep, .int v_now_spring_pointer, .int v_now_spring_way, .long v_now_spring_account, .int v_now_spring_deadZone, .int v_now_spring_rate, .int v_now_spring_step, .ref a_h_now_spring_turns, .ref a_h_now_spring_curve])), (a_h_now_spring_turns, .inr (2, [.ref a_h_now_spring_turns_firsts, .ref a_h_now_spring_turns_seconds, .int v_now_spring_turns_size])), (a_h_now_spring_turns_firsts, .inl (cI, 1001, .inl v_now_spring_turns_firsts_A)), (a_h_now_spring_curve, .inr (2, [.ref a_h_now_spring_curve_firsts, .ref a_h_now_spring_curve_seconds, .int v_now_spring_curve_size])), (a_h_now_spring_curve_firsts, .inl (cI, 8, .inl v_now_spring_curve_firsts_A)), (a_h_now_spring_curve_seconds, .inl (cI, 8, .inl v_now_spring_curve_seconds_A))] sz) [(a_h, .inr (7, [.ref a_h_now, .ref a_h_history, .ref a_h_text, .ref a_h_trial, .int v_refusal])), (a_h_now, .inr (0, [.ref a_h_now_spring, .ref a_h_now_scale, .ref a_h_now_weights])), (a_h_now_spring, .inr (3, [.int v_now_spring_load, .int v_now_spring_extension, .int v_now_spring_creep, .int v_now_spring_pointer, .int v_now_spring_way, .long v_now_spring_account, .int v_now_spring_deadZone, .int v_now_spring_rate, .int v_now_spring_step, .ref a_h_now_spring_turns, .ref a_h_now_spring_curve])), (a_h_now_spring_turns, .inr (2, [.ref a_h_now_spring_turns_firsts, .ref a_h_now_spring_turns_seconds, .int v_now_spring_turns_size])), (a_h_now_spring_turns_firsts, .inl (cI, 1001, .inl v_now_spring_turns_firsts_A)), (a_h_now_spring_curve, .inr (2, [.ref a_h_now_spring_curve_firsts, .ref a_h_now_spring_curve_seconds, .int v_now_spring_curve_size])), (a_h_now_spring_curve_firsts, .inl (cI, 8, .inl v_now_spring_curve_firsts_A)), (a_h_now_spring_curve_seconds, .inl (cI, 8, .inl v_now_spring_curve_seconds_A))] u) 0 0 (va_A [(a_h, .inr (7, [.ref a_h_now, .ref a_h_history, .ref a_h_text, .ref a_h_trial, .int v_refusal])), (a_h_now, .inr (0, [.ref a_h_now_spring, .ref a_h_now_scale, .ref a_h_now_weights])), (a_h_now_spring, .inr (3, [.int v_now_spring_load, .int v_now_spring_extension, .int v_now_spring_creep, .int v_now_spring_pointer, .int v_now_spring_way, .long v_now_spring_account, .int v_now_spring_deadZone, .int v_now_spring_rate, .int v_now_spring_step, .ref a_h_now_spring_turns, .ref a_h_now_spring_curve])), (a_h_now_spring_turns, .inr (2, [.ref a_h_now_spring_turns_firsts, .ref a_h_now_spring_turns_seconds, .int v_now_spring_turns_size])), (a_h_now_spring_turns_firsts, .inl (cI, 1001, .inl v_now_spring_turns_firsts_A)), (a_h_now_spring_curve, .inr (2, [.ref a_h_now_spring_curve_firsts, .ref a_h_now_spring_curve_seconds, .int v_now_spring_curve_size])), (a_h_now_spring_curve_firsts, .inl (cI, 8, .inl v_now_spring_curve_firsts_A)), (a_h_now_spring_curve_seconds, .inl (cI, 8, .inl v_now_spring_curve_seconds_A))] sz) := by
  refine met_go (y := yX7_again) (wsy := wsX7_again) (cc := cX7_again) (maxL := 1) (ret := (some .int)) (av := [.ref a_h]) (Qc := fun A => QI D (ty4 cI cC cJ cB) A [(a_h, .inr (7, [.ref a_h_now, .ref a_h_history, .ref a_h_text, .ref a_h_trial, .int v_refusal])), (a_h_now, .inr (0, [.ref a_h_now_spring, .ref a_h_now_scale, .ref a_h_now_weights])), (a_h_now_spring, .inr (3, [.int v_now_spring_load, .int v_now_spring_extension, .int v_now_spring_creep, .int v_now_spring_pointer, .int v_now_spring_way, .long v_now_spring_account, .int v_now_spring_deadZone, .int v_now_spring_rate, .int v_now_spring_step, .ref a_h_now_spring_turns, .ref a_h_now_spring_curve])), (a_h_now_spring_turns, .inr (2, [.ref a_h_now_spring_turns_firsts, .ref a_h_now_spring_turns_seconds, .int v_now_spring_turns_size])), (a_h_now_spring_turns_firsts, .inl (cI, 1001, .inl v_now_spring_turns_firsts_A)), (a_h_now_spring_curve, .inr (2, [.ref a_h_now_spring_curve_firsts, .ref a_h_now_spring_curve_seconds, .int v_now_spring_curve_size])), (a_h_now_spring_curve_firsts, .inl (cI, 8, .inl v_now_spring_curve_firsts_A)), (a_h_now_spring_curve_seconds, .inl (cI, 8, .inl v_now_spring_curve_seconds_A))] u) (by decide) rfl (Nat.le_of_ble_eq_true rfl) ?_
  intro p e s m below meth c A ls hx hb hr hml hown hts hlocks hnm hN hK hP hD hS hA hl
  have h := hu
  clear hu
  unfold f_X7_again at h
  have hl : lv_has ls 1 [(0, .ref a_h)] := hl
  refine lv_aload_n hx hb dX7_again_0 rfl (lv_at hl 0 rfl) ?_
  refine va_get (D := D) (ci := 7) (v := .ref a_h_now) (C := RX7) (T := TX7) (N := 5) hx hb hts in_X7_again_X7 hown hK hP 0 rfl rfl 0 (by decide) (hts _ q_X7_again_1) (fun _ h9 => h9) rfl dX7_again_1 ?_
  refine va_getN (D := D) (ci := 0) (v := .ref a_h_now_spring) (C := RX0) (T := TX0) (N := 3) hx hb hts in_X7_again_X0 hown hK hP 1 rfl rfl 0 (by decide) (NN.f hN 16 rfl) (fun _ h9 => h9) rfl dX7_again_4 ?_
  obtain ⟨u1, hu1, h⟩ := bd_e h
  refine kx_i (mc := 0) (ms := 0) (wr := [(a_h, .inr (7, [.ref a_h_now, .ref a_h_history, .ref a_h_text, .ref a_h_trial, .int v_refusal])), (a_h_now, .inr (0, [.ref a_h_now_spring, .ref a_h_now_scale, .ref a_h_now_weights]))]) (ws2 := [(a_h, .inr (7, [.ref a_h_now, .ref a_h_history, .ref a_h_text, .ref a_h_trial, .int v_refusal])), (a_h_now, .inr (0, [.ref a_h_now_spring, .ref a_h_now_scale, .ref a_h_now_weights])), (a_h_now_spring, .inr (3, [.int v_now_spring_load, .int v_now_spring_extension, .int v_now_spring_creep, .int v_now_spring_pointer, .int v_now_spring_way, .long v_now_spring_account, .int v_now_spring_deadZone, .int v_now_spring_rate, .int v_now_spring_step, .ref a_h_now_spring_turns, .ref a_h_now_spring_curve])), (a_h_now_spring_turns, .inr (2, [.ref a_h_now_spring_turns_firsts, .ref a_h_now_spring_turns_seconds, .int v_now_spring_turns_size])), (a_h_now_spring_turns_firsts, .inl (cI, 1001, .inl v_now_spring_turns_firsts_A)), (a_h_now_spring_curve, .inr (2, [.ref a_h_now_spring_curve_firsts, .ref a_h_now_spring_curve_seconds, .int v_now_spring_curve_size])), (a_h_now_spring_curve_firsts, .inl (cI, 8, .inl v_now_spring_curve_firsts_A)), (a_h_now_spring_curve_seconds, .inl (cI, 8, .inl v_now_spring_curve_seconds_A))]) (va_runVN (As := []) (rest := []) ⟨hx, hb, hml, hown, hts⟩ (k_X3_extensionFromTurns l D cI cC cJ cB a_h_now_spring a_h_now_spring_turns a_h_now_spring_curve a_h_now_spring_turns_firsts a_h_now_spring_turns_seconds a_h_now_spring_curve_firsts a_h_now_spring_curve_seconds 1001 8 v_now_spring_load v_now_spring_extension v_now_spring_creep v_now_spring_pointer v_now_spring_way v_now_spring_account v_now_spring_deadZone v_now_spring_rate v_now_spring_step v_now_spring_turns_size v_now_spring_turns_firsts_A v_now_spring_curve_size v_now_spring_curve_firsts_A v_now_spring_curve_seconds_A N s.heap.size _ hu1) ⟨va_cnB 0 hts gX7_again_X3_extensionFromTurns_n154 rfl rfl rfl (hN.m 39 rfl) (hts _ q_X7_again_3) (by decide +kernel) ⟨Nat.le_of_ble_eq_true rfl, Nat.le_of_ble_eq_true rfl⟩, (hts _ q_X7_again_2), (hts _ q_X7_again_4)⟩ (pv_V hP hD hK hN [2, 3, 4, 5, 6, 7] rfl rfl (ci := 3) rfl 2 rfl) rfl rfl hl.1 rfl (lv_room (Nat.le_of_ble_eq_true rfl)) dX7_again_7 ⟨Nat.zero_le _, Nat.zero_le _⟩) hP hD hS hA [2, 3, 4, 5, 6, 7] [0, 1] [0, 1, 2, 3, 4, 5, 6, 7] rfl rfl rfl rfl rfl rfl (fun H locs hP hD hS => ?_)
  obtain rfl := sm_e h
  exact rx_i hx hb hr  hP hK hD hS dX7_again_10 hlocks
-- X7_curve
def f_X7_curve (N : Nat) (v_now_spring_curve_size : Int32) (v_now_spring_curve_firsts_A : Nat → Int32) (v_now_spring_curve_seconds_A : Nat → Int32) (p0 : Int32) (p1 : Int32) : Option (Int32) :=
  Option.bind (f_X7_isOutside p0 (0 : Int32) (1 : Int32)) (fun u1 => (if ¬ u1 = 0 then some (-2000000001 : Int32)
    else Option.bind (f_X7_isOutside p1 (0 : Int32) (1000 : Int32)) (fun u3 => (if u3 = 0 then (if ¬ p0 = 0 then Option.bind (f_X2_valueAt N 8 v_now_spring_curve_size v_now_spring_curve_firsts_A v_now_spring_curve_seconds_A p1 (2 : Int32)) (fun u6 => some u6)
    else Option.bind (f_X2_valueAt N 8 v_now_spring_curve_size v_now_spring_curve_firsts_A v_now_spring_curve_seconds_A p1 (1 : Int32)) (fun u7 => some u7))
    else some (-2000000001 : Int32)))))
theorem q_X7_curve_1 : (.constant RX7 41 (-2000000001) : Cond) ∈ wsX7_curve := List.mem_of_getElem? (i := 1) (by decide +kernel)
theorem q_X7_curve_2 : (.fieldLink RX7 12 "SpringBalance" "now" "LSpringBalance$Bench;" : Cond) ∈ wsX7_curve := List.mem_of_getElem? (i := 2) (by decide +kernel)
set_option maxRecDepth 20000 in
theorem in_X7_curve_X7 : ∀ w ∈ u_ws RX7 TX7 5, w ∈ wsX7_curve := by decide +kernel
set_option maxRecDepth 20000 in
theorem in_X7_curve_X0 : ∀ w ∈ u_ws RX0 TX0 3, w ∈ wsX7_curve := by decide +kernel
set_option maxRecDepth 20000 in
theorem in_X7_curve_X3 : ∀ w ∈ u_ws RX3 TX3 11, w ∈ wsX7_curve := by decide +kernel
theorem q_X7_curve_8 : (.initialized RX2 : Cond) ∈ wsX7_curve := List.mem_of_getElem? (i := 8) (by decide +kernel)
theorem q_X7_curve_7 : (.instanceMethod yX2_valueAt : Cond) ∈ wsX7_curve := List.mem_of_getElem? (i := 7) (by decide +kernel)
theorem q_X7_curve_9 : (.selects RX2 yX2_valueAt yX2_valueAt : Cond) ∈ wsX7_curve := List.mem_of_getElem? (i := 9) (by decide +kernel)
set_option maxHeartbeats 8000000 in
set_option maxRecDepth 100000 in
theorem k_X7_curve (l : Launch) (D : va_G) (cI cC cJ cB : ClassId) (a_h a_h_now a_h_history a_h_text a_h_trial a_h_now_spring a_h_now_scale a_h_now_weights a_h_now_spring_turns a_h_now_spring_curve a_h_now_spring_curve_firsts a_h_now_spring_curve_seconds : Nat) (v_refusal : Int32) (v_now_spring_load : Int32) (v_now_spring_extension : Int32) (v_now_spring_creep : Int32) (v_now_spring_pointer : Int32) (v_now_spring_way : Int32) (v_now_spring_account : Int64) (v_now_spring_deadZone : Int32) (v_now_spring_rate : Int32) (v_now_spring_step : Int32) (v_now_spring_curve_size : Int32) (v_now_spring_curve_firsts_A : Nat → Int32) (v_now_spring_curve_seconds_A : Nat → Int32) (N : Nat) (p0 : Int32) (p1 : Int32) (sz : Nat) (u : Int32) (hu : f_X7_curve N v_now_spring_curve_size v_now_spring_curve_firsts_A v_now_spring_curve_seconds_A p0 p1 = some u) :
    Met l yX7_curve wsX7_curve ({ frames := 2, cells := 0, slots := 0, locals := 50 } : Room) (va_Pc [.ref a_h, .int p0, .int p1] (PreW D (ty4 cI cC cJ cB) sz [(a_h, .inr (7, [.ref a_h_now, .ref a_h_history, .ref a_h_text, .ref a_h_trial, .int v_refusal])), (a_h_now, .inr (0, [.ref a_h_now_spring, .ref a_h_now_scale, .ref a_h_now_weights])), (a_h_now_spring, .inr (3, [.int v_now_spring_load, .int v_now_spring_extension, .int v_now_spring_creep, .int v_now_spring_pointer, .int v_now_spring_way, .long v_now_spring_account, .int v_now_spring_deadZone, .int v_now_spring_rate, .int v_now_spring_step, .ref a_h_now_spring_turns, .ref a_h_now_spring_curve])), (a_h_now_spring_curve, .inr (2, [.ref a_h_now_spring_curve_firsts, .ref a_h_now_spring_curve_seconds, .int v_now_spring_curve_size])), (a_h_now_spring_curve_firsts, .inl (cI, 8, .inl v_now_spring_curve_firsts_A)), (a_h_now_spring_curve_seconds, .inl (cI, 8, .inl v_now_spring_curve_seconds_A))]))
      (QI D (ty4 cI cC cJ cB) (va_A [(a_h, .inr (7, [.ref a_h_now, .ref a_h_history, .ref a_h_text, .ref a_h_trial, .int v_refusal])), (a_h_now, .inr (0, [.ref a_h_now_spring, .ref a_h_now_scale, .ref a_h_now_weights])), (a_h_now_spring, .inr (3, [.int v_now_spring_load, .int v_now_spring_extension, .int v_now_spring_creep, .int v_now_spring_pointer, .int v_now_spring_way, .long v_now_spring_account, .int v_now_spring_deadZone, .int v_now_spring_rate, .int v_now_spring_step, .ref a_h_now_spring_turns, .ref a_h_now_spring_curve])), (a_h_now_spring_curve, .inr (2, [.ref a_h_now_spring_curve_firsts, .ref a_h_now_spring_curve_seconds, .int v_now_spring_curve_size])), (a_h_now_spring_curve_firsts, .inl (cI, 8, .inl v_now_spring_curve_firsts_A)), (a_h_now_spring_curve_seconds, .inl (cI, 8, .inl v_now_spring_curve_seconds_A))] sz) [(a_h, .inr (7, [.ref a_h_now, .ref a_h_history, .ref a_h_text, .ref a_h_trial, .int v_refusal])), (a_h_now, .inr (0, [.ref a_h_now_spring, .ref a_h_now_scale, .ref a_h_now_weights])), (a_h_now_spring, .inr (3, [.int v_now_spring_load, .int v_now_spring_extension, .int v_now_spring_creep, .int v_now_spring_pointer, .int v_now_spring_way, .long v_now_spring_account, .int v_now_spring_deadZone, .int v_now_spring_rate, .int v_now_spring_step, .ref a_h_now_spring_turns, .ref a_h_now_spring_curve])), (a_h_now_spring_curve, .inr (2, [.ref a_h_now_spring_curve_firsts, .ref a_h_now_spring_curve_seconds, .int v_now_spring_curve_size])), (a_h_now_spring_curve_firsts, .inl (cI, 8, .inl v_now_spring_curve_firsts_A)), (a_h_now_spring_curve_seconds, .inl (cI, 8, .inl v_now_spring_curve_seconds_A))] u) 0 0 (va_A [(a_h, .inr (7, [.ref a_h_now, .ref a_h_history, .ref a_h_text, .ref a_h_trial, .int v_refusal])), (a_h_now, .inr (0, [.ref a_h_now_spring, .ref a_h_now_scale, .ref a_h_now_weights])), (a_h_now_spring, .inr (3, [.int v_now_spring_load, .int v_now_spring_extension, .int v_now_spring_creep, .int v_now_spring_pointer, .int v_now_spring_way, .long v_now_spring_account, .int v_now_spring_deadZone, .int v_now_spring_rate, .int v_now_spring_step, .ref a_h_now_spring_turns, .ref a_h_now_spring_curve])), (a_h_now_spring_curve, .inr (2, [.ref a_h_now_spring_curve_firsts, .ref a_h_now_spring_curve_seconds, .int v_now_spring_curve_size])), (a_h_now_spring_curve_firsts, .inl (cI, 8, .inl v_now_spring_curve_firsts_A)), (a_h_now_spring_curve_seconds, .inl (cI, 8, .inl v_now_spring_curve_seconds_A))] sz) := by
  refine met_go (y := yX7_curve) (wsy := wsX7_curve) (cc := cX7_curve) (maxL := 3) (ret := (some .int)) (av := [.ref a_h, .int p0, .int p1]) (Qc := fun A => QI D (ty4 cI cC cJ cB) A [(a_h, .inr (7, [.ref a_h_now, .ref a_h_history, .ref a_h_text, .ref a_h_trial, .int v_refusal])), (a_h_now, .inr (0, [.ref a_h_now_spring, .ref a_h_now_scale, .ref a_h_now_weights])), (a_h_now_spring, .inr (3, [.int v_now_spring_load, .int v_now_spring_extension, .int v_now_spring_creep, .int v_now_spring_pointer, .int v_now_spring_way, .long v_now_spring_account, .int v_now_spring_deadZone, .int v_now_spring_rate, .int v_now_spring_step, .ref a_h_now_spring_turns, .ref a_h_now_spring_curve])), (a_h_now_spring_curve, .inr (2, [.ref a_h_now_spring_curve_firsts, .ref a_h_now_spring_curve_seconds, .int v_now_spring_curve_size])), (a_h_now_spring_curve_firsts, .inl (cI, 8, .inl v_now_spring_curve_firsts_A)), (a_h_now_spring_curve_seconds, .inl (cI, 8, .inl v_now_spring_curve_seconds_A))] u) (by decide) rfl (Nat.le_of_ble_eq_true rfl) ?_
  intro p e s m below meth c A ls hx hb hr hml hown hts hlocks hnm hN hK hP hD hS hA hl
  have h := hu
  clear hu
  unfold f_X7_curve at h
  have hl : lv_has ls 3 [(0, .ref a_h), (1, .int p0), (2, .int p1)] := hl
  refine lv_iload_n hx hb dX7_curve_0 rfl (lv_at hl 1 rfl) ?_
  refine lv_iconst (v := (0 : Int32)) hx hb dX7_curve_1 (by decide) ?_
  refine lv_iconst (v := (1 : Int32)) hx hb dX7_curve_2 (by decide) ?_
  obtain ⟨u1, hu1, h⟩ := bd_e h
  refine kx_i (mc := 0) (ms := 0) (wr := [(a_h, .inr (7, [.ref a_h_now, .ref a_h_history, .ref a_h_text, .ref a_h_trial, .int v_refusal])), (a_h_now, .inr (0, [.ref a_h_now_spring, .ref a_h_now_scale, .ref a_h_now_weights])), (a_h_now_spring, .inr (3, [.int v_now_spring_load, .int v_now_spring_extension, .int v_now_spring_creep, .int v_now_spring_pointer, .int v_now_spring_way, .long v_now_spring_account, .int v_now_spring_deadZone, .int v_now_spring_rate, .int v_now_spring_step, .ref a_h_now_spring_turns, .ref a_h_now_spring_curve])), (a_h_now_spring_curve, .inr (2, [.ref a_h_now_spring_curve_firsts, .ref a_h_now_spring_curve_seconds, .int v_now_spring_curve_size])), (a_h_now_spring_curve_firsts, .inl (cI, 8, .inl v_now_spring_curve_firsts_A)), (a_h_now_spring_curve_seconds, .inl (cI, 8, .inl v_now_spring_curve_seconds_A))]) (ws2 := [(a_h, .inr (7, [.ref a_h_now, .ref a_h_history, .ref a_h_text, .ref a_h_trial, .int v_refusal])), (a_h_now, .inr (0, [.ref a_h_now_spring, .ref a_h_now_scale, .ref a_h_now_weights])), (a_h_now_spring, .inr (3, [.int v_now_spring_load, .int v_now_spring_extension, .int v_now_spring_creep, .int v_now_spring_pointer, .int v_now_spring_way, .long v_now_spring_account, .int v_now_spring_deadZone, .int v_now_spring_rate, .int v_now_spring_step, .ref a_h_now_spring_turns, .ref a_h_now_spring_curve])), (a_h_now_spring_curve, .inr (2, [.ref a_h_now_spring_curve_firsts, .ref a_h_now_spring_curve_seconds, .int v_now_spring_curve_size])), (a_h_now_spring_curve_firsts, .inl (cI, 8, .inl v_now_spring_curve_firsts_A)), (a_h_now_spring_curve_seconds, .inl (cI, 8, .inl v_now_spring_curve_seconds_A))]) (va_runS (As := [.int p0, .int (0 : Int32), .int (1 : Int32)]) (rest := []) ⟨hx, hb, hml, hown, hts⟩ (k_X7_isOutside l D cI cC cJ cB N p0 (0 : Int32) (1 : Int32) s.heap.size _ hu1) (va_cwS 3 hts gX7_curve_X7_isOutside rfl rfl rfl (by decide +kernel) ⟨Nat.le_of_ble_eq_true rfl, Nat.le_of_ble_eq_true rfl⟩) (pv_S hP hD hK hN [] rfl rfl) rfl rfl hl.1 rfl (lv_room (Nat.le_of_ble_eq_true rfl)) dX7_curve_3 ⟨Nat.zero_le _, Nat.zero_le _⟩) hP hD hS hA [] [0, 1, 2, 3, 4, 5] [0, 1, 2, 3, 4, 5] rfl rfl rfl rfl rfl rfl (fun H locs hP hD hS => ?_)
  refine lv_if_ne (tgt := 20) hx hb dX7_curve_6 (by decide) (fun hc2 => ?_) (fun hc2 => ?_)
  · replace h := it_e hc2 h
    refine lv_ldc (v := (-2000000001 : Int32)) hx hb hown (hts _ q_X7_curve_1) dX7_curve_20 ?_
    obtain rfl := sm_e h
    exact rx_i hx hb hr  hP hK hD hS dX7_curve_22 hlocks
  · replace h := in_e hc2 h
    refine lv_iload_n hx hb dX7_curve_9 rfl (lv_at hl 2 rfl) ?_
    refine lv_iconst (v := (0 : Int32)) hx hb dX7_curve_10 (by decide) ?_
    refine lv_sipush (v := (1000 : Int32)) hx hb dX7_curve_11 (by decide) ?_
    obtain ⟨u3, hu3, h⟩ := bd_e h
    refine kx_i (mc := 0) (ms := 0) (wr := [(a_h, .inr (7, [.ref a_h_now, .ref a_h_history, .ref a_h_text, .ref a_h_trial, .int v_refusal])), (a_h_now, .inr (0, [.ref a_h_now_spring, .ref a_h_now_scale, .ref a_h_now_weights])), (a_h_now_spring, .inr (3, [.int v_now_spring_load, .int v_now_spring_extension, .int v_now_spring_creep, .int v_now_spring_pointer, .int v_now_spring_way, .long v_now_spring_account, .int v_now_spring_deadZone, .int v_now_spring_rate, .int v_now_spring_step, .ref a_h_now_spring_turns, .ref a_h_now_spring_curve])), (a_h_now_spring_curve, .inr (2, [.ref a_h_now_spring_curve_firsts, .ref a_h_now_spring_curve_seconds, .int v_now_spring_curve_size])), (a_h_now_spring_curve_firsts, .inl (cI, 8, .inl v_now_spring_curve_firsts_A)), (a_h_now_spring_curve_seconds, .inl (cI, 8, .inl v_now_spring_curve_seconds_A))]) (ws2 := [(a_h, .inr (7, [.ref a_h_now, .ref a_h_history, .ref a_h_text, .ref a_h_trial, .int v_refusal])), (a_h_now, .inr (0, [.ref a_h_now_spring, .ref a_h_now_scale, .ref a_h_now_weights])), (a_h_now_spring, .inr (3, [.int v_now_spring_load, .int v_now_spring_extension, .int v_now_spring_creep, .int v_now_spring_pointer, .int v_now_spring_way, .long v_now_spring_account, .int v_now_spring_deadZone, .int v_now_spring_rate, .int v_now_spring_step, .ref a_h_now_spring_turns, .ref a_h_now_spring_curve])), (a_h_now_spring_curve, .inr (2, [.ref a_h_now_spring_curve_firsts, .ref a_h_now_spring_curve_seconds, .int v_now_spring_curve_size])), (a_h_now_spring_curve_firsts, .inl (cI, 8, .inl v_now_spring_curve_firsts_A)), (a_h_now_spring_curve_seconds, .inl (cI, 8, .inl v_now_spring_curve_seconds_A))]) (va_runS (As := [.int p1, .int (0 : Int32), .int (1000 : Int32)]) (rest := []) ⟨hx, hb, hml, hown, hts⟩ (k_X7_isOutside l D cI cC cJ cB N p1 (0 : Int32) (1000 : Int32) H.size _ hu3) (va_cwS 3 hts gX7_curve_X7_isOutside rfl rfl rfl (by decide +kernel) ⟨Nat.le_of_ble_eq_true rfl, Nat.le_of_ble_eq_true rfl⟩) (pv_S hP hD hK hN [] rfl rfl) rfl rfl hl.1 rfl (lv_room (Nat.le_of_ble_eq_true rfl)) dX7_curve_14 ⟨Nat.zero_le _, Nat.zero_le _⟩) hP hD hS hA [] [0, 1, 2, 3, 4, 5] [0, 1, 2, 3, 4, 5] rfl rfl rfl rfl rfl rfl (fun H locs hP hD hS => ?_)
    refine lv_if_eq (tgt := 23) hx hb dX7_curve_17 (by decide) (fun hc4 => ?_) (fun hc4 => ?_)
    · replace h := it_e hc4 h
      refine lv_aload_n hx hb dX7_curve_23 rfl (lv_at hl 0 rfl) ?_
      refine va_get (D := D) (ci := 7) (v := .ref a_h_now) (C := RX7) (T := TX7) (N := 5) hx hb hts in_X7_curve_X7 hown hK hP 0 rfl rfl 0 (by decide) (hts _ q_X7_curve_2) (fun _ h9 => h9) rfl dX7_curve_24 ?_
      refine va_getN (D := D) (ci := 0) (v := .ref a_h_now_spring) (C := RX0) (T := TX0) (N := 3) hx hb hts in_X7_curve_X0 hown hK hP 1 rfl rfl 0 (by decide) (NN.f hN 16 rfl) (fun _ h9 => h9) rfl dX7_curve_27 ?_
      refine va_getN (D := D) (ci := 3) (v := .ref a_h_now_spring_curve) (C := RX3) (T := TX3) (N := 11) hx hb hts in_X7_curve_X3 hown hK hP 2 rfl rfl 10 (by decide) (NN.f hN 14 rfl) (fun _ h9 => h9) rfl dX7_curve_30 ?_
      refine lv_iload_n hx hb dX7_curve_33 rfl (lv_at hl 2 rfl) ?_
      refine lv_iload_n hx hb dX7_curve_34 rfl (lv_at hl 1 rfl) ?_
      refine lv_if_ne (tgt := 42) hx hb dX7_curve_35 (by decide) (fun hc5 => ?_) (fun hc5 => ?_)
      · replace h := it_e hc5 h
        refine lv_iconst (v := (2 : Int32)) hx hb dX7_curve_42 (by decide) ?_
        obtain ⟨u6, hu6, h⟩ := bd_e h
        refine kx_i (mc := 0) (ms := 0) (wr := [(a_h, .inr (7, [.ref a_h_now, .ref a_h_history, .ref a_h_text, .ref a_h_trial, .int v_refusal])), (a_h_now, .inr (0, [.ref a_h_now_spring, .ref a_h_now_scale, .ref a_h_now_weights])), (a_h_now_spring, .inr (3, [.int v_now_spring_load, .int v_now_spring_extension, .int v_now_spring_creep, .int v_now_spring_pointer, .int v_now_spring_way, .long v_now_spring_account, .int v_now_spring_deadZone, .int v_now_spring_rate, .int v_now_spring_step, .ref a_h_now_spring_turns, .ref a_h_now_spring_curve]))]) (ws2 := [(a_h, .inr (7, [.ref a_h_now, .ref a_h_history, .ref a_h_text, .ref a_h_trial, .int v_refusal])), (a_h_now, .inr (0, [.ref a_h_now_spring, .ref a_h_now_scale, .ref a_h_now_weights])), (a_h_now_spring, .inr (3, [.int v_now_spring_load, .int v_now_spring_extension, .int v_now_spring_creep, .int v_now_spring_pointer, .int v_now_spring_way, .long v_now_spring_account, .int v_now_spring_deadZone, .int v_now_spring_rate, .int v_now_spring_step, .ref a_h_now_spring_turns, .ref a_h_now_spring_curve])), (a_h_now_spring_curve, .inr (2, [.ref a_h_now_spring_curve_firsts, .ref a_h_now_spring_curve_seconds, .int v_now_spring_curve_size])), (a_h_now_spring_curve_firsts, .inl (cI, 8, .inl v_now_spring_curve_firsts_A)), (a_h_now_spring_curve_seconds, .inl (cI, 8, .inl v_now_spring_curve_seconds_A))]) (va_runVN (As := [.int p1, .int (2 : Int32)]) (rest := []) ⟨hx, hb, hml, hown, hts⟩ (k_X2_valueAt l D cI cC cJ cB a_h_now_spring_curve a_h_now_spring_curve_firsts a_h_now_spring_curve_seconds 8 v_now_spring_curve_size v_now_spring_curve_firsts_A v_now_spring_curve_seconds_A N p1 (2 : Int32) H.size _ hu6) ⟨va_cnB 2 hts gX7_curve_X2_valueAt_n187 rfl rfl rfl (hN.m 37 rfl) (hts _ q_X7_curve_8) (by decide +kernel) ⟨Nat.le_of_ble_eq_true rfl, Nat.le_of_ble_eq_true rfl⟩, (hts _ q_X7_curve_7), (hts _ q_X7_curve_9)⟩ (pv_V hP hD hK hN [3, 4, 5] rfl rfl (ci := 2) rfl 3 rfl) rfl rfl hl.1 rfl (lv_room (Nat.le_of_ble_eq_true rfl)) dX7_curve_43 ⟨Nat.zero_le _, Nat.zero_le _⟩) hP hD hS hA [3, 4, 5] [0, 1, 2] [0, 1, 2, 3, 4, 5] rfl rfl rfl rfl rfl rfl (fun H locs hP hD hS => ?_)
        obtain rfl := sm_e h
        exact rx_i hx hb hr  hP hK hD hS dX7_curve_46 hlocks
      · replace h := in_e hc5 h
        refine lv_iconst (v := (1 : Int32)) hx hb dX7_curve_38 (by decide) ?_
        refine lv_goto (tgt := 43) hx hb dX7_curve_39 (by decide) ?_
        obtain ⟨u7, hu7, h⟩ := bd_e h
        refine kx_i (mc := 0) (ms := 0) (wr := [(a_h, .inr (7, [.ref a_h_now, .ref a_h_history, .ref a_h_text, .ref a_h_trial, .int v_refusal])), (a_h_now, .inr (0, [.ref a_h_now_spring, .ref a_h_now_scale, .ref a_h_now_weights])), (a_h_now_spring, .inr (3, [.int v_now_spring_load, .int v_now_spring_extension, .int v_now_spring_creep, .int v_now_spring_pointer, .int v_now_spring_way, .long v_now_spring_account, .int v_now_spring_deadZone, .int v_now_spring_rate, .int v_now_spring_step, .ref a_h_now_spring_turns, .ref a_h_now_spring_curve]))]) (ws2 := [(a_h, .inr (7, [.ref a_h_now, .ref a_h_history, .ref a_h_text, .ref a_h_trial, .int v_refusal])), (a_h_now, .inr (0, [.ref a_h_now_spring, .ref a_h_now_scale, .ref a_h_now_weights])), (a_h_now_spring, .inr (3, [.int v_now_spring_load, .int v_now_spring_extension, .int v_now_spring_creep, .int v_now_spring_pointer, .int v_now_spring_way, .long v_now_spring_account, .int v_now_spring_deadZone, .int v_now_spring_rate, .int v_now_spring_step, .ref a_h_now_spring_turns, .ref a_h_now_spring_curve])), (a_h_now_spring_curve, .inr (2, [.ref a_h_now_spring_curve_firsts, .ref a_h_now_spring_curve_seconds, .int v_now_spring_curve_size])), (a_h_now_spring_curve_firsts, .inl (cI, 8, .inl v_now_spring_curve_firsts_A)), (a_h_now_spring_curve_seconds, .inl (cI, 8, .inl v_now_spring_curve_seconds_A))]) (va_runVN (As := [.int p1, .int (1 : Int32)]) (rest := []) ⟨hx, hb, hml, hown, hts⟩ (k_X2_valueAt l D cI cC cJ cB a_h_now_spring_curve a_h_now_spring_curve_firsts a_h_now_spring_curve_seconds 8 v_now_spring_curve_size v_now_spring_curve_firsts_A v_now_spring_curve_seconds_A N p1 (1 : Int32) H.size _ hu7) ⟨va_cnB 2 hts gX7_curve_X2_valueAt_n187 rfl rfl rfl (hN.m 37 rfl) (hts _ q_X7_curve_8) (by decide +kernel) ⟨Nat.le_of_ble_eq_true rfl, Nat.le_of_ble_eq_true rfl⟩, (hts _ q_X7_curve_7), (hts _ q_X7_curve_9)⟩ (pv_V hP hD hK hN [3, 4, 5] rfl rfl (ci := 2) rfl 3 rfl) rfl rfl hl.1 rfl (lv_room (Nat.le_of_ble_eq_true rfl)) dX7_curve_43 ⟨Nat.zero_le _, Nat.zero_le _⟩) hP hD hS hA [3, 4, 5] [0, 1, 2] [0, 1, 2, 3, 4, 5] rfl rfl rfl rfl rfl rfl (fun H locs hP hD hS => ?_)
        obtain rfl := sm_e h
        exact rx_i hx hb hr  hP hK hD hS dX7_curve_46 hlocks
    · replace h := if_e hc4 h
      refine lv_ldc (v := (-2000000001 : Int32)) hx hb hown (hts _ q_X7_curve_1) dX7_curve_20 ?_
      obtain rfl := sm_e h
      exact rx_i hx hb hr  hP hK hD hS dX7_curve_22 hlocks
-- X7_readingAt
def f_X7_readingAt (N : Nat) (v_now_scale_size : Int32) (v_now_scale_firsts_A : Nat → Int32) (v_now_scale_seconds_A : Nat → Int32) (p0 : Int32) : Option (Int32) :=
  Option.bind (f_X7_isOutside p0 (-1000 : Int32) (30000 : Int32)) (fun u1 => (if u1 = 0 then Option.bind (f_X2_valueAt N 6 v_now_scale_size v_now_scale_firsts_A v_now_scale_seconds_A p0 (1 : Int32)) (fun u3 => some u3)
    else some (-2000000001 : Int32)))
theorem q_X7_readingAt_2 : (.fieldLink RX7 12 "SpringBalance" "now" "LSpringBalance$Bench;" : Cond) ∈ wsX7_readingAt := List.mem_of_getElem? (i := 2) (by decide +kernel)
set_option maxRecDepth 20000 in
theorem in_X7_readingAt_X7 : ∀ w ∈ u_ws RX7 TX7 5, w ∈ wsX7_readingAt := by decide +kernel
set_option maxRecDepth 20000 in
theorem in_X7_readingAt_X0 : ∀ w ∈ u_ws RX0 TX0 3, w ∈ wsX7_readingAt := by decide +kernel
theorem q_X7_readingAt_8 : (.initialized RX2 : Cond) ∈ wsX7_readingAt := List.mem_of_getElem? (i := 8) (by decide +kernel)
theorem q_X7_readingAt_7 : (.instanceMethod yX2_valueAt : Cond) ∈ wsX7_readingAt := List.mem_of_getElem? (i := 7) (by decide +kernel)
theorem q_X7_readingAt_9 : (.selects RX2 yX2_valueAt yX2_valueAt : Cond) ∈ wsX7_readingAt := List.mem_of_getElem? (i := 9) (by decide +kernel)
theorem q_X7_readingAt_1 : (.constant RX7 41 (-2000000001) : Cond) ∈ wsX7_readingAt := List.mem_of_getElem? (i := 1) (by decide +kernel)
set_option maxHeartbeats 8000000 in
set_option maxRecDepth 100000 in
theorem k_X7_readingAt (l : Launch) (D : va_G) (cI cC cJ cB : ClassId) (a_h a_h_now a_h_history a_h_text a_h_trial a_h_now_spring a_h_now_scale a_h_now_weights a_h_now_scale_firsts a_h_now_scale_seconds : Nat) (v_refusal : Int32) (v_now_scale_size : Int32) (v_now_scale_firsts_A : Nat → Int32) (v_now_scale_seconds_A : Nat → Int32) (N : Nat) (p0 : Int32) (sz : Nat) (u : Int32) (hu : f_X7_readingAt N v_now_scale_size v_now_scale_firsts_A v_now_scale_seconds_A p0 = some u) :
    Met l yX7_readingAt wsX7_readingAt ({ frames := 2, cells := 0, slots := 0, locals := 50 } : Room) (va_Pc [.ref a_h, .int p0] (PreW D (ty4 cI cC cJ cB) sz [(a_h, .inr (7, [.ref a_h_now, .ref a_h_history, .ref a_h_text, .ref a_h_trial, .int v_refusal])), (a_h_now, .inr (0, [.ref a_h_now_spring, .ref a_h_now_scale, .ref a_h_now_weights])), (a_h_now_scale, .inr (2, [.ref a_h_now_scale_firsts, .ref a_h_now_scale_seconds, .int v_now_scale_size])), (a_h_now_scale_firsts, .inl (cI, 6, .inl v_now_scale_firsts_A)), (a_h_now_scale_seconds, .inl (cI, 6, .inl v_now_scale_seconds_A))]))
      (QI D (ty4 cI cC cJ cB) (va_A [(a_h, .inr (7, [.ref a_h_now, .ref a_h_history, .ref a_h_text, .ref a_h_trial, .int v_refusal])), (a_h_now, .inr (0, [.ref a_h_now_spring, .ref a_h_now_scale, .ref a_h_now_weights])), (a_h_now_scale, .inr (2, [.ref a_h_now_scale_firsts, .ref a_h_now_scale_seconds, .int v_now_scale_size])), (a_h_now_scale_firsts, .inl (cI, 6, .inl v_now_scale_firsts_A)), (a_h_now_scale_seconds, .inl (cI, 6, .inl v_now_scale_seconds_A))] sz) [(a_h, .inr (7, [.ref a_h_now, .ref a_h_history, .ref a_h_text, .ref a_h_trial, .int v_refusal])), (a_h_now, .inr (0, [.ref a_h_now_spring, .ref a_h_now_scale, .ref a_h_now_weights])), (a_h_now_scale, .inr (2, [.ref a_h_now_scale_firsts, .ref a_h_now_scale_seconds, .int v_now_scale_size])), (a_h_now_scale_firsts, .inl (cI, 6, .inl v_now_scale_firsts_A)), (a_h_now_scale_seconds, .inl (cI, 6, .inl v_now_scale_seconds_A))] u) 0 0 (va_A [(a_h, .inr (7, [.ref a_h_now, .ref a_h_history, .ref a_h_text, .ref a_h_trial, .int v_refusal])), (a_h_now, .inr (0, [.ref a_h_now_spring, .ref a_h_now_scale, .ref a_h_now_weights])), (a_h_now_scale, .inr (2, [.ref a_h_now_scale_firsts, .ref a_h_now_scale_seconds, .int v_now_scale_size])), (a_h_now_scale_firsts, .inl (cI, 6, .inl v_now_scale_firsts_A)), (a_h_now_scale_seconds, .inl (cI, 6, .inl v_now_scale_seconds_A))] sz) := by
  refine met_go (y := yX7_readingAt) (wsy := wsX7_readingAt) (cc := cX7_readingAt) (maxL := 2) (ret := (some .int)) (av := [.ref a_h, .int p0]) (Qc := fun A => QI D (ty4 cI cC cJ cB) A [(a_h, .inr (7, [.ref a_h_now, .ref a_h_history, .ref a_h_text, .ref a_h_trial, .int v_refusal])), (a_h_now, .inr (0, [.ref a_h_now_spring, .ref a_h_now_scale, .ref a_h_now_weights])), (a_h_now_scale, .inr (2, [.ref a_h_now_scale_firsts, .ref a_h_now_scale_seconds, .int v_now_scale_size])), (a_h_now_scale_firsts, .inl (cI, 6, .inl v_now_scale_firsts_A)), (a_h_now_scale_seconds, .inl (cI, 6, .inl v_now_scale_seconds_A))] u) (by decide) rfl (Nat.le_of_ble_eq_true rfl) ?_
  intro p e s m below meth c A ls hx hb hr hml hown hts hlocks hnm hN hK hP hD hS hA hl
  have h := hu
  clear hu
  unfold f_X7_readingAt at h
  have hl : lv_has ls 2 [(0, .ref a_h), (1, .int p0)] := hl
  refine lv_iload_n hx hb dX7_readingAt_0 rfl (lv_at hl 1 rfl) ?_
  refine lv_sipush (v := (-1000 : Int32)) hx hb dX7_readingAt_1 (by decide) ?_
  refine lv_sipush (v := (30000 : Int32)) hx hb dX7_readingAt_4 (by decide) ?_
  obtain ⟨u1, hu1, h⟩ := bd_e h
  refine kx_i (mc := 0) (ms := 0) (wr := [(a_h, .inr (7, [.ref a_h_now, .ref a_h_history, .ref a_h_text, .ref a_h_trial, .int v_refusal])), (a_h_now, .inr (0, [.ref a_h_now_spring, .ref a_h_now_scale, .ref a_h_now_weights])), (a_h_now_scale, .inr (2, [.ref a_h_now_scale_firsts, .ref a_h_now_scale_seconds, .int v_now_scale_size])), (a_h_now_scale_firsts, .inl (cI, 6, .inl v_now_scale_firsts_A)), (a_h_now_scale_seconds, .inl (cI, 6, .inl v_now_scale_seconds_A))]) (ws2 := [(a_h, .inr (7, [.ref a_h_now, .ref a_h_history, .ref a_h_text, .ref a_h_trial, .int v_refusal])), (a_h_now, .inr (0, [.ref a_h_now_spring, .ref a_h_now_scale, .ref a_h_now_weights])), (a_h_now_scale, .inr (2, [.ref a_h_now_scale_firsts, .ref a_h_now_scale_seconds, .int v_now_scale_size])), (a_h_now_scale_firsts, .inl (cI, 6, .inl v_now_scale_firsts_A)), (a_h_now_scale_seconds, .inl (cI, 6, .inl v_now_scale_seconds_A))]) (va_runS (As := [.int p0, .int (-1000 : Int32), .int (30000 : Int32)]) (rest := []) ⟨hx, hb, hml, hown, hts⟩ (k_X7_isOutside l D cI cC cJ cB N p0 (-1000 : Int32) (30000 : Int32) s.heap.size _ hu1) (va_cwS 3 hts gX7_readingAt_X7_isOutside rfl rfl rfl (by decide +kernel) ⟨Nat.le_of_ble_eq_true rfl, Nat.le_of_ble_eq_true rfl⟩) (pv_S hP hD hK hN [] rfl rfl) rfl rfl hl.1 rfl (lv_room (Nat.le_of_ble_eq_true rfl)) dX7_readingAt_7 ⟨Nat.zero_le _, Nat.zero_le _⟩) hP hD hS hA [] [0, 1, 2, 3, 4] [0, 1, 2, 3, 4] rfl rfl rfl rfl rfl rfl (fun H locs hP hD hS => ?_)
  refine lv_if_eq (tgt := 16) hx hb dX7_readingAt_10 (by decide) (fun hc2 => ?_) (fun hc2 => ?_)
  · replace h := it_e hc2 h
    refine lv_aload_n hx hb dX7_readingAt_16 rfl (lv_at hl 0 rfl) ?_
    refine va_get (D := D) (ci := 7) (v := .ref a_h_now) (C := RX7) (T := TX7) (N := 5) hx hb hts in_X7_readingAt_X7 hown hK hP 0 rfl rfl 0 (by decide) (hts _ q_X7_readingAt_2) (fun _ h9 => h9) rfl dX7_readingAt_17 ?_
    refine va_getN (D := D) (ci := 0) (v := .ref a_h_now_scale) (C := RX0) (T := TX0) (N := 3) hx hb hts in_X7_readingAt_X0 hown hK hP 1 rfl rfl 1 (by decide) (NN.f hN 17 rfl) (fun _ h9 => h9) rfl dX7_readingAt_20 ?_
    refine lv_iload_n hx hb dX7_readingAt_23 rfl (lv_at hl 1 rfl) ?_
    refine lv_iconst (v := (1 : Int32)) hx hb dX7_readingAt_24 (by decide) ?_
    obtain ⟨u3, hu3, h⟩ := bd_e h
    refine kx_i (mc := 0) (ms := 0) (wr := [(a_h, .inr (7, [.ref a_h_now, .ref a_h_history, .ref a_h_text, .ref a_h_trial, .int v_refusal])), (a_h_now, .inr (0, [.ref a_h_now_spring, .ref a_h_now_scale, .ref a_h_now_weights]))]) (ws2 := [(a_h, .inr (7, [.ref a_h_now, .ref a_h_history, .ref a_h_text, .ref a_h_trial, .int v_refusal])), (a_h_now, .inr (0, [.ref a_h_now_spring, .ref a_h_now_scale, .ref a_h_now_weights])), (a_h_now_scale, .inr (2, [.ref a_h_now_scale_firsts, .ref a_h_now_scale_seconds, .int v_now_scale_size])), (a_h_now_scale_firsts, .inl (cI, 6, .inl v_now_scale_firsts_A)), (a_h_now_scale_seconds, .inl (cI, 6, .inl v_now_scale_seconds_A))]) (va_runVN (As := [.int p0, .int (1 : Int32)]) (rest := []) ⟨hx, hb, hml, hown, hts⟩ (k_X2_valueAt l D cI cC cJ cB a_h_now_scale a_h_now_scale_firsts a_h_now_scale_seconds 6 v_now_scale_size v_now_scale_firsts_A v_now_scale_seconds_A N p0 (1 : Int32) H.size _ hu3) ⟨va_cnB 2 hts gX7_readingAt_X2_valueAt_n187 rfl rfl rfl (hN.m 37 rfl) (hts _ q_X7_readingAt_8) (by decide +kernel) ⟨Nat.le_of_ble_eq_true rfl, Nat.le_of_ble_eq_true rfl⟩, (hts _ q_X7_readingAt_7), (hts _ q_X7_readingAt_9)⟩ (pv_V hP hD hK hN [2, 3, 4] rfl rfl (ci := 2) rfl 2 rfl) rfl rfl hl.1 rfl (lv_room (Nat.le_of_ble_eq_true rfl)) dX7_readingAt_25 ⟨Nat.zero_le _, Nat.zero_le _⟩) hP hD hS hA [2, 3, 4] [0, 1] [0, 1, 2, 3, 4] rfl rfl rfl rfl rfl rfl (fun H locs hP hD hS => ?_)
    obtain rfl := sm_e h
    exact rx_i hx hb hr  hP hK hD hS dX7_readingAt_28 hlocks
  · replace h := if_e hc2 h
    refine lv_ldc (v := (-2000000001 : Int32)) hx hb hown (hts _ q_X7_readingAt_1) dX7_readingAt_13 ?_
    obtain rfl := sm_e h
    exact rx_i hx hb hr  hP hK hD hS dX7_readingAt_15 hlocks
-- X7_topOfSetting
def f_X7_topOfSetting (p0 : Int32) : Option (Int32) :=
  (if p0 = (0 : Int32) then some (200 : Int32)
    else (if p0 = (1 : Int32) then some (100 : Int32)
    else some (50 : Int32)))

set_option maxHeartbeats 8000000 in
set_option maxRecDepth 100000 in
theorem k_X7_topOfSetting (l : Launch) (D : va_G) (cI cC cJ cB : ClassId) (N : Nat) (p0 : Int32) (sz : Nat) (u : Int32) (hu : f_X7_topOfSetting p0 = some u) :
    Met l yX7_topOfSetting wsX7_topOfSetting ({ frames := 0, cells := 0, slots := 0, locals := 0 } : Room) (va_Pc [.int p0] (PreW D (ty4 cI cC cJ cB) sz []))
      (QI D (ty4 cI cC cJ cB) (va_A [] sz) [] u) 0 0 (va_A [] sz) := by
  refine met_go (y := yX7_topOfSetting) (wsy := wsX7_topOfSetting) (cc := cX7_topOfSetting) (maxL := 1) (ret := (some .int)) (av := [.int p0]) (Qc := fun A => QI D (ty4 cI cC cJ cB) A [] u) (by decide) rfl (Nat.le_of_ble_eq_true rfl) ?_
  intro p e s m below meth c A ls hx hb hr hml hown hts hlocks hnm hN hK hP hD hS hA hl
  have h := hu
  clear hu
  unfold f_X7_topOfSetting at h
  have hl : lv_has ls 1 [(0, .int p0)] := hl
  refine lv_iload_n hx hb dX7_topOfSetting_0 rfl (lv_at hl 0 rfl) ?_
  by_cases hc1 : p0 = (0 : Int32)
  · replace h := it_e hc1 h
    refine lv_lookup (off := 27) (tgt := 28) hx hb dX7_topOfSetting_1 (by decide) (by rw [hc1]; rfl) (by decide) ?_
    refine lv_sipush (v := (200 : Int32)) hx hb dX7_topOfSetting_28 (by decide) ?_
    obtain rfl := sm_e h
    exact rx_i hx hb hr  hP hK hD hS dX7_topOfSetting_31 hlocks
  · replace h := if_e hc1 h
    by_cases hc2 : p0 = (1 : Int32)
    · replace h := it_e hc2 h
      refine lv_lookup (off := 31) (tgt := 32) hx hb dX7_topOfSetting_1 (by decide) (by rw [hc2]; rfl) (by decide) ?_
      refine lv_bipush (v := (100 : Int32)) hx hb dX7_topOfSetting_32 (by decide) ?_
      obtain rfl := sm_e h
      exact rx_i hx hb hr  hP hK hD hS dX7_topOfSetting_34 hlocks
    · replace h := if_e hc2 h
      refine lv_lookup (off := 34) (tgt := 35) hx hb dX7_topOfSetting_1 (by decide) ((lv_osw hc1 rfl).trans ((lv_osw hc2 rfl).trans rfl)) (by decide) ?_
      refine lv_bipush (v := (50 : Int32)) hx hb dX7_topOfSetting_35 (by decide) ?_
      obtain rfl := sm_e h
      exact rx_i hx hb hr  hP hK hD hS dX7_topOfSetting_37 hlocks
