-- X4_append
def f_X4_append (v_length : Int32) (v_signs_A : Nat → Int32) (p0 : Int32) : Option (Int32 × (Nat → Int32)) :=
  (if (Int32.ofNat 80) ≤ v_length then some (v_length, v_signs_A)
    else gA v_length 80 (nm (upd v_signs_A (Int32.toNatClampNeg v_length) (vp_nar .char p0)) (fun g3 => nm (v_length + (1 : Int32)) (fun t4 => some (t4, g3)))))
theorem q_X4_append_1 : (.fieldLink RX4 15 "SpringBalance$Text" "length" "I" : Cond) ∈ wsX4_append := List.mem_of_getElem? (i := 1) (by decide +kernel)
set_option maxRecDepth 20000 in
theorem in_X4_append_X4 : ∀ w ∈ u_ws RX4 TX4 6, w ∈ wsX4_append := by decide +kernel
theorem q_X4_append_2 : (.fieldLink RX4 9 "SpringBalance$Text" "signs" "[C" : Cond) ∈ wsX4_append := List.mem_of_getElem? (i := 2) (by decide +kernel)
set_option maxHeartbeats 8000000 in
set_option maxRecDepth 100000 in
theorem k_X4_append (l : Launch) (D : va_G) (cI cC cJ cB : ClassId) (a_h a_h_signs : Nat) (v_length : Int32) (v_kind : Int32) (v_number : Int32) (v_digits : Int32) (v_next : Int32) (v_signs_A : Nat → Int32) (N : Nat) (p0 : Int32) (sz : Nat) (u : Int32 × (Nat → Int32)) (hu : f_X4_append v_length v_signs_A p0 = some u) :
    Met l yX4_append wsX4_append ({ frames := 0, cells := 0, slots := 0, locals := 0 } : Room) (va_Pc [.ref a_h, .int p0] (PreW D (ty4 cI cC cJ cB) sz [(a_h, .inr (4, [.ref a_h_signs, .int v_length, .int v_kind, .int v_number, .int v_digits, .int v_next])), (a_h_signs, .inl (cC, 80, .inl v_signs_A))]))
      (QV D (ty4 cI cC cJ cB) (va_A [(a_h, .inr (4, [.ref a_h_signs, .int v_length, .int v_kind, .int v_number, .int v_digits, .int v_next])), (a_h_signs, .inl (cC, 80, .inl v_signs_A))] sz) [(a_h, .inr (4, [.ref a_h_signs, .int u.1, .int v_kind, .int v_number, .int v_digits, .int v_next])), (a_h_signs, .inl (cC, 80, .inl u.2))]) 0 0 (va_A [(a_h, .inr (4, [.ref a_h_signs, .int v_length, .int v_kind, .int v_number, .int v_digits, .int v_next])), (a_h_signs, .inl (cC, 80, .inl v_signs_A))] sz) := by
  refine met_go (y := yX4_append) (wsy := wsX4_append) (cc := cX4_append) (maxL := 2) (ret := none) (av := [.ref a_h, .int p0]) (Qc := fun A => QV D (ty4 cI cC cJ cB) A [(a_h, .inr (4, [.ref a_h_signs, .int u.1, .int v_kind, .int v_number, .int v_digits, .int v_next])), (a_h_signs, .inl (cC, 80, .inl u.2))]) (by decide) rfl (Nat.le_of_ble_eq_true rfl) ?_
  intro p e s m below meth c A ls hx hb hr hml hown hts hlocks hnm hN hK hP hD hS hA hl
  have h := hu
  clear hu
  unfold f_X4_append at h
  have hl : lv_has ls 2 [(0, .ref a_h), (1, .int p0)] := hl
  refine lv_aload_n hx hb dX4_append_0 rfl (lv_at hl 0 rfl) ?_
  refine va_get (D := D) (ci := 4) (v := .int v_length) (C := RX4) (T := TX4) (N := 6) hx hb hts in_X4_append_X4 hown hK hP 0 rfl rfl 1 (by decide) (hts _ q_X4_append_1) (fun _ h9 => h9) rfl dX4_append_1 ?_
  refine lv_aload_n hx hb dX4_append_4 rfl (lv_at hl 0 rfl) ?_
  refine va_get (D := D) (ci := 4) (v := .ref a_h_signs) (C := RX4) (T := TX4) (N := 6) hx hb hts in_X4_append_X4 hown hK hP 0 rfl rfl 0 (by decide) (hts _ q_X4_append_2) (fun _ h9 => h9) rfl dX4_append_5 ?_
  refine va_alen (ty := .char) (v := (Int32.ofNat 80)) hx hb hK hP 1 1 rfl rfl rfl dX4_append_8 ?_
  refine lv_icmp_ge (tgt := 32) hx hb dX4_append_9 (by decide) (fun hc1 => ?_) (fun hc1 => ?_)
  · replace h := it_e hc1 h
    obtain rfl := sm_e h
    exact rx_v hx hb hr  hP hK hD hS dX4_append_32 hlocks
  · replace h := if_e hc1 h
    refine lv_aload_n hx hb dX4_append_12 rfl (lv_at hl 0 rfl) ?_
    refine va_get (D := D) (ci := 4) (v := .ref a_h_signs) (C := RX4) (T := TX4) (N := 6) hx hb hts in_X4_append_X4 hown hK hP 0 rfl rfl 0 (by decide) (hts _ q_X4_append_2) (fun _ h9 => h9) rfl dX4_append_13 ?_
    refine lv_aload_n hx hb dX4_append_16 rfl (lv_at hl 0 rfl) ?_
    refine va_get (D := D) (ci := 4) (v := .int v_length) (C := RX4) (T := TX4) (N := 6) hx hb hts in_X4_append_X4 hown hK hP 0 rfl rfl 1 (by decide) (hts _ q_X4_append_1) (fun _ h9 => h9) rfl dX4_append_17 ?_
    refine lv_iload_n hx hb dX4_append_20 rfl (lv_at hl 1 rfl) ?_
    obtain ⟨hi2, h⟩ := gA_e h
    refine va_cast hx hb hK hP hD hS 1 1 rfl rfl hi2 dX4_append_21 (fun H locs hP hD hS => ?_)
    obtain ⟨g3, eg3, h⟩ := nm_x h
    have hP : va_P D vwCl [(a_h, .inr (4, [.ref a_h_signs, .int v_length, .int v_kind, .int v_number, .int v_digits, .int v_next])), (a_h_signs, .inl (cC, 80, .inl g3))] H := by rw [eg3]; exact hP
    have hD : va_D A [(a_h, .inr (4, [.ref a_h_signs, .int v_length, .int v_kind, .int v_number, .int v_digits, .int v_next])), (a_h_signs, .inl (cC, 80, .inl g3))] := by rw [eg3]; exact hD
    refine lv_aload_n hx hb dX4_append_22 rfl (lv_at hl 0 rfl) ?_
    refine lv_dup hx hb dX4_append_23 rfl ?_
    refine va_get (D := D) (ci := 4) (v := .int v_length) (C := RX4) (T := TX4) (N := 6) hx hb hts in_X4_append_X4 hown hK hP 0 rfl rfl 1 (by decide) (hts _ q_X4_append_1) (fun _ h9 => h9) rfl dX4_append_24 ?_
    refine lv_iconst (v := (1 : Int32)) hx hb dX4_append_27 (by decide) ?_
    refine lv_iadd hx hb dX4_append_28 ?_
    refine lv_topi (fun t4 et4 => ?_)
    replace h := nm_at h et4
    refine va_put (D := D) (ci := 4) (v := .int t4) (ty := .int) (C := RX4) (T := TX4) (N := 6) hx hb hts in_X4_append_X4 tyX4 tyX4_ok nmX4 hown hK hP hD hS 0 rfl rfl 1 (by decide) (hts _ q_X4_append_1) (fun _ h9 => h9) rfl (by decide +kernel) rfl rfl (Nat.le_of_ble_eq_true rfl) dX4_append_29 (fun H locs hP hD hS => ?_)
    have hP : va_P D vwCl [(a_h, .inr (4, [.ref a_h_signs, .int t4, .int v_kind, .int v_number, .int v_digits, .int v_next])), (a_h_signs, .inl (cC, 80, .inl g3))] H := hP
    have hD : va_D A [(a_h, .inr (4, [.ref a_h_signs, .int t4, .int v_kind, .int v_number, .int v_digits, .int v_next])), (a_h_signs, .inl (cC, 80, .inl g3))] := hD
    obtain rfl := sm_e h
    exact rx_v hx hb hr  hP hK hD hS dX4_append_32 hlocks
-- X4_signAt
def f_X4_signAt (v_length : Int32) (v_signs_A : Nat → Int32) (p0 : Int32) : Option (Int32) :=
  (if p0 < 0 then gT (((Int32.toUInt32 (32 : Int32)) % 65536).toInt32 = (32 : Int32)) (some (32 : Int32))
    else (if v_length ≤ p0 then gT (((Int32.toUInt32 (32 : Int32)) % 65536).toInt32 = (32 : Int32)) (some (32 : Int32))
    else gA p0 80 (gT (((Int32.toUInt32 (v_signs_A (Int32.toNatClampNeg p0))) % 65536).toInt32 = (v_signs_A (Int32.toNatClampNeg p0))) (some (v_signs_A (Int32.toNatClampNeg p0))))))
theorem q_X4_signAt_1 : (.fieldLink RX4 15 "SpringBalance$Text" "length" "I" : Cond) ∈ wsX4_signAt := List.mem_of_getElem? (i := 1) (by decide +kernel)
set_option maxRecDepth 20000 in
theorem in_X4_signAt_X4 : ∀ w ∈ u_ws RX4 TX4 6, w ∈ wsX4_signAt := by decide +kernel
theorem q_X4_signAt_2 : (.fieldLink RX4 9 "SpringBalance$Text" "signs" "[C" : Cond) ∈ wsX4_signAt := List.mem_of_getElem? (i := 2) (by decide +kernel)
set_option maxHeartbeats 8000000 in
set_option maxRecDepth 100000 in
theorem k_X4_signAt (l : Launch) (D : va_G) (cI cC cJ cB : ClassId) (a_h a_h_signs : Nat) (v_length : Int32) (v_kind : Int32) (v_number : Int32) (v_digits : Int32) (v_next : Int32) (v_signs_A : Nat → Int32) (N : Nat) (p0 : Int32) (sz : Nat) (u : Int32) (hu : f_X4_signAt v_length v_signs_A p0 = some u) :
    Met l yX4_signAt wsX4_signAt ({ frames := 0, cells := 0, slots := 0, locals := 0 } : Room) (va_Pc [.ref a_h, .int p0] (PreW D (ty4 cI cC cJ cB) sz [(a_h, .inr (4, [.ref a_h_signs, .int v_length, .int v_kind, .int v_number, .int v_digits, .int v_next])), (a_h_signs, .inl (cC, 80, .inl v_signs_A))]))
      (QI D (ty4 cI cC cJ cB) (va_A [(a_h, .inr (4, [.ref a_h_signs, .int v_length, .int v_kind, .int v_number, .int v_digits, .int v_next])), (a_h_signs, .inl (cC, 80, .inl v_signs_A))] sz) [(a_h, .inr (4, [.ref a_h_signs, .int v_length, .int v_kind, .int v_number, .int v_digits, .int v_next])), (a_h_signs, .inl (cC, 80, .inl v_signs_A))] u) 0 0 (va_A [(a_h, .inr (4, [.ref a_h_signs, .int v_length, .int v_kind, .int v_number, .int v_digits, .int v_next])), (a_h_signs, .inl (cC, 80, .inl v_signs_A))] sz) := by
  refine met_go (y := yX4_signAt) (wsy := wsX4_signAt) (cc := cX4_signAt) (maxL := 2) (ret := (some .char)) (av := [.ref a_h, .int p0]) (Qc := fun A => QI D (ty4 cI cC cJ cB) A [(a_h, .inr (4, [.ref a_h_signs, .int v_length, .int v_kind, .int v_number, .int v_digits, .int v_next])), (a_h_signs, .inl (cC, 80, .inl v_signs_A))] u) (by decide) rfl (Nat.le_of_ble_eq_true rfl) ?_
  intro p e s m below meth c A ls hx hb hr hml hown hts hlocks hnm hN hK hP hD hS hA hl
  have h := hu
  clear hu
  unfold f_X4_signAt at h
  have hl : lv_has ls 2 [(0, .ref a_h), (1, .int p0)] := hl
  refine lv_iload_n hx hb dX4_signAt_0 rfl (lv_at hl 1 rfl) ?_
  refine lv_if_lt (tgt := 21) hx hb dX4_signAt_1 (by decide) (fun hc1 => ?_) (fun hc1 => ?_)
  · replace h := it_e hc1 h
    refine lv_bipush (v := (32 : Int32)) hx hb dX4_signAt_21 (by decide) ?_
    obtain ⟨hz2, h⟩ := gT_e h
    obtain rfl := sm_e h
    exact rx_z hx hb hr (nar_c hz2) hP hK hD hS dX4_signAt_23 hlocks
  · replace h := if_e hc1 h
    refine lv_iload_n hx hb dX4_signAt_4 rfl (lv_at hl 1 rfl) ?_
    refine lv_aload_n hx hb dX4_signAt_5 rfl (lv_at hl 0 rfl) ?_
    refine va_get (D := D) (ci := 4) (v := .int v_length) (C := RX4) (T := TX4) (N := 6) hx hb hts in_X4_signAt_X4 hown hK hP 0 rfl rfl 1 (by decide) (hts _ q_X4_signAt_1) (fun _ h9 => h9) rfl dX4_signAt_6 ?_
    refine lv_icmp_ge (tgt := 21) hx hb dX4_signAt_9 (by decide) (fun hc3 => ?_) (fun hc3 => ?_)
    · replace h := it_e hc3 h
      refine lv_bipush (v := (32 : Int32)) hx hb dX4_signAt_21 (by decide) ?_
      obtain ⟨hz4, h⟩ := gT_e h
      obtain rfl := sm_e h
      exact rx_z hx hb hr (nar_c hz4) hP hK hD hS dX4_signAt_23 hlocks
    · replace h := if_e hc3 h
      refine lv_aload_n hx hb dX4_signAt_12 rfl (lv_at hl 0 rfl) ?_
      refine va_get (D := D) (ci := 4) (v := .ref a_h_signs) (C := RX4) (T := TX4) (N := 6) hx hb hts in_X4_signAt_X4 hown hK hP 0 rfl rfl 0 (by decide) (hts _ q_X4_signAt_2) (fun _ h9 => h9) rfl dX4_signAt_13 ?_
      refine lv_iload_n hx hb dX4_signAt_16 rfl (lv_at hl 1 rfl) ?_
      obtain ⟨hi5, h⟩ := gA_e h
      refine va_cald hx hb hK hP 1 1 rfl rfl hi5 dX4_signAt_17 ?_
      refine lv_goto (tgt := 23) hx hb dX4_signAt_18 (by decide) ?_
      obtain ⟨hz6, h⟩ := gT_e h
      obtain rfl := sm_e h
      exact rx_z hx hb hr (nar_c hz6) hP hK hD hS dX4_signAt_23 hlocks
-- X4_stepBehind
def f_X4_stepBehind (v_length : Int32) (v_signs_A : Nat → Int32) (p0 : Int32) : Option (Int32 × Int32) :=
  (if ¬ p0 = v_length then nm (p0 + (1 : Int32)) (fun t2 => (if p0 = v_length then some ((1 : Int32), t2)
    else Option.bind (f_X4_signAt v_length v_signs_A p0) (fun u4 => (if ¬ u4 = (59 : Int32) then some ((0 : Int32), t2)
    else (if v_length ≤ t2 then some ((0 : Int32), t2)
    else some ((1 : Int32), t2))))))
    else (if p0 = v_length then some ((1 : Int32), p0)
    else Option.bind (f_X4_signAt v_length v_signs_A p0) (fun u8 => (if ¬ u8 = (59 : Int32) then some ((0 : Int32), p0)
    else (if v_length ≤ p0 then some ((0 : Int32), p0)
    else some ((1 : Int32), p0))))))
theorem q_X4_stepBehind_1 : (.fieldLink RX4 15 "SpringBalance$Text" "length" "I" : Cond) ∈ wsX4_stepBehind := List.mem_of_getElem? (i := 1) (by decide +kernel)
set_option maxRecDepth 20000 in
theorem in_X4_stepBehind_X4 : ∀ w ∈ u_ws RX4 TX4 6, w ∈ wsX4_stepBehind := by decide +kernel
theorem q_X4_stepBehind_2 : (.fieldLink RX4 23 "SpringBalance$Text" "next" "I" : Cond) ∈ wsX4_stepBehind := List.mem_of_getElem? (i := 2) (by decide +kernel)
set_option maxHeartbeats 8000000 in
set_option maxRecDepth 100000 in
theorem k_X4_stepBehind (l : Launch) (D : va_G) (cI cC cJ cB : ClassId) (a_h a_h_signs : Nat) (v_length : Int32) (v_kind : Int32) (v_number : Int32) (v_digits : Int32) (v_next : Int32) (v_signs_A : Nat → Int32) (N : Nat) (p0 : Int32) (sz : Nat) (u : Int32 × Int32) (hu : f_X4_stepBehind v_length v_signs_A p0 = some u) :
    Met l yX4_stepBehind wsX4_stepBehind ({ frames := 1, cells := 0, slots := 0, locals := 21 } : Room) (va_Pc [.ref a_h, .int p0] (PreW D (ty4 cI cC cJ cB) sz [(a_h, .inr (4, [.ref a_h_signs, .int v_length, .int v_kind, .int v_number, .int v_digits, .int v_next])), (a_h_signs, .inl (cC, 80, .inl v_signs_A))]))
      (QI D (ty4 cI cC cJ cB) (va_A [(a_h, .inr (4, [.ref a_h_signs, .int v_length, .int v_kind, .int v_number, .int v_digits, .int v_next])), (a_h_signs, .inl (cC, 80, .inl v_signs_A))] sz) [(a_h, .inr (4, [.ref a_h_signs, .int v_length, .int v_kind, .int v_number, .int v_digits, .int u.2])), (a_h_signs, .inl (cC, 80, .inl v_signs_A))] u.1) 0 0 (va_A [(a_h, .inr (4, [.ref a_h_signs, .int v_length, .int v_kind, .int v_number, .int v_digits, .int v_next])), (a_h_signs, .inl (cC, 80, .inl v_signs_A))] sz) := by
  refine met_go (y := yX4_stepBehind) (wsy := wsX4_stepBehind) (cc := cX4_stepBehind) (maxL := 2) (ret := (some .boolean)) (av := [.ref a_h, .int p0]) (Qc := fun A => QI D (ty4 cI cC cJ cB) A [(a_h, .inr (4, [.ref a_h_signs, .int v_length, .int v_kind, .int v_number, .int v_digits, .int u.2])), (a_h_signs, .inl (cC, 80, .inl v_signs_A))] u.1) (by decide) rfl (Nat.le_of_ble_eq_true rfl) ?_
  intro p e s m below meth c A ls hx hb hr hml hown hts hlocks hnm hN hK hP hD hS hA hl
  have h := hu
  clear hu
  unfold f_X4_stepBehind at h
  have hl : lv_has ls 2 [(0, .ref a_h), (1, .int p0)] := hl
  refine lv_aload_n hx hb dX4_stepBehind_0 rfl (lv_at hl 0 rfl) ?_
  refine lv_iload_n hx hb dX4_stepBehind_1 rfl (lv_at hl 1 rfl) ?_
  refine lv_aload_n hx hb dX4_stepBehind_2 rfl (lv_at hl 0 rfl) ?_
  refine va_get (D := D) (ci := 4) (v := .int v_length) (C := RX4) (T := TX4) (N := 6) hx hb hts in_X4_stepBehind_X4 hown hK hP 0 rfl rfl 1 (by decide) (hts _ q_X4_stepBehind_1) (fun _ h9 => h9) rfl dX4_stepBehind_3 ?_
  refine lv_icmp_ne (tgt := 13) hx hb dX4_stepBehind_6 (by decide) (fun hc1 => ?_) (fun hc1 => ?_)
  · replace h := it_e hc1 h
    refine lv_iload_n hx hb dX4_stepBehind_13 rfl (lv_at hl 1 rfl) ?_
    refine lv_iconst (v := (1 : Int32)) hx hb dX4_stepBehind_14 (by decide) ?_
    refine lv_iadd hx hb dX4_stepBehind_15 ?_
    refine lv_topi (fun t2 et2 => ?_)
    replace h := nm_at h et2
    refine va_put (D := D) (ci := 4) (v := .int t2) (ty := .int) (C := RX4) (T := TX4) (N := 6) hx hb hts in_X4_stepBehind_X4 tyX4 tyX4_ok nmX4 hown hK hP hD hS 0 rfl rfl 5 (by decide) (hts _ q_X4_stepBehind_2) (fun _ h9 => h9) rfl (by decide +kernel) rfl rfl (Nat.le_of_ble_eq_true rfl) dX4_stepBehind_16 (fun H locs hP hD hS => ?_)
    have hP : va_P D vwCl [(a_h, .inr (4, [.ref a_h_signs, .int v_length, .int v_kind, .int v_number, .int v_digits, .int t2])), (a_h_signs, .inl (cC, 80, .inl v_signs_A))] H := hP
    have hD : va_D A [(a_h, .inr (4, [.ref a_h_signs, .int v_length, .int v_kind, .int v_number, .int v_digits, .int t2])), (a_h_signs, .inl (cC, 80, .inl v_signs_A))] := hD
    refine lv_iload_n hx hb dX4_stepBehind_19 rfl (lv_at hl 1 rfl) ?_
    refine lv_aload_n hx hb dX4_stepBehind_20 rfl (lv_at hl 0 rfl) ?_
    refine va_get (D := D) (ci := 4) (v := .int v_length) (C := RX4) (T := TX4) (N := 6) hx hb hts in_X4_stepBehind_X4 hown hK hP 0 rfl rfl 1 (by decide) (hts _ q_X4_stepBehind_1) (fun _ h9 => h9) rfl dX4_stepBehind_21 ?_
    refine lv_icmp_eq (tgt := 48) hx hb dX4_stepBehind_24 (by decide) (fun hc3 => ?_) (fun hc3 => ?_)
    · replace h := it_e hc3 h
      refine lv_iconst (v := (1 : Int32)) hx hb dX4_stepBehind_48 (by decide) ?_
      refine lv_goto (tgt := 53) hx hb dX4_stepBehind_49 (by decide) ?_
      obtain rfl := sm_e h
      exact rx_z hx hb hr (nar_z (Or.inr rfl)) hP hK hD hS dX4_stepBehind_53 hlocks
    · replace h := if_e hc3 h
      refine lv_aload_n hx hb dX4_stepBehind_27 rfl (lv_at hl 0 rfl) ?_
      refine lv_iload_n hx hb dX4_stepBehind_28 rfl (lv_at hl 1 rfl) ?_
      obtain ⟨u4, hu4, h⟩ := bd_e h
      refine kx_i (mc := 0) (ms := 0) (wr := []) (ws2 := [(a_h, .inr (4, [.ref a_h_signs, .int v_length, .int v_kind, .int v_number, .int v_digits, .int t2])), (a_h_signs, .inl (cC, 80, .inl v_signs_A))]) (va_runV (As := [.int p0]) (rest := []) ⟨hx, hb, hml, hown, hts⟩ (k_X4_signAt l D cI cC cJ cB a_h a_h_signs v_length v_kind v_number v_digits t2 v_signs_A N p0 H.size _ hu4) (cwV 1 hts gX4_stepBehind_X4_signAt rfl rfl rfl (by decide +kernel) ⟨Nat.le_of_ble_eq_true rfl, Nat.le_of_ble_eq_true rfl⟩) (pv_V hP hD hK hN [0, 1] rfl rfl (ci := 4) rfl 0 rfl) rfl rfl hl.1 rfl (lv_room (Nat.le_of_ble_eq_true rfl)) dX4_stepBehind_29 ⟨Nat.zero_le _, Nat.zero_le _⟩) hP hD hS hA [0, 1] [] [0, 1] rfl rfl rfl rfl rfl rfl (fun H locs hP hD hS => ?_)
      refine lv_bipush (v := (59 : Int32)) hx hb dX4_stepBehind_32 (by decide) ?_
      refine lv_icmp_ne (tgt := 52) hx hb dX4_stepBehind_34 (by decide) (fun hc5 => ?_) (fun hc5 => ?_)
      · replace h := it_e hc5 h
        refine lv_iconst (v := (0 : Int32)) hx hb dX4_stepBehind_52 (by decide) ?_
        obtain rfl := sm_e h
        exact rx_z hx hb hr (nar_z (Or.inl rfl)) hP hK hD hS dX4_stepBehind_53 hlocks
      · replace h := in_e hc5 h
        refine lv_aload_n hx hb dX4_stepBehind_37 rfl (lv_at hl 0 rfl) ?_
        refine va_get (D := D) (ci := 4) (v := .int t2) (C := RX4) (T := TX4) (N := 6) hx hb hts in_X4_stepBehind_X4 hown hK hP 0 rfl rfl 5 (by decide) (hts _ q_X4_stepBehind_2) (fun _ h9 => h9) rfl dX4_stepBehind_38 ?_
        refine lv_aload_n hx hb dX4_stepBehind_41 rfl (lv_at hl 0 rfl) ?_
        refine va_get (D := D) (ci := 4) (v := .int v_length) (C := RX4) (T := TX4) (N := 6) hx hb hts in_X4_stepBehind_X4 hown hK hP 0 rfl rfl 1 (by decide) (hts _ q_X4_stepBehind_1) (fun _ h9 => h9) rfl dX4_stepBehind_42 ?_
        refine lv_icmp_ge (tgt := 52) hx hb dX4_stepBehind_45 (by decide) (fun hc6 => ?_) (fun hc6 => ?_)
        · replace h := it_e hc6 h
          refine lv_iconst (v := (0 : Int32)) hx hb dX4_stepBehind_52 (by decide) ?_
          obtain rfl := sm_e h
          exact rx_z hx hb hr (nar_z (Or.inl rfl)) hP hK hD hS dX4_stepBehind_53 hlocks
        · replace h := if_e hc6 h
          refine lv_iconst (v := (1 : Int32)) hx hb dX4_stepBehind_48 (by decide) ?_
          refine lv_goto (tgt := 53) hx hb dX4_stepBehind_49 (by decide) ?_
          obtain rfl := sm_e h
          exact rx_z hx hb hr (nar_z (Or.inr rfl)) hP hK hD hS dX4_stepBehind_53 hlocks
  · replace h := in_e hc1 h
    refine lv_iload_n hx hb dX4_stepBehind_9 rfl (lv_at hl 1 rfl) ?_
    refine lv_goto (tgt := 16) hx hb dX4_stepBehind_10 (by decide) ?_
    refine va_put (D := D) (ci := 4) (v := .int p0) (ty := .int) (C := RX4) (T := TX4) (N := 6) hx hb hts in_X4_stepBehind_X4 tyX4 tyX4_ok nmX4 hown hK hP hD hS 0 rfl rfl 5 (by decide) (hts _ q_X4_stepBehind_2) (fun _ h9 => h9) rfl (by decide +kernel) rfl rfl (Nat.le_of_ble_eq_true rfl) dX4_stepBehind_16 (fun H locs hP hD hS => ?_)
    have hP : va_P D vwCl [(a_h, .inr (4, [.ref a_h_signs, .int v_length, .int v_kind, .int v_number, .int v_digits, .int p0])), (a_h_signs, .inl (cC, 80, .inl v_signs_A))] H := hP
    have hD : va_D A [(a_h, .inr (4, [.ref a_h_signs, .int v_length, .int v_kind, .int v_number, .int v_digits, .int p0])), (a_h_signs, .inl (cC, 80, .inl v_signs_A))] := hD
    refine lv_iload_n hx hb dX4_stepBehind_19 rfl (lv_at hl 1 rfl) ?_
    refine lv_aload_n hx hb dX4_stepBehind_20 rfl (lv_at hl 0 rfl) ?_
    refine va_get (D := D) (ci := 4) (v := .int v_length) (C := RX4) (T := TX4) (N := 6) hx hb hts in_X4_stepBehind_X4 hown hK hP 0 rfl rfl 1 (by decide) (hts _ q_X4_stepBehind_1) (fun _ h9 => h9) rfl dX4_stepBehind_21 ?_
    refine lv_icmp_eq (tgt := 48) hx hb dX4_stepBehind_24 (by decide) (fun hc7 => ?_) (fun hc7 => ?_)
    · replace h := it_e hc7 h
      refine lv_iconst (v := (1 : Int32)) hx hb dX4_stepBehind_48 (by decide) ?_
      refine lv_goto (tgt := 53) hx hb dX4_stepBehind_49 (by decide) ?_
      obtain rfl := sm_e h
      exact rx_z hx hb hr (nar_z (Or.inr rfl)) hP hK hD hS dX4_stepBehind_53 hlocks
    · replace h := if_e hc7 h
      refine lv_aload_n hx hb dX4_stepBehind_27 rfl (lv_at hl 0 rfl) ?_
      refine lv_iload_n hx hb dX4_stepBehind_28 rfl (lv_at hl 1 rfl) ?_
      obtain ⟨u8, hu8, h⟩ := bd_e h
      refine kx_i (mc := 0) (ms := 0) (wr := []) (ws2 := [(a_h, .inr (4, [.ref a_h_signs, .int v_length, .int v_kind, .int v_number, .int v_digits, .int p0])), (a_h_signs, .inl (cC, 80, .inl v_signs_A))]) (va_runV (As := [.int p0]) (rest := []) ⟨hx, hb, hml, hown, hts⟩ (k_X4_signAt l D cI cC cJ cB a_h a_h_signs v_length v_kind v_number v_digits p0 v_signs_A N p0 H.size _ hu8) (cwV 1 hts gX4_stepBehind_X4_signAt rfl rfl rfl (by decide +kernel) ⟨Nat.le_of_ble_eq_true rfl, Nat.le_of_ble_eq_true rfl⟩) (pv_V hP hD hK hN [0, 1] rfl rfl (ci := 4) rfl 0 rfl) rfl rfl hl.1 rfl (lv_room (Nat.le_of_ble_eq_true rfl)) dX4_stepBehind_29 ⟨Nat.zero_le _, Nat.zero_le _⟩) hP hD hS hA [0, 1] [] [0, 1] rfl rfl rfl rfl rfl rfl (fun H locs hP hD hS => ?_)
      refine lv_bipush (v := (59 : Int32)) hx hb dX4_stepBehind_32 (by decide) ?_
      refine lv_icmp_ne (tgt := 52) hx hb dX4_stepBehind_34 (by decide) (fun hc9 => ?_) (fun hc9 => ?_)
      · replace h := it_e hc9 h
        refine lv_iconst (v := (0 : Int32)) hx hb dX4_stepBehind_52 (by decide) ?_
        obtain rfl := sm_e h
        exact rx_z hx hb hr (nar_z (Or.inl rfl)) hP hK hD hS dX4_stepBehind_53 hlocks
      · replace h := in_e hc9 h
        refine lv_aload_n hx hb dX4_stepBehind_37 rfl (lv_at hl 0 rfl) ?_
        refine va_get (D := D) (ci := 4) (v := .int p0) (C := RX4) (T := TX4) (N := 6) hx hb hts in_X4_stepBehind_X4 hown hK hP 0 rfl rfl 5 (by decide) (hts _ q_X4_stepBehind_2) (fun _ h9 => h9) rfl dX4_stepBehind_38 ?_
        refine lv_aload_n hx hb dX4_stepBehind_41 rfl (lv_at hl 0 rfl) ?_
        refine va_get (D := D) (ci := 4) (v := .int v_length) (C := RX4) (T := TX4) (N := 6) hx hb hts in_X4_stepBehind_X4 hown hK hP 0 rfl rfl 1 (by decide) (hts _ q_X4_stepBehind_1) (fun _ h9 => h9) rfl dX4_stepBehind_42 ?_
        refine lv_icmp_ge (tgt := 52) hx hb dX4_stepBehind_45 (by decide) (fun hc10 => ?_) (fun hc10 => ?_)
        · replace h := it_e hc10 h
          refine lv_iconst (v := (0 : Int32)) hx hb dX4_stepBehind_52 (by decide) ?_
          obtain rfl := sm_e h
          exact rx_z hx hb hr (nar_z (Or.inl rfl)) hP hK hD hS dX4_stepBehind_53 hlocks
        · replace h := if_e hc10 h
          refine lv_iconst (v := (1 : Int32)) hx hb dX4_stepBehind_48 (by decide) ?_
          refine lv_goto (tgt := 53) hx hb dX4_stepBehind_49 (by decide) ?_
          obtain rfl := sm_e h
          exact rx_z hx hb hr (nar_z (Or.inr rfl)) hP hK hD hS dX4_stepBehind_53 hlocks
-- X4_isDigit
def f_X4_isDigit (p0 : Int32) : Option (Int32) :=
  (if p0 < (48 : Int32) then some (0 : Int32)
    else (if (57 : Int32) < p0 then some (0 : Int32)
    else some (1 : Int32)))

set_option maxHeartbeats 8000000 in
set_option maxRecDepth 100000 in
theorem k_X4_isDigit (l : Launch) (D : va_G) (cI cC cJ cB : ClassId) (N : Nat) (p0 : Int32) (sz : Nat) (u : Int32) (hu : f_X4_isDigit p0 = some u) :
    Met l yX4_isDigit wsX4_isDigit ({ frames := 0, cells := 0, slots := 0, locals := 0 } : Room) (va_Pc [.int p0] (PreW D (ty4 cI cC cJ cB) sz []))
      (QI D (ty4 cI cC cJ cB) (va_A [] sz) [] u) 0 0 (va_A [] sz) := by
  refine met_go (y := yX4_isDigit) (wsy := wsX4_isDigit) (cc := cX4_isDigit) (maxL := 1) (ret := (some .boolean)) (av := [.int p0]) (Qc := fun A => QI D (ty4 cI cC cJ cB) A [] u) (by decide) rfl (Nat.le_of_ble_eq_true rfl) ?_
  intro p e s m below meth c A ls hx hb hr hml hown hts hlocks hnm hN hK hP hD hS hA hl
  have h := hu
  clear hu
  unfold f_X4_isDigit at h
  have hl : lv_has ls 1 [(0, .int p0)] := hl
  refine lv_iload_n hx hb dX4_isDigit_0 rfl (lv_at hl 0 rfl) ?_
  refine lv_bipush (v := (48 : Int32)) hx hb dX4_isDigit_1 (by decide) ?_
  refine lv_icmp_lt (tgt := 16) hx hb dX4_isDigit_3 (by decide) (fun hc1 => ?_) (fun hc1 => ?_)
  · replace h := it_e hc1 h
    refine lv_iconst (v := (0 : Int32)) hx hb dX4_isDigit_16 (by decide) ?_
    obtain rfl := sm_e h
    exact rx_z hx hb hr rfl hP hK hD hS dX4_isDigit_17 hlocks
  · replace h := if_e hc1 h
    refine lv_iload_n hx hb dX4_isDigit_6 rfl (lv_at hl 0 rfl) ?_
    refine lv_bipush (v := (57 : Int32)) hx hb dX4_isDigit_7 (by decide) ?_
    refine lv_icmp_gt (tgt := 16) hx hb dX4_isDigit_9 (by decide) (fun hc2 => ?_) (fun hc2 => ?_)
    · replace h := it_e hc2 h
      refine lv_iconst (v := (0 : Int32)) hx hb dX4_isDigit_16 (by decide) ?_
      obtain rfl := sm_e h
      exact rx_z hx hb hr rfl hP hK hD hS dX4_isDigit_17 hlocks
    · replace h := if_e hc2 h
      refine lv_iconst (v := (1 : Int32)) hx hb dX4_isDigit_12 (by decide) ?_
      refine lv_goto (tgt := 17) hx hb dX4_isDigit_13 (by decide) ?_
      obtain rfl := sm_e h
      exact rx_z hx hb hr rfl hP hK hD hS dX4_isDigit_17 hlocks
-- X4_readNumber
def f_X4_readNumber_b10 (v_length : Int32) (v_signs_A : Nat → Int32) (p0 : Int32) (p1 : Int32) : Nat → Int32 → Int32 → Option (Int32 × Int32)
  | 0, _, _ => none
  | k + 1, m_number, m_digits =>
    (if p1 ≤ m_digits then some (m_number, m_digits)
    else Option.bind (f_X4_signAt v_length v_signs_A (p0 + m_digits)) (fun u2 => Option.bind (f_X4_isDigit u2) (fun u3 => (if u3 = 0 then some (m_number, m_digits)
    else Option.bind (f_X4_signAt v_length v_signs_A (p0 + m_digits)) (fun u5 => nm ((m_number * (10 : Int32)) + (u5 - (48 : Int32))) (fun t6 => nm (m_digits + (1 : Int32)) (fun t7 => (f_X4_readNumber_b10 v_length v_signs_A p0 p1 k t6 t7))))))))
def f_X4_readNumber (N : Nat) (v_length : Int32) (v_signs_A : Nat → Int32) (p0 : Int32) (p1 : Int32) : Option (Int32 × Int32) :=
  (f_X4_readNumber_b10 v_length v_signs_A p0 p1 N (0 : Int32) (0 : Int32))
theorem q_X4_readNumber_1 : (.fieldLink RX4 44 "SpringBalance$Text" "number" "I" : Cond) ∈ wsX4_readNumber := List.mem_of_getElem? (i := 1) (by decide +kernel)
set_option maxRecDepth 20000 in
theorem in_X4_readNumber_X4 : ∀ w ∈ u_ws RX4 TX4 6, w ∈ wsX4_readNumber := by decide +kernel
theorem q_X4_readNumber_2 : (.fieldLink RX4 38 "SpringBalance$Text" "digits" "I" : Cond) ∈ wsX4_readNumber := List.mem_of_getElem? (i := 2) (by decide +kernel)
set_option maxHeartbeats 8000000 in
set_option maxRecDepth 100000 in
theorem k_X4_readNumber (l : Launch) (D : va_G) (cI cC cJ cB : ClassId) (a_h a_h_signs : Nat) (v_length : Int32) (v_kind : Int32) (v_number : Int32) (v_digits : Int32) (v_next : Int32) (v_signs_A : Nat → Int32) (N : Nat) (p0 : Int32) (p1 : Int32) (sz : Nat) (u : Int32 × Int32) (hu : f_X4_readNumber N v_length v_signs_A p0 p1 = some u) :
    Met l yX4_readNumber wsX4_readNumber ({ frames := 1, cells := 0, slots := 0, locals := 21 } : Room) (va_Pc [.ref a_h, .int p0, .int p1] (PreW D (ty4 cI cC cJ cB) sz [(a_h, .inr (4, [.ref a_h_signs, .int v_length, .int v_kind, .int v_number, .int v_digits, .int v_next])), (a_h_signs, .inl (cC, 80, .inl v_signs_A))]))
      (QV D (ty4 cI cC cJ cB) (va_A [(a_h, .inr (4, [.ref a_h_signs, .int v_length, .int v_kind, .int v_number, .int v_digits, .int v_next])), (a_h_signs, .inl (cC, 80, .inl v_signs_A))] sz) [(a_h, .inr (4, [.ref a_h_signs, .int v_length, .int v_kind, .int u.1, .int u.2, .int v_next])), (a_h_signs, .inl (cC, 80, .inl v_signs_A))]) 0 0 (va_A [(a_h, .inr (4, [.ref a_h_signs, .int v_length, .int v_kind, .int v_number, .int v_digits, .int v_next])), (a_h_signs, .inl (cC, 80, .inl v_signs_A))] sz) := by
  refine met_go (y := yX4_readNumber) (wsy := wsX4_readNumber) (cc := cX4_readNumber) (maxL := 3) (ret := none) (av := [.ref a_h, .int p0, .int p1]) (Qc := fun A => QV D (ty4 cI cC cJ cB) A [(a_h, .inr (4, [.ref a_h_signs, .int v_length, .int v_kind, .int u.1, .int u.2, .int v_next])), (a_h_signs, .inl (cC, 80, .inl v_signs_A))]) (by decide) rfl (Nat.le_of_ble_eq_true rfl) ?_
  intro p e s m below meth c A ls hx hb hr hml hown hts hlocks hnm hN hK hP hD hS hA hl
  have h := hu
  clear hu
  unfold f_X4_readNumber at h
  have hl : lv_has ls 3 [(0, .ref a_h), (1, .int p0), (2, .int p1)] := hl
  have B10 : ∀ (k : Nat) (m_number : Int32) (m_digits : Int32) (H : Heap) (locs : List Loc) (ls : Array Slot), f_X4_readNumber_b10 v_length v_signs_A p0 p1 k m_number m_digits = some u → va_P D vwCl [(a_h, .inr (4, [.ref a_h_signs, .int v_length, .int v_kind, .int m_number, .int m_digits, .int v_next])), (a_h_signs, .inl (cC, 80, .inl v_signs_A))] H → va_D A [(a_h, .inr (4, [.ref a_h_signs, .int v_length, .int v_kind, .int m_number, .int m_digits, .int v_next])), (a_h_signs, .inl (cC, 80, .inl v_signs_A))] → va_S A s.heap H locs → lv_has ls 3 [(0, .ref a_h), (1, .int p0), (2, .int p1)] → W p l e ({ frames := 1, cells := 0, slots := 0, locals := 21 } : Room) s m ([.ref a_h, .int p0, .int p1] : List Value).toArray below meth c H locs 0 0 (MQ below (QV D (ty4 cI cC cJ cB) A [(a_h, .inr (4, [.ref a_h_signs, .int v_length, .int v_kind, .int u.1, .int u.2, .int v_next])), (a_h_signs, .inl (cC, 80, .inl v_signs_A))]) ([.ref a_h, .int p0, .int p1] : List Value).toArray s 0 0 A) (F0 m 10 ls []) := by
    intro k
    induction k with
    | zero =>
      intro m_number m_digits H locs ls h
      exact nomatch (show (none : Option (Int32 × Int32)) = some u from h)
    | succ k ih =>
      intro m_number m_digits H locs ls h hP hD hS hl
      rw [f_X4_readNumber_b10.eq_2] at h
      refine lv_aload_n hx hb dX4_readNumber_10 rfl (lv_at hl 0 rfl) ?_
      refine va_get (D := D) (ci := 4) (v := .int m_digits) (C := RX4) (T := TX4) (N := 6) hx hb hts in_X4_readNumber_X4 hown hK hP 0 rfl rfl 4 (by decide) (hts _ q_X4_readNumber_2) (fun _ h9 => h9) rfl dX4_readNumber_11 ?_
      refine lv_iload_n hx hb dX4_readNumber_14 rfl (lv_at hl 2 rfl) ?_
      refine lv_icmp_ge (tgt := 72) hx hb dX4_readNumber_15 (by decide) (fun hc1 => ?_) (fun hc1 => ?_)
      · replace h := it_e hc1 h
        obtain rfl := sm_e h
        exact rx_v hx hb hr  hP hK hD hS dX4_readNumber_72 hlocks
      · replace h := if_e hc1 h
        refine lv_aload_n hx hb dX4_readNumber_18 rfl (lv_at hl 0 rfl) ?_
        refine lv_iload_n hx hb dX4_readNumber_19 rfl (lv_at hl 1 rfl) ?_
        refine lv_aload_n hx hb dX4_readNumber_20 rfl (lv_at hl 0 rfl) ?_
        refine va_get (D := D) (ci := 4) (v := .int m_digits) (C := RX4) (T := TX4) (N := 6) hx hb hts in_X4_readNumber_X4 hown hK hP 0 rfl rfl 4 (by decide) (hts _ q_X4_readNumber_2) (fun _ h9 => h9) rfl dX4_readNumber_21 ?_
        refine lv_iadd hx hb dX4_readNumber_24 ?_
        obtain ⟨u2, hu2, h⟩ := bd_e h
        refine kx_i (mc := 0) (ms := 0) (wr := []) (ws2 := [(a_h, .inr (4, [.ref a_h_signs, .int v_length, .int v_kind, .int m_number, .int m_digits, .int v_next])), (a_h_signs, .inl (cC, 80, .inl v_signs_A))]) (va_runV (As := [.int (p0 + m_digits)]) (rest := []) ⟨hx, hb, hml, hown, hts⟩ (k_X4_signAt l D cI cC cJ cB a_h a_h_signs v_length v_kind m_number m_digits v_next v_signs_A N (p0 + m_digits) H.size _ hu2) (cwV 1 hts gX4_readNumber_X4_signAt rfl rfl rfl (by decide +kernel) ⟨Nat.le_of_ble_eq_true rfl, Nat.le_of_ble_eq_true rfl⟩) (pv_V hP hD hK hN [0, 1] rfl rfl (ci := 4) rfl 0 rfl) rfl rfl hl.1 rfl (lv_room (Nat.le_of_ble_eq_true rfl)) dX4_readNumber_25 ⟨Nat.zero_le _, Nat.zero_le _⟩) hP hD hS hA [0, 1] [] [0, 1] rfl rfl rfl rfl rfl rfl (fun H locs hP hD hS => ?_)
        obtain ⟨u3, hu3, h⟩ := bd_e h
        refine kx_i (mc := 0) (ms := 0) (wr := [(a_h, .inr (4, [.ref a_h_signs, .int v_length, .int v_kind, .int m_number, .int m_digits, .int v_next])), (a_h_signs, .inl (cC, 80, .inl v_signs_A))]) (ws2 := [(a_h, .inr (4, [.ref a_h_signs, .int v_length, .int v_kind, .int m_number, .int m_digits, .int v_next])), (a_h_signs, .inl (cC, 80, .inl v_signs_A))]) (va_runS (As := [.int u2]) (rest := []) ⟨hx, hb, hml, hown, hts⟩ (k_X4_isDigit l D cI cC cJ cB N u2 H.size _ hu3) (va_cwS 1 hts gX4_readNumber_X4_isDigit rfl rfl rfl (by decide +kernel) ⟨Nat.le_of_ble_eq_true rfl, Nat.le_of_ble_eq_true rfl⟩) (pv_S hP hD hK hN [] rfl rfl) rfl rfl hl.1 rfl (lv_room (Nat.le_of_ble_eq_true rfl)) dX4_readNumber_28 ⟨Nat.zero_le _, Nat.zero_le _⟩) hP hD hS hA [] [0, 1] [0, 1] rfl rfl rfl rfl rfl rfl (fun H locs hP hD hS => ?_)
        refine lv_if_eq (tgt := 72) hx hb dX4_readNumber_31 (by decide) (fun hc4 => ?_) (fun hc4 => ?_)
        · replace h := it_e hc4 h
          obtain rfl := sm_e h
          exact rx_v hx hb hr  hP hK hD hS dX4_readNumber_72 hlocks
        · replace h := if_e hc4 h
          refine lv_aload_n hx hb dX4_readNumber_34 rfl (lv_at hl 0 rfl) ?_
          refine lv_aload_n hx hb dX4_readNumber_35 rfl (lv_at hl 0 rfl) ?_
          refine va_get (D := D) (ci := 4) (v := .int m_number) (C := RX4) (T := TX4) (N := 6) hx hb hts in_X4_readNumber_X4 hown hK hP 0 rfl rfl 3 (by decide) (hts _ q_X4_readNumber_1) (fun _ h9 => h9) rfl dX4_readNumber_36 ?_
          refine lv_bipush (v := (10 : Int32)) hx hb dX4_readNumber_39 (by decide) ?_
          refine lv_imul hx hb dX4_readNumber_41 ?_
          refine lv_aload_n hx hb dX4_readNumber_42 rfl (lv_at hl 0 rfl) ?_
          refine lv_iload_n hx hb dX4_readNumber_43 rfl (lv_at hl 1 rfl) ?_
          refine lv_aload_n hx hb dX4_readNumber_44 rfl (lv_at hl 0 rfl) ?_
          refine va_get (D := D) (ci := 4) (v := .int m_digits) (C := RX4) (T := TX4) (N := 6) hx hb hts in_X4_readNumber_X4 hown hK hP 0 rfl rfl 4 (by decide) (hts _ q_X4_readNumber_2) (fun _ h9 => h9) rfl dX4_readNumber_45 ?_
          refine lv_iadd hx hb dX4_readNumber_48 ?_
          obtain ⟨u5, hu5, h⟩ := bd_e h
          refine kx_i (mc := 0) (ms := 0) (wr := []) (ws2 := [(a_h, .inr (4, [.ref a_h_signs, .int v_length, .int v_kind, .int m_number, .int m_digits, .int v_next])), (a_h_signs, .inl (cC, 80, .inl v_signs_A))]) (va_runV (As := [.int (p0 + m_digits)]) (rest := [.int (m_number * (10 : Int32)), .ref a_h]) ⟨hx, hb, hml, hown, hts⟩ (k_X4_signAt l D cI cC cJ cB a_h a_h_signs v_length v_kind m_number m_digits v_next v_signs_A N (p0 + m_digits) H.size _ hu5) (cwV 1 hts gX4_readNumber_X4_signAt rfl rfl rfl (by decide +kernel) ⟨Nat.le_of_ble_eq_true rfl, Nat.le_of_ble_eq_true rfl⟩) (pv_V hP hD hK hN [0, 1] rfl rfl (ci := 4) rfl 0 rfl) rfl rfl hl.1 rfl (lv_room (Nat.le_of_ble_eq_true rfl)) dX4_readNumber_49 ⟨Nat.zero_le _, Nat.zero_le _⟩) hP hD hS hA [0, 1] [] [0, 1] rfl rfl rfl rfl rfl rfl (fun H locs hP hD hS => ?_)
          refine lv_bipush (v := (48 : Int32)) hx hb dX4_readNumber_52 (by decide) ?_
          refine lv_isub hx hb dX4_readNumber_54 ?_
          refine lv_iadd hx hb dX4_readNumber_55 ?_
          refine lv_topi (fun t6 et6 => ?_)
          replace h := nm_at h et6
          refine va_put (D := D) (ci := 4) (v := .int t6) (ty := .int) (C := RX4) (T := TX4) (N := 6) hx hb hts in_X4_readNumber_X4 tyX4 tyX4_ok nmX4 hown hK hP hD hS 0 rfl rfl 3 (by decide) (hts _ q_X4_readNumber_1) (fun _ h9 => h9) rfl (by decide +kernel) rfl rfl (Nat.le_of_ble_eq_true rfl) dX4_readNumber_56 (fun H locs hP hD hS => ?_)
          have hP : va_P D vwCl [(a_h, .inr (4, [.ref a_h_signs, .int v_length, .int v_kind, .int t6, .int m_digits, .int v_next])), (a_h_signs, .inl (cC, 80, .inl v_signs_A))] H := hP
          have hD : va_D A [(a_h, .inr (4, [.ref a_h_signs, .int v_length, .int v_kind, .int t6, .int m_digits, .int v_next])), (a_h_signs, .inl (cC, 80, .inl v_signs_A))] := hD
          refine lv_aload_n hx hb dX4_readNumber_59 rfl (lv_at hl 0 rfl) ?_
          refine lv_dup hx hb dX4_readNumber_60 rfl ?_
          refine va_get (D := D) (ci := 4) (v := .int m_digits) (C := RX4) (T := TX4) (N := 6) hx hb hts in_X4_readNumber_X4 hown hK hP 0 rfl rfl 4 (by decide) (hts _ q_X4_readNumber_2) (fun _ h9 => h9) rfl dX4_readNumber_61 ?_
          refine lv_iconst (v := (1 : Int32)) hx hb dX4_readNumber_64 (by decide) ?_
          refine lv_iadd hx hb dX4_readNumber_65 ?_
          refine lv_topi (fun t7 et7 => ?_)
          replace h := nm_at h et7
          refine va_put (D := D) (ci := 4) (v := .int t7) (ty := .int) (C := RX4) (T := TX4) (N := 6) hx hb hts in_X4_readNumber_X4 tyX4 tyX4_ok nmX4 hown hK hP hD hS 0 rfl rfl 4 (by decide) (hts _ q_X4_readNumber_2) (fun _ h9 => h9) rfl (by decide +kernel) rfl rfl (Nat.le_of_ble_eq_true rfl) dX4_readNumber_66 (fun H locs hP hD hS => ?_)
          have hP : va_P D vwCl [(a_h, .inr (4, [.ref a_h_signs, .int v_length, .int v_kind, .int t6, .int t7, .int v_next])), (a_h_signs, .inl (cC, 80, .inl v_signs_A))] H := hP
          have hD : va_D A [(a_h, .inr (4, [.ref a_h_signs, .int v_length, .int v_kind, .int t6, .int t7, .int v_next])), (a_h_signs, .inl (cC, 80, .inl v_signs_A))] := hD
          refine lv_goto (tgt := 10) hx hb dX4_readNumber_69 (by decide) ?_
          exact ih t6 t7 _ _ _ h hP hD hS hl
  refine lv_aload_n hx hb dX4_readNumber_0 rfl (lv_at hl 0 rfl) ?_
  refine lv_iconst (v := (0 : Int32)) hx hb dX4_readNumber_1 (by decide) ?_
  refine va_put (D := D) (ci := 4) (v := .int (0 : Int32)) (ty := .int) (C := RX4) (T := TX4) (N := 6) hx hb hts in_X4_readNumber_X4 tyX4 tyX4_ok nmX4 hown hK hP hD hS 0 rfl rfl 3 (by decide) (hts _ q_X4_readNumber_1) (fun _ h9 => h9) rfl (by decide +kernel) rfl rfl (Nat.le_of_ble_eq_true rfl) dX4_readNumber_2 (fun H locs hP hD hS => ?_)
  have hP : va_P D vwCl [(a_h, .inr (4, [.ref a_h_signs, .int v_length, .int v_kind, .int (0 : Int32), .int v_digits, .int v_next])), (a_h_signs, .inl (cC, 80, .inl v_signs_A))] H := hP
  have hD : va_D A [(a_h, .inr (4, [.ref a_h_signs, .int v_length, .int v_kind, .int (0 : Int32), .int v_digits, .int v_next])), (a_h_signs, .inl (cC, 80, .inl v_signs_A))] := hD
  refine lv_aload_n hx hb dX4_readNumber_5 rfl (lv_at hl 0 rfl) ?_
  refine lv_iconst (v := (0 : Int32)) hx hb dX4_readNumber_6 (by decide) ?_
  refine va_put (D := D) (ci := 4) (v := .int (0 : Int32)) (ty := .int) (C := RX4) (T := TX4) (N := 6) hx hb hts in_X4_readNumber_X4 tyX4 tyX4_ok nmX4 hown hK hP hD hS 0 rfl rfl 4 (by decide) (hts _ q_X4_readNumber_2) (fun _ h9 => h9) rfl (by decide +kernel) rfl rfl (Nat.le_of_ble_eq_true rfl) dX4_readNumber_7 (fun H locs hP hD hS => ?_)
  have hP : va_P D vwCl [(a_h, .inr (4, [.ref a_h_signs, .int v_length, .int v_kind, .int (0 : Int32), .int (0 : Int32), .int v_next])), (a_h_signs, .inl (cC, 80, .inl v_signs_A))] H := hP
  have hD : va_D A [(a_h, .inr (4, [.ref a_h_signs, .int v_length, .int v_kind, .int (0 : Int32), .int (0 : Int32), .int v_next])), (a_h_signs, .inl (cC, 80, .inl v_signs_A))] := hD
  exact B10 N (0 : Int32) (0 : Int32) _ _ _ h hP hD hS hl
-- X7_isOutside
def f_X7_isOutside (p0 : Int32) (p1 : Int32) (p2 : Int32) : Option (Int32) :=
  (if p0 < p1 then some (1 : Int32)
    else (if p0 ≤ p2 then some (0 : Int32)
    else some (1 : Int32)))

set_option maxHeartbeats 8000000 in
set_option maxRecDepth 100000 in
theorem k_X7_isOutside (l : Launch) (D : va_G) (cI cC cJ cB : ClassId) (N : Nat) (p0 : Int32) (p1 : Int32) (p2 : Int32) (sz : Nat) (u : Int32) (hu : f_X7_isOutside p0 p1 p2 = some u) :
    Met l yX7_isOutside wsX7_isOutside ({ frames := 0, cells := 0, slots := 0, locals := 0 } : Room) (va_Pc [.int p0, .int p1, .int p2] (PreW D (ty4 cI cC cJ cB) sz []))
      (QI D (ty4 cI cC cJ cB) (va_A [] sz) [] u) 0 0 (va_A [] sz) := by
  refine met_go (y := yX7_isOutside) (wsy := wsX7_isOutside) (cc := cX7_isOutside) (maxL := 3) (ret := (some .boolean)) (av := [.int p0, .int p1, .int p2]) (Qc := fun A => QI D (ty4 cI cC cJ cB) A [] u) (by decide) rfl (Nat.le_of_ble_eq_true rfl) ?_
  intro p e s m below meth c A ls hx hb hr hml hown hts hlocks hnm hN hK hP hD hS hA hl
  have h := hu
  clear hu
  unfold f_X7_isOutside at h
  have hl : lv_has ls 3 [(0, .int p0), (1, .int p1), (2, .int p2)] := hl
  refine lv_iload_n hx hb dX7_isOutside_0 rfl (lv_at hl 0 rfl) ?_
  refine lv_iload_n hx hb dX7_isOutside_1 rfl (lv_at hl 1 rfl) ?_
  refine lv_icmp_lt (tgt := 10) hx hb dX7_isOutside_2 (by decide) (fun hc1 => ?_) (fun hc1 => ?_)
  · replace h := it_e hc1 h
    refine lv_iconst (v := (1 : Int32)) hx hb dX7_isOutside_10 (by decide) ?_
    refine lv_goto (tgt := 15) hx hb dX7_isOutside_11 (by decide) ?_
    obtain rfl := sm_e h
    exact rx_z hx hb hr rfl hP hK hD hS dX7_isOutside_15 hlocks
  · replace h := if_e hc1 h
    refine lv_iload_n hx hb dX7_isOutside_5 rfl (lv_at hl 0 rfl) ?_
    refine lv_iload_n hx hb dX7_isOutside_6 rfl (lv_at hl 2 rfl) ?_
    refine lv_icmp_le (tgt := 14) hx hb dX7_isOutside_7 (by decide) (fun hc2 => ?_) (fun hc2 => ?_)
    · replace h := it_e hc2 h
      refine lv_iconst (v := (0 : Int32)) hx hb dX7_isOutside_14 (by decide) ?_
      obtain rfl := sm_e h
      exact rx_z hx hb hr rfl hP hK hD hS dX7_isOutside_15 hlocks
    · replace h := if_e hc2 h
      refine lv_iconst (v := (1 : Int32)) hx hb dX7_isOutside_10 (by decide) ?_
      refine lv_goto (tgt := 15) hx hb dX7_isOutside_11 (by decide) ?_
      obtain rfl := sm_e h
      exact rx_z hx hb hr rfl hP hK hD hS dX7_isOutside_15 hlocks
-- X4_readMove
def f_X4_readMove (N : Nat) (v_length : Int32) (v_number : Int32) (v_digits : Int32) (v_next : Int32) (v_signs_A : Nat → Int32) (p0 : Int32) : Option (Int32 × Int32 × Int32 × Int32 × Int32) :=
  Option.bind (f_X4_signAt v_length v_signs_A p0) (fun u1 => gT (((Int32.toUInt32 u1) % 65536).toInt32 = u1) ((if u1 = (43 : Int32) then Option.bind (f_X4_readNumber N v_length v_signs_A (p0 + (1 : Int32)) (1 : Int32)) (fun u4 => (if ¬ u4.2 = (1 : Int32) then some ((0 : Int32), u1, u4.1, u4.2, v_next)
    else Option.bind (f_X4_stepBehind v_length v_signs_A (p0 + (2 : Int32))) (fun u6 => (if u6.1 = 0 then some ((0 : Int32), u1, u4.1, u4.2, u6.2)
    else some ((1 : Int32), u1, u4.1, u4.2, u6.2)))))
    else (if u1 = (45 : Int32) then Option.bind (f_X4_readNumber N v_length v_signs_A (p0 + (1 : Int32)) (1 : Int32)) (fun u9 => (if ¬ u9.2 = (1 : Int32) then some ((0 : Int32), u1, u9.1, u9.2, v_next)
    else Option.bind (f_X4_stepBehind v_length v_signs_A (p0 + (2 : Int32))) (fun u11 => (if u11.1 = 0 then some ((0 : Int32), u1, u9.1, u9.2, u11.2)
    else some ((1 : Int32), u1, u9.1, u9.2, u11.2)))))
    else (if u1 = (61 : Int32) then Option.bind (f_X4_readNumber N v_length v_signs_A (p0 + (1 : Int32)) (4 : Int32)) (fun u14 => (if u14.2 ≤ 0 then some ((0 : Int32), u1, u14.1, u14.2, v_next)
    else (if (1000 : Int32) < u14.1 then some ((0 : Int32), u1, u14.1, u14.2, v_next)
    else Option.bind (f_X4_stepBehind v_length v_signs_A ((p0 + (1 : Int32)) + u14.2)) (fun u17 => (if u17.1 = 0 then some ((0 : Int32), u1, u14.1, u14.2, u17.2)
    else some ((1 : Int32), u1, u14.1, u14.2, u17.2))))))
    else (if u1 = (104 : Int32) then Option.bind (f_X4_readNumber N v_length v_signs_A (p0 + (1 : Int32)) (3 : Int32)) (fun u20 => (if u20.2 ≤ 0 then some ((0 : Int32), u1, u20.1, u20.2, v_next)
    else Option.bind (f_X7_isOutside u20.1 (1 : Int32) (200 : Int32)) (fun u22 => (if ¬ u22 = 0 then some ((0 : Int32), u1, u20.1, u20.2, v_next)
    else Option.bind (f_X4_stepBehind v_length v_signs_A ((p0 + (1 : Int32)) + u20.2)) (fun u24 => (if u24.1 = 0 then some ((0 : Int32), u1, u20.1, u20.2, u24.2)
    else some ((1 : Int32), u1, u20.1, u20.2, u24.2)))))))
    else (if u1 = (122 : Int32) then Option.bind (f_X4_stepBehind v_length v_signs_A (p0 + (1 : Int32))) (fun u27 => gT (u27.1 = 0 ∨ u27.1 = 1) (some (u27.1, u1, (0 : Int32), v_digits, u27.2)))
    else some ((0 : Int32), u1, v_number, v_digits, v_next))))))))
theorem q_X4_readMove_1 : (.fieldLink RX4 30 "SpringBalance$Text" "kind" "C" : Cond) ∈ wsX4_readMove := List.mem_of_getElem? (i := 1) (by decide +kernel)
set_option maxRecDepth 20000 in
theorem in_X4_readMove_X4 : ∀ w ∈ u_ws RX4 TX4 6, w ∈ wsX4_readMove := by decide +kernel
theorem q_X4_readMove_2 : (.fieldLink RX4 38 "SpringBalance$Text" "digits" "I" : Cond) ∈ wsX4_readMove := List.mem_of_getElem? (i := 2) (by decide +kernel)
theorem q_X4_readMove_3 : (.fieldLink RX4 44 "SpringBalance$Text" "number" "I" : Cond) ∈ wsX4_readMove := List.mem_of_getElem? (i := 3) (by decide +kernel)
theorem q_X4_readMove_24 : (.initialized RX7 : Cond) ∈ wsX4_readMove := List.mem_of_getElem? (i := 24) (by decide +kernel)
theorem q_X4_readMove_23 : (.static yX7_isOutside : Cond) ∈ wsX4_readMove := List.mem_of_getElem? (i := 23) (by decide +kernel)
set_option maxHeartbeats 8000000 in
set_option maxRecDepth 100000 in
theorem k_X4_readMove (l : Launch) (D : va_G) (cI cC cJ cB : ClassId) (a_h a_h_signs : Nat) (v_length : Int32) (v_kind : Int32) (v_number : Int32) (v_digits : Int32) (v_next : Int32) (v_signs_A : Nat → Int32) (N : Nat) (p0 : Int32) (sz : Nat) (u : Int32 × Int32 × Int32 × Int32 × Int32) (hu : f_X4_readMove N v_length v_number v_digits v_next v_signs_A p0 = some u) :
    Met l yX4_readMove wsX4_readMove ({ frames := 2, cells := 0, slots := 0, locals := 43 } : Room) (va_Pc [.ref a_h, .int p0] (PreW D (ty4 cI cC cJ cB) sz [(a_h, .inr (4, [.ref a_h_signs, .int v_length, .int v_kind, .int v_number, .int v_digits, .int v_next])), (a_h_signs, .inl (cC, 80, .inl v_signs_A))]))
      (QI D (ty4 cI cC cJ cB) (va_A [(a_h, .inr (4, [.ref a_h_signs, .int v_length, .int v_kind, .int v_number, .int v_digits, .int v_next])), (a_h_signs, .inl (cC, 80, .inl v_signs_A))] sz) [(a_h, .inr (4, [.ref a_h_signs, .int v_length, .int u.2.1, .int u.2.2.1, .int u.2.2.2.1, .int u.2.2.2.2])), (a_h_signs, .inl (cC, 80, .inl v_signs_A))] u.1) 0 0 (va_A [(a_h, .inr (4, [.ref a_h_signs, .int v_length, .int v_kind, .int v_number, .int v_digits, .int v_next])), (a_h_signs, .inl (cC, 80, .inl v_signs_A))] sz) := by
  refine met_go (y := yX4_readMove) (wsy := wsX4_readMove) (cc := cX4_readMove) (maxL := 2) (ret := (some .boolean)) (av := [.ref a_h, .int p0]) (Qc := fun A => QI D (ty4 cI cC cJ cB) A [(a_h, .inr (4, [.ref a_h_signs, .int v_length, .int u.2.1, .int u.2.2.1, .int u.2.2.2.1, .int u.2.2.2.2])), (a_h_signs, .inl (cC, 80, .inl v_signs_A))] u.1) (by decide) rfl (Nat.le_of_ble_eq_true rfl) ?_
  intro p e s m below meth c A ls hx hb hr hml hown hts hlocks hnm hN hK hP hD hS hA hl
  have h := hu
  clear hu
  unfold f_X4_readMove at h
  have hl : lv_has ls 2 [(0, .ref a_h), (1, .int p0)] := hl
  refine lv_aload_n hx hb dX4_readMove_0 rfl (lv_at hl 0 rfl) ?_
  refine lv_aload_n hx hb dX4_readMove_1 rfl (lv_at hl 0 rfl) ?_
  refine lv_iload_n hx hb dX4_readMove_2 rfl (lv_at hl 1 rfl) ?_
  obtain ⟨u1, hu1, h⟩ := bd_e h
  refine kx_i (mc := 0) (ms := 0) (wr := []) (ws2 := [(a_h, .inr (4, [.ref a_h_signs, .int v_length, .int v_kind, .int v_number, .int v_digits, .int v_next])), (a_h_signs, .inl (cC, 80, .inl v_signs_A))]) (va_runV (As := [.int p0]) (rest := [.ref a_h]) ⟨hx, hb, hml, hown, hts⟩ (k_X4_signAt l D cI cC cJ cB a_h a_h_signs v_length v_kind v_number v_digits v_next v_signs_A N p0 s.heap.size _ hu1) (cwV 1 hts gX4_readMove_X4_signAt rfl rfl rfl (by decide +kernel) ⟨Nat.le_of_ble_eq_true rfl, Nat.le_of_ble_eq_true rfl⟩) (pv_V hP hD hK hN [0, 1] rfl rfl (ci := 4) rfl 0 rfl) rfl rfl hl.1 rfl (lv_room (Nat.le_of_ble_eq_true rfl)) dX4_readMove_3 ⟨Nat.zero_le _, Nat.zero_le _⟩) hP hD hS hA [0, 1] [] [0, 1] rfl rfl rfl rfl rfl rfl (fun H locs hP hD hS => ?_)
  obtain ⟨hz2, h⟩ := gT_e h
  refine va_put (D := D) (ci := 4) (v := .int u1) (ty := .char) (C := RX4) (T := TX4) (N := 6) hx hb hts in_X4_readMove_X4 tyX4 tyX4_ok nmX4 hown hK hP hD hS 0 rfl rfl 2 (by decide) (hts _ q_X4_readMove_1) (fun _ h9 => h9) rfl (by decide +kernel) (nar_c hz2) (fit_c hz2) (Nat.le_of_ble_eq_true rfl) dX4_readMove_6 (fun H locs hP hD hS => ?_)
  have hP : va_P D vwCl [(a_h, .inr (4, [.ref a_h_signs, .int v_length, .int u1, .int v_number, .int v_digits, .int v_next])), (a_h_signs, .inl (cC, 80, .inl v_signs_A))] H := hP
  have hD : va_D A [(a_h, .inr (4, [.ref a_h_signs, .int v_length, .int u1, .int v_number, .int v_digits, .int v_next])), (a_h_signs, .inl (cC, 80, .inl v_signs_A))] := hD
  refine lv_aload_n hx hb dX4_readMove_9 rfl (lv_at hl 0 rfl) ?_
  refine va_get (D := D) (ci := 4) (v := .int u1) (C := RX4) (T := TX4) (N := 6) hx hb hts in_X4_readMove_X4 hown hK hP 0 rfl rfl 2 (by decide) (hts _ q_X4_readMove_1) (fun _ h9 => h9) rfl dX4_readMove_10 ?_
  by_cases hc3 : u1 = (43 : Int32)
  · replace h := it_e hc3 h
    refine lv_lookup (off := 51) (tgt := 64) hx hb dX4_readMove_13 (by decide) (by rw [hc3]; rfl) (by decide) ?_
    refine lv_aload_n hx hb dX4_readMove_64 rfl (lv_at hl 0 rfl) ?_
    refine lv_iload_n hx hb dX4_readMove_65 rfl (lv_at hl 1 rfl) ?_
    refine lv_iconst (v := (1 : Int32)) hx hb dX4_readMove_66 (by decide) ?_
    refine lv_iadd hx hb dX4_readMove_67 ?_
    refine lv_iconst (v := (1 : Int32)) hx hb dX4_readMove_68 (by decide) ?_
    obtain ⟨u4, hu4, h⟩ := bd_e h
    refine kx_v (mc := 0) (ms := 0) (wr := []) (ws2 := [(a_h, .inr (4, [.ref a_h_signs, .int v_length, .int u1, .int u4.1, .int u4.2, .int v_next])), (a_h_signs, .inl (cC, 80, .inl v_signs_A))]) (va_runV (As := [.int (p0 + (1 : Int32)), .int (1 : Int32)]) (rest := []) ⟨hx, hb, hml, hown, hts⟩ (k_X4_readNumber l D cI cC cJ cB a_h a_h_signs v_length u1 v_number v_digits v_next v_signs_A N (p0 + (1 : Int32)) (1 : Int32) H.size _ hu4) (cwV 2 hts gX4_readMove_X4_readNumber rfl rfl rfl (by decide +kernel) ⟨Nat.le_of_ble_eq_true rfl, Nat.le_of_ble_eq_true rfl⟩) (pv_V hP hD hK hN [0, 1] rfl rfl (ci := 4) rfl 0 rfl) rfl rfl hl.1 rfl (lv_room (Nat.le_of_ble_eq_true rfl)) dX4_readMove_69 ⟨Nat.zero_le _, Nat.zero_le _⟩) hP hD hS hA [0, 1] [] [0, 1] rfl rfl rfl rfl rfl rfl (fun H locs hP hD hS => ?_)
    refine lv_aload_n hx hb dX4_readMove_72 rfl (lv_at hl 0 rfl) ?_
    refine va_get (D := D) (ci := 4) (v := .int u4.2) (C := RX4) (T := TX4) (N := 6) hx hb hts in_X4_readMove_X4 hown hK hP 0 rfl rfl 4 (by decide) (hts _ q_X4_readMove_2) (fun _ h9 => h9) rfl dX4_readMove_73 ?_
    refine lv_iconst (v := (1 : Int32)) hx hb dX4_readMove_76 (by decide) ?_
    refine lv_icmp_ne (tgt := 94) hx hb dX4_readMove_77 (by decide) (fun hc5 => ?_) (fun hc5 => ?_)
    · replace h := it_e hc5 h
      refine lv_iconst (v := (0 : Int32)) hx hb dX4_readMove_94 (by decide) ?_
      obtain rfl := sm_e h
      exact rx_z hx hb hr (nar_z (Or.inl rfl)) hP hK hD hS dX4_readMove_95 hlocks
    · replace h := in_e hc5 h
      refine lv_aload_n hx hb dX4_readMove_80 rfl (lv_at hl 0 rfl) ?_
      refine lv_iload_n hx hb dX4_readMove_81 rfl (lv_at hl 1 rfl) ?_
      refine lv_iconst (v := (2 : Int32)) hx hb dX4_readMove_82 (by decide) ?_
      refine lv_iadd hx hb dX4_readMove_83 ?_
      obtain ⟨u6, hu6, h⟩ := bd_e h
      refine kx_i (mc := 0) (ms := 0) (wr := []) (ws2 := [(a_h, .inr (4, [.ref a_h_signs, .int v_length, .int u1, .int u4.1, .int u4.2, .int u6.2])), (a_h_signs, .inl (cC, 80, .inl v_signs_A))]) (va_runV (As := [.int (p0 + (2 : Int32))]) (rest := []) ⟨hx, hb, hml, hown, hts⟩ (k_X4_stepBehind l D cI cC cJ cB a_h a_h_signs v_length u1 u4.1 u4.2 v_next v_signs_A N (p0 + (2 : Int32)) H.size _ hu6) (cwV 1 hts gX4_readMove_X4_stepBehind rfl rfl rfl (by decide +kernel) ⟨Nat.le_of_ble_eq_true rfl, Nat.le_of_ble_eq_true rfl⟩) (pv_V hP hD hK hN [0, 1] rfl rfl (ci := 4) rfl 0 rfl) rfl rfl hl.1 rfl (lv_room (Nat.le_of_ble_eq_true rfl)) dX4_readMove_84 ⟨Nat.zero_le _, Nat.zero_le _⟩) hP hD hS hA [0, 1] [] [0, 1] rfl rfl rfl rfl rfl rfl (fun H locs hP hD hS => ?_)
      refine lv_if_eq (tgt := 94) hx hb dX4_readMove_87 (by decide) (fun hc7 => ?_) (fun hc7 => ?_)
      · replace h := it_e hc7 h
        refine lv_iconst (v := (0 : Int32)) hx hb dX4_readMove_94 (by decide) ?_
        obtain rfl := sm_e h
        exact rx_z hx hb hr (nar_z (Or.inl rfl)) hP hK hD hS dX4_readMove_95 hlocks
      · replace h := if_e hc7 h
        refine lv_iconst (v := (1 : Int32)) hx hb dX4_readMove_90 (by decide) ?_
        refine lv_goto (tgt := 95) hx hb dX4_readMove_91 (by decide) ?_
        obtain rfl := sm_e h
        exact rx_z hx hb hr (nar_z (Or.inr rfl)) hP hK hD hS dX4_readMove_95 hlocks
  · replace h := if_e hc3 h
    by_cases hc8 : u1 = (45 : Int32)
    · replace h := it_e hc8 h
      refine lv_lookup (off := 51) (tgt := 64) hx hb dX4_readMove_13 (by decide) (by rw [hc8]; rfl) (by decide) ?_
      refine lv_aload_n hx hb dX4_readMove_64 rfl (lv_at hl 0 rfl) ?_
      refine lv_iload_n hx hb dX4_readMove_65 rfl (lv_at hl 1 rfl) ?_
      refine lv_iconst (v := (1 : Int32)) hx hb dX4_readMove_66 (by decide) ?_
      refine lv_iadd hx hb dX4_readMove_67 ?_
      refine lv_iconst (v := (1 : Int32)) hx hb dX4_readMove_68 (by decide) ?_
      obtain ⟨u9, hu9, h⟩ := bd_e h
      refine kx_v (mc := 0) (ms := 0) (wr := []) (ws2 := [(a_h, .inr (4, [.ref a_h_signs, .int v_length, .int u1, .int u9.1, .int u9.2, .int v_next])), (a_h_signs, .inl (cC, 80, .inl v_signs_A))]) (va_runV (As := [.int (p0 + (1 : Int32)), .int (1 : Int32)]) (rest := []) ⟨hx, hb, hml, hown, hts⟩ (k_X4_readNumber l D cI cC cJ cB a_h a_h_signs v_length u1 v_number v_digits v_next v_signs_A N (p0 + (1 : Int32)) (1 : Int32) H.size _ hu9) (cwV 2 hts gX4_readMove_X4_readNumber rfl rfl rfl (by decide +kernel) ⟨Nat.le_of_ble_eq_true rfl, Nat.le_of_ble_eq_true rfl⟩) (pv_V hP hD hK hN [0, 1] rfl rfl (ci := 4) rfl 0 rfl) rfl rfl hl.1 rfl (lv_room (Nat.le_of_ble_eq_true rfl)) dX4_readMove_69 ⟨Nat.zero_le _, Nat.zero_le _⟩) hP hD hS hA [0, 1] [] [0, 1] rfl rfl rfl rfl rfl rfl (fun H locs hP hD hS => ?_)
      refine lv_aload_n hx hb dX4_readMove_72 rfl (lv_at hl 0 rfl) ?_
      refine va_get (D := D) (ci := 4) (v := .int u9.2) (C := RX4) (T := TX4) (N := 6) hx hb hts in_X4_readMove_X4 hown hK hP 0 rfl rfl 4 (by decide) (hts _ q_X4_readMove_2) (fun _ h9 => h9) rfl dX4_readMove_73 ?_
      refine lv_iconst (v := (1 : Int32)) hx hb dX4_readMove_76 (by decide) ?_
      refine lv_icmp_ne (tgt := 94) hx hb dX4_readMove_77 (by decide) (fun hc10 => ?_) (fun hc10 => ?_)
      · replace h := it_e hc10 h
        refine lv_iconst (v := (0 : Int32)) hx hb dX4_readMove_94 (by decide) ?_
        obtain rfl := sm_e h
        exact rx_z hx hb hr (nar_z (Or.inl rfl)) hP hK hD hS dX4_readMove_95 hlocks
      · replace h := in_e hc10 h
        refine lv_aload_n hx hb dX4_readMove_80 rfl (lv_at hl 0 rfl) ?_
        refine lv_iload_n hx hb dX4_readMove_81 rfl (lv_at hl 1 rfl) ?_
        refine lv_iconst (v := (2 : Int32)) hx hb dX4_readMove_82 (by decide) ?_
        refine lv_iadd hx hb dX4_readMove_83 ?_
        obtain ⟨u11, hu11, h⟩ := bd_e h
        refine kx_i (mc := 0) (ms := 0) (wr := []) (ws2 := [(a_h, .inr (4, [.ref a_h_signs, .int v_length, .int u1, .int u9.1, .int u9.2, .int u11.2])), (a_h_signs, .inl (cC, 80, .inl v_signs_A))]) (va_runV (As := [.int (p0 + (2 : Int32))]) (rest := []) ⟨hx, hb, hml, hown, hts⟩ (k_X4_stepBehind l D cI cC cJ cB a_h a_h_signs v_length u1 u9.1 u9.2 v_next v_signs_A N (p0 + (2 : Int32)) H.size _ hu11) (cwV 1 hts gX4_readMove_X4_stepBehind rfl rfl rfl (by decide +kernel) ⟨Nat.le_of_ble_eq_true rfl, Nat.le_of_ble_eq_true rfl⟩) (pv_V hP hD hK hN [0, 1] rfl rfl (ci := 4) rfl 0 rfl) rfl rfl hl.1 rfl (lv_room (Nat.le_of_ble_eq_true rfl)) dX4_readMove_84 ⟨Nat.zero_le _, Nat.zero_le _⟩) hP hD hS hA [0, 1] [] [0, 1] rfl rfl rfl rfl rfl rfl (fun H locs hP hD hS => ?_)
        refine lv_if_eq (tgt := 94) hx hb dX4_readMove_87 (by decide) (fun hc12 => ?_) (fun hc12 => ?_)
        · replace h := it_e hc12 h
          refine lv_iconst (v := (0 : Int32)) hx hb dX4_readMove_94 (by decide) ?_
          obtain rfl := sm_e h
          exact rx_z hx hb hr (nar_z (Or.inl rfl)) hP hK hD hS dX4_readMove_95 hlocks
        · replace h := if_e hc12 h
          refine lv_iconst (v := (1 : Int32)) hx hb dX4_readMove_90 (by decide) ?_
          refine lv_goto (tgt := 95) hx hb dX4_readMove_91 (by decide) ?_
          obtain rfl := sm_e h
          exact rx_z hx hb hr (nar_z (Or.inr rfl)) hP hK hD hS dX4_readMove_95 hlocks
    · replace h := if_e hc8 h
      by_cases hc13 : u1 = (61 : Int32)
      · replace h := it_e hc13 h
        refine lv_lookup (off := 83) (tgt := 96) hx hb dX4_readMove_13 (by decide) (by rw [hc13]; rfl) (by decide) ?_
        refine lv_aload_n hx hb dX4_readMove_96 rfl (lv_at hl 0 rfl) ?_
        refine lv_iload_n hx hb dX4_readMove_97 rfl (lv_at hl 1 rfl) ?_
        refine lv_iconst (v := (1 : Int32)) hx hb dX4_readMove_98 (by decide) ?_
        refine lv_iadd hx hb dX4_readMove_99 ?_
        refine lv_iconst (v := (4 : Int32)) hx hb dX4_readMove_100 (by decide) ?_
        obtain ⟨u14, hu14, h⟩ := bd_e h
        refine kx_v (mc := 0) (ms := 0) (wr := []) (ws2 := [(a_h, .inr (4, [.ref a_h_signs, .int v_length, .int u1, .int u14.1, .int u14.2, .int v_next])), (a_h_signs, .inl (cC, 80, .inl v_signs_A))]) (va_runV (As := [.int (p0 + (1 : Int32)), .int (4 : Int32)]) (rest := []) ⟨hx, hb, hml, hown, hts⟩ (k_X4_readNumber l D cI cC cJ cB a_h a_h_signs v_length u1 v_number v_digits v_next v_signs_A N (p0 + (1 : Int32)) (4 : Int32) H.size _ hu14) (cwV 2 hts gX4_readMove_X4_readNumber rfl rfl rfl (by decide +kernel) ⟨Nat.le_of_ble_eq_true rfl, Nat.le_of_ble_eq_true rfl⟩) (pv_V hP hD hK hN [0, 1] rfl rfl (ci := 4) rfl 0 rfl) rfl rfl hl.1 rfl (lv_room (Nat.le_of_ble_eq_true rfl)) dX4_readMove_101 ⟨Nat.zero_le _, Nat.zero_le _⟩) hP hD hS hA [0, 1] [] [0, 1] rfl rfl rfl rfl rfl rfl (fun H locs hP hD hS => ?_)
        refine lv_aload_n hx hb dX4_readMove_104 rfl (lv_at hl 0 rfl) ?_
        refine va_get (D := D) (ci := 4) (v := .int u14.2) (C := RX4) (T := TX4) (N := 6) hx hb hts in_X4_readMove_X4 hown hK hP 0 rfl rfl 4 (by decide) (hts _ q_X4_readMove_2) (fun _ h9 => h9) rfl dX4_readMove_105 ?_
        refine lv_if_le (tgt := 140) hx hb dX4_readMove_108 (by decide) (fun hc15 => ?_) (fun hc15 => ?_)
        · replace h := it_e hc15 h
          refine lv_iconst (v := (0 : Int32)) hx hb dX4_readMove_140 (by decide) ?_
          obtain rfl := sm_e h
          exact rx_z hx hb hr (nar_z (Or.inl rfl)) hP hK hD hS dX4_readMove_141 hlocks
        · replace h := if_e hc15 h
          refine lv_aload_n hx hb dX4_readMove_111 rfl (lv_at hl 0 rfl) ?_
          refine va_get (D := D) (ci := 4) (v := .int u14.1) (C := RX4) (T := TX4) (N := 6) hx hb hts in_X4_readMove_X4 hown hK hP 0 rfl rfl 3 (by decide) (hts _ q_X4_readMove_3) (fun _ h9 => h9) rfl dX4_readMove_112 ?_
          refine lv_sipush (v := (1000 : Int32)) hx hb dX4_readMove_115 (by decide) ?_
          refine lv_icmp_gt (tgt := 140) hx hb dX4_readMove_118 (by decide) (fun hc16 => ?_) (fun hc16 => ?_)
          · replace h := it_e hc16 h
            refine lv_iconst (v := (0 : Int32)) hx hb dX4_readMove_140 (by decide) ?_
            obtain rfl := sm_e h
            exact rx_z hx hb hr (nar_z (Or.inl rfl)) hP hK hD hS dX4_readMove_141 hlocks
          · replace h := if_e hc16 h
            refine lv_aload_n hx hb dX4_readMove_121 rfl (lv_at hl 0 rfl) ?_
            refine lv_iload_n hx hb dX4_readMove_122 rfl (lv_at hl 1 rfl) ?_
            refine lv_iconst (v := (1 : Int32)) hx hb dX4_readMove_123 (by decide) ?_
            refine lv_iadd hx hb dX4_readMove_124 ?_
            refine lv_aload_n hx hb dX4_readMove_125 rfl (lv_at hl 0 rfl) ?_
            refine va_get (D := D) (ci := 4) (v := .int u14.2) (C := RX4) (T := TX4) (N := 6) hx hb hts in_X4_readMove_X4 hown hK hP 0 rfl rfl 4 (by decide) (hts _ q_X4_readMove_2) (fun _ h9 => h9) rfl dX4_readMove_126 ?_
            refine lv_iadd hx hb dX4_readMove_129 ?_
            obtain ⟨u17, hu17, h⟩ := bd_e h
            refine kx_i (mc := 0) (ms := 0) (wr := []) (ws2 := [(a_h, .inr (4, [.ref a_h_signs, .int v_length, .int u1, .int u14.1, .int u14.2, .int u17.2])), (a_h_signs, .inl (cC, 80, .inl v_signs_A))]) (va_runV (As := [.int ((p0 + (1 : Int32)) + u14.2)]) (rest := []) ⟨hx, hb, hml, hown, hts⟩ (k_X4_stepBehind l D cI cC cJ cB a_h a_h_signs v_length u1 u14.1 u14.2 v_next v_signs_A N ((p0 + (1 : Int32)) + u14.2) H.size _ hu17) (cwV 1 hts gX4_readMove_X4_stepBehind rfl rfl rfl (by decide +kernel) ⟨Nat.le_of_ble_eq_true rfl, Nat.le_of_ble_eq_true rfl⟩) (pv_V hP hD hK hN [0, 1] rfl rfl (ci := 4) rfl 0 rfl) rfl rfl hl.1 rfl (lv_room (Nat.le_of_ble_eq_true rfl)) dX4_readMove_130 ⟨Nat.zero_le _, Nat.zero_le _⟩) hP hD hS hA [0, 1] [] [0, 1] rfl rfl rfl rfl rfl rfl (fun H locs hP hD hS => ?_)
            refine lv_if_eq (tgt := 140) hx hb dX4_readMove_133 (by decide) (fun hc18 => ?_) (fun hc18 => ?_)
            · replace h := it_e hc18 h
              refine lv_iconst (v := (0 : Int32)) hx hb dX4_readMove_140 (by decide) ?_
              obtain rfl := sm_e h
              exact rx_z hx hb hr (nar_z (Or.inl rfl)) hP hK hD hS dX4_readMove_141 hlocks
            · replace h := if_e hc18 h
              refine lv_iconst (v := (1 : Int32)) hx hb dX4_readMove_136 (by decide) ?_
              refine lv_goto (tgt := 141) hx hb dX4_readMove_137 (by decide) ?_
              obtain rfl := sm_e h
              exact rx_z hx hb hr (nar_z (Or.inr rfl)) hP hK hD hS dX4_readMove_141 hlocks
      · replace h := if_e hc13 h
        by_cases hc19 : u1 = (104 : Int32)
        · replace h := it_e hc19 h
          refine lv_lookup (off := 129) (tgt := 142) hx hb dX4_readMove_13 (by decide) (by rw [hc19]; rfl) (by decide) ?_
          refine lv_aload_n hx hb dX4_readMove_142 rfl (lv_at hl 0 rfl) ?_
          refine lv_iload_n hx hb dX4_readMove_143 rfl (lv_at hl 1 rfl) ?_
          refine lv_iconst (v := (1 : Int32)) hx hb dX4_readMove_144 (by decide) ?_
          refine lv_iadd hx hb dX4_readMove_145 ?_
          refine lv_iconst (v := (3 : Int32)) hx hb dX4_readMove_146 (by decide) ?_
          obtain ⟨u20, hu20, h⟩ := bd_e h
          refine kx_v (mc := 0) (ms := 0) (wr := []) (ws2 := [(a_h, .inr (4, [.ref a_h_signs, .int v_length, .int u1, .int u20.1, .int u20.2, .int v_next])), (a_h_signs, .inl (cC, 80, .inl v_signs_A))]) (va_runV (As := [.int (p0 + (1 : Int32)), .int (3 : Int32)]) (rest := []) ⟨hx, hb, hml, hown, hts⟩ (k_X4_readNumber l D cI cC cJ cB a_h a_h_signs v_length u1 v_number v_digits v_next v_signs_A N (p0 + (1 : Int32)) (3 : Int32) H.size _ hu20) (cwV 2 hts gX4_readMove_X4_readNumber rfl rfl rfl (by decide +kernel) ⟨Nat.le_of_ble_eq_true rfl, Nat.le_of_ble_eq_true rfl⟩) (pv_V hP hD hK hN [0, 1] rfl rfl (ci := 4) rfl 0 rfl) rfl rfl hl.1 rfl (lv_room (Nat.le_of_ble_eq_true rfl)) dX4_readMove_147 ⟨Nat.zero_le _, Nat.zero_le _⟩) hP hD hS hA [0, 1] [] [0, 1] rfl rfl rfl rfl rfl rfl (fun H locs hP hD hS => ?_)
          refine lv_aload_n hx hb dX4_readMove_150 rfl (lv_at hl 0 rfl) ?_
          refine va_get (D := D) (ci := 4) (v := .int u20.2) (C := RX4) (T := TX4) (N := 6) hx hb hts in_X4_readMove_X4 hown hK hP 0 rfl rfl 4 (by decide) (hts _ q_X4_readMove_2) (fun _ h9 => h9) rfl dX4_readMove_151 ?_
          refine lv_if_le (tgt := 190) hx hb dX4_readMove_154 (by decide) (fun hc21 => ?_) (fun hc21 => ?_)
          · replace h := it_e hc21 h
            refine lv_iconst (v := (0 : Int32)) hx hb dX4_readMove_190 (by decide) ?_
            obtain rfl := sm_e h
            exact rx_z hx hb hr (nar_z (Or.inl rfl)) hP hK hD hS dX4_readMove_191 hlocks
          · replace h := if_e hc21 h
            refine lv_aload_n hx hb dX4_readMove_157 rfl (lv_at hl 0 rfl) ?_
            refine va_get (D := D) (ci := 4) (v := .int u20.1) (C := RX4) (T := TX4) (N := 6) hx hb hts in_X4_readMove_X4 hown hK hP 0 rfl rfl 3 (by decide) (hts _ q_X4_readMove_3) (fun _ h9 => h9) rfl dX4_readMove_158 ?_
            refine lv_iconst (v := (1 : Int32)) hx hb dX4_readMove_161 (by decide) ?_
            refine lv_sipush (v := (200 : Int32)) hx hb dX4_readMove_162 (by decide) ?_
            obtain ⟨u22, hu22, h⟩ := bd_e h
            refine kx_i (mc := 0) (ms := 0) (wr := [(a_h, .inr (4, [.ref a_h_signs, .int v_length, .int u1, .int u20.1, .int u20.2, .int v_next])), (a_h_signs, .inl (cC, 80, .inl v_signs_A))]) (ws2 := [(a_h, .inr (4, [.ref a_h_signs, .int v_length, .int u1, .int u20.1, .int u20.2, .int v_next])), (a_h_signs, .inl (cC, 80, .inl v_signs_A))]) (va_runSN (As := [.int u20.1, .int (1 : Int32), .int (200 : Int32)]) (rest := []) ⟨hx, hb, hml, hown, hts⟩ (k_X7_isOutside l D cI cC cJ cB N u20.1 (1 : Int32) (200 : Int32) H.size _ hu22) ⟨va_cnB 3 hts gX4_readMove_X7_isOutside_n47 rfl rfl rfl (hN.m 79 rfl) (hts _ q_X4_readMove_24) (by decide +kernel) ⟨Nat.le_of_ble_eq_true rfl, Nat.le_of_ble_eq_true rfl⟩, (hts _ q_X4_readMove_23), trivial⟩ (pv_S hP hD hK hN [] rfl rfl) rfl rfl hl.1 rfl (lv_room (Nat.le_of_ble_eq_true rfl)) dX4_readMove_165 ⟨Nat.zero_le _, Nat.zero_le _⟩) hP hD hS hA [] [0, 1] [0, 1] rfl rfl rfl rfl rfl rfl (fun H locs hP hD hS => ?_)
            refine lv_if_ne (tgt := 190) hx hb dX4_readMove_168 (by decide) (fun hc23 => ?_) (fun hc23 => ?_)
            · replace h := it_e hc23 h
              refine lv_iconst (v := (0 : Int32)) hx hb dX4_readMove_190 (by decide) ?_
              obtain rfl := sm_e h
              exact rx_z hx hb hr (nar_z (Or.inl rfl)) hP hK hD hS dX4_readMove_191 hlocks
            · replace h := in_e hc23 h
              refine lv_aload_n hx hb dX4_readMove_171 rfl (lv_at hl 0 rfl) ?_
              refine lv_iload_n hx hb dX4_readMove_172 rfl (lv_at hl 1 rfl) ?_
              refine lv_iconst (v := (1 : Int32)) hx hb dX4_readMove_173 (by decide) ?_
              refine lv_iadd hx hb dX4_readMove_174 ?_
              refine lv_aload_n hx hb dX4_readMove_175 rfl (lv_at hl 0 rfl) ?_
              refine va_get (D := D) (ci := 4) (v := .int u20.2) (C := RX4) (T := TX4) (N := 6) hx hb hts in_X4_readMove_X4 hown hK hP 0 rfl rfl 4 (by decide) (hts _ q_X4_readMove_2) (fun _ h9 => h9) rfl dX4_readMove_176 ?_
              refine lv_iadd hx hb dX4_readMove_179 ?_
              obtain ⟨u24, hu24, h⟩ := bd_e h
              refine kx_i (mc := 0) (ms := 0) (wr := []) (ws2 := [(a_h, .inr (4, [.ref a_h_signs, .int v_length, .int u1, .int u20.1, .int u20.2, .int u24.2])), (a_h_signs, .inl (cC, 80, .inl v_signs_A))]) (va_runV (As := [.int ((p0 + (1 : Int32)) + u20.2)]) (rest := []) ⟨hx, hb, hml, hown, hts⟩ (k_X4_stepBehind l D cI cC cJ cB a_h a_h_signs v_length u1 u20.1 u20.2 v_next v_signs_A N ((p0 + (1 : Int32)) + u20.2) H.size _ hu24) (cwV 1 hts gX4_readMove_X4_stepBehind rfl rfl rfl (by decide +kernel) ⟨Nat.le_of_ble_eq_true rfl, Nat.le_of_ble_eq_true rfl⟩) (pv_V hP hD hK hN [0, 1] rfl rfl (ci := 4) rfl 0 rfl) rfl rfl hl.1 rfl (lv_room (Nat.le_of_ble_eq_true rfl)) dX4_readMove_180 ⟨Nat.zero_le _, Nat.zero_le _⟩) hP hD hS hA [0, 1] [] [0, 1] rfl rfl rfl rfl rfl rfl (fun H locs hP hD hS => ?_)
              refine lv_if_eq (tgt := 190) hx hb dX4_readMove_183 (by decide) (fun hc25 => ?_) (fun hc25 => ?_)
              · replace h := it_e hc25 h
                refine lv_iconst (v := (0 : Int32)) hx hb dX4_readMove_190 (by decide) ?_
                obtain rfl := sm_e h
                exact rx_z hx hb hr (nar_z (Or.inl rfl)) hP hK hD hS dX4_readMove_191 hlocks
              · replace h := if_e hc25 h
                refine lv_iconst (v := (1 : Int32)) hx hb dX4_readMove_186 (by decide) ?_
                refine lv_goto (tgt := 191) hx hb dX4_readMove_187 (by decide) ?_
                obtain rfl := sm_e h
                exact rx_z hx hb hr (nar_z (Or.inr rfl)) hP hK hD hS dX4_readMove_191 hlocks
        · replace h := if_e hc19 h
          by_cases hc26 : u1 = (122 : Int32)
          · replace h := it_e hc26 h
            refine lv_lookup (off := 179) (tgt := 192) hx hb dX4_readMove_13 (by decide) (by rw [hc26]; rfl) (by decide) ?_
            refine lv_aload_n hx hb dX4_readMove_192 rfl (lv_at hl 0 rfl) ?_
            refine lv_iconst (v := (0 : Int32)) hx hb dX4_readMove_193 (by decide) ?_
            refine va_put (D := D) (ci := 4) (v := .int (0 : Int32)) (ty := .int) (C := RX4) (T := TX4) (N := 6) hx hb hts in_X4_readMove_X4 tyX4 tyX4_ok nmX4 hown hK hP hD hS 0 rfl rfl 3 (by decide) (hts _ q_X4_readMove_3) (fun _ h9 => h9) rfl (by decide +kernel) rfl rfl (Nat.le_of_ble_eq_true rfl) dX4_readMove_194 (fun H locs hP hD hS => ?_)
            have hP : va_P D vwCl [(a_h, .inr (4, [.ref a_h_signs, .int v_length, .int u1, .int (0 : Int32), .int v_digits, .int v_next])), (a_h_signs, .inl (cC, 80, .inl v_signs_A))] H := hP
            have hD : va_D A [(a_h, .inr (4, [.ref a_h_signs, .int v_length, .int u1, .int (0 : Int32), .int v_digits, .int v_next])), (a_h_signs, .inl (cC, 80, .inl v_signs_A))] := hD
            refine lv_aload_n hx hb dX4_readMove_197 rfl (lv_at hl 0 rfl) ?_
            refine lv_iload_n hx hb dX4_readMove_198 rfl (lv_at hl 1 rfl) ?_
            refine lv_iconst (v := (1 : Int32)) hx hb dX4_readMove_199 (by decide) ?_
            refine lv_iadd hx hb dX4_readMove_200 ?_
            obtain ⟨u27, hu27, h⟩ := bd_e h
            refine kx_i (mc := 0) (ms := 0) (wr := []) (ws2 := [(a_h, .inr (4, [.ref a_h_signs, .int v_length, .int u1, .int (0 : Int32), .int v_digits, .int u27.2])), (a_h_signs, .inl (cC, 80, .inl v_signs_A))]) (va_runV (As := [.int (p0 + (1 : Int32))]) (rest := []) ⟨hx, hb, hml, hown, hts⟩ (k_X4_stepBehind l D cI cC cJ cB a_h a_h_signs v_length u1 (0 : Int32) v_digits v_next v_signs_A N (p0 + (1 : Int32)) H.size _ hu27) (cwV 1 hts gX4_readMove_X4_stepBehind rfl rfl rfl (by decide +kernel) ⟨Nat.le_of_ble_eq_true rfl, Nat.le_of_ble_eq_true rfl⟩) (pv_V hP hD hK hN [0, 1] rfl rfl (ci := 4) rfl 0 rfl) rfl rfl hl.1 rfl (lv_room (Nat.le_of_ble_eq_true rfl)) dX4_readMove_201 ⟨Nat.zero_le _, Nat.zero_le _⟩) hP hD hS hA [0, 1] [] [0, 1] rfl rfl rfl rfl rfl rfl (fun H locs hP hD hS => ?_)
            obtain ⟨hz28, h⟩ := gT_e h
            obtain rfl := sm_e h
            exact rx_z hx hb hr (nar_z hz28) hP hK hD hS dX4_readMove_204 hlocks
          · replace h := if_e hc26 h
            refine lv_lookup (off := 192) (tgt := 205) hx hb dX4_readMove_13 (by decide) ((lv_osw hc3 rfl).trans ((lv_osw hc8 rfl).trans ((lv_osw hc13 rfl).trans ((lv_osw hc19 rfl).trans ((lv_osw hc26 rfl).trans rfl))))) (by decide) ?_
            refine lv_iconst (v := (0 : Int32)) hx hb dX4_readMove_205 (by decide) ?_
            obtain rfl := sm_e h
            exact rx_z hx hb hr (nar_z (Or.inl rfl)) hP hK hD hS dX4_readMove_206 hlocks
-- X4_positionOfFault
def f_X4_positionOfFault_b4 (N : Nat) (v_length : Int32) (v_signs_A : Nat → Int32) : Nat → Int32 → Int32 → Int32 → Int32 → Int32 → Int32 → Option (Int32 × Int32 × Int32 × Int32 × Int32)
  | 0, _, _, _, _, _, _ => none
  | k + 1, x1, x2, m_kind, m_number, m_digits, m_next =>
    (if (80 : Int32) ≤ x2 then some (v_length, m_kind, m_number, m_digits, m_next)
    else (if v_length ≤ x1 then some (v_length, m_kind, m_number, m_digits, m_next)
    else Option.bind (f_X4_readMove N v_length m_number m_digits m_next v_signs_A x1) (fun u3 => (if ¬ u3.1 = 0 then nm (x2 + (1 : Int32)) (fun t5 => (f_X4_positionOfFault_b4 N v_length v_signs_A k u3.2.2.2.2 t5 u3.2.1 u3.2.2.1 u3.2.2.2.1 u3.2.2.2.2))
    else some (x1, u3.2.1, u3.2.2.1, u3.2.2.2.1, u3.2.2.2.2)))))
def f_X4_positionOfFault (N : Nat) (v_length : Int32) (v_kind : Int32) (v_number : Int32) (v_digits : Int32) (v_next : Int32) (v_signs_A : Nat → Int32) : Option (Int32 × Int32 × Int32 × Int32 × Int32) :=
  (f_X4_positionOfFault_b4 N v_length v_signs_A N (0 : Int32) (0 : Int32) v_kind v_number v_digits v_next)
theorem q_X4_positionOfFault_1 : (.fieldLink RX4 15 "SpringBalance$Text" "length" "I" : Cond) ∈ wsX4_positionOfFault := List.mem_of_getElem? (i := 1) (by decide +kernel)
set_option maxRecDepth 20000 in
theorem in_X4_positionOfFault_X4 : ∀ w ∈ u_ws RX4 TX4 6, w ∈ wsX4_positionOfFault := by decide +kernel
theorem q_X4_positionOfFault_2 : (.fieldLink RX4 23 "SpringBalance$Text" "next" "I" : Cond) ∈ wsX4_positionOfFault := List.mem_of_getElem? (i := 2) (by decide +kernel)
set_option maxHeartbeats 8000000 in
set_option maxRecDepth 100000 in
theorem k_X4_positionOfFault (l : Launch) (D : va_G) (cI cC cJ cB : ClassId) (a_h a_h_signs : Nat) (v_length : Int32) (v_kind : Int32) (v_number : Int32) (v_digits : Int32) (v_next : Int32) (v_signs_A : Nat → Int32) (N : Nat) (sz : Nat) (u : Int32 × Int32 × Int32 × Int32 × Int32) (hu : f_X4_positionOfFault N v_length v_kind v_number v_digits v_next v_signs_A = some u) :
    Met l yX4_positionOfFault wsX4_positionOfFault ({ frames := 3, cells := 0, slots := 0, locals := 64 } : Room) (va_Pc [.ref a_h] (PreW D (ty4 cI cC cJ cB) sz [(a_h, .inr (4, [.ref a_h_signs, .int v_length, .int v_kind, .int v_number, .int v_digits, .int v_next])), (a_h_signs, .inl (cC, 80, .inl v_signs_A))]))
      (QI D (ty4 cI cC cJ cB) (va_A [(a_h, .inr (4, [.ref a_h_signs, .int v_length, .int v_kind, .int v_number, .int v_digits, .int v_next])), (a_h_signs, .inl (cC, 80, .inl v_signs_A))] sz) [(a_h, .inr (4, [.ref a_h_signs, .int v_length, .int u.2.1, .int u.2.2.1, .int u.2.2.2.1, .int u.2.2.2.2])), (a_h_signs, .inl (cC, 80, .inl v_signs_A))] u.1) 0 0 (va_A [(a_h, .inr (4, [.ref a_h_signs, .int v_length, .int v_kind, .int v_number, .int v_digits, .int v_next])), (a_h_signs, .inl (cC, 80, .inl v_signs_A))] sz) := by
  refine met_go (y := yX4_positionOfFault) (wsy := wsX4_positionOfFault) (cc := cX4_positionOfFault) (maxL := 3) (ret := (some .int)) (av := [.ref a_h]) (Qc := fun A => QI D (ty4 cI cC cJ cB) A [(a_h, .inr (4, [.ref a_h_signs, .int v_length, .int u.2.1, .int u.2.2.1, .int u.2.2.2.1, .int u.2.2.2.2])), (a_h_signs, .inl (cC, 80, .inl v_signs_A))] u.1) (by decide) rfl (Nat.le_of_ble_eq_true rfl) ?_
  intro p e s m below meth c A ls hx hb hr hml hown hts hlocks hnm hN hK hP hD hS hA hl
  have h := hu
  clear hu
  unfold f_X4_positionOfFault at h
  have hl : lv_has ls 3 [(0, .ref a_h)] := hl
  have B4 : ∀ (k : Nat) (x1 : Int32) (x2 : Int32) (m_kind : Int32) (m_number : Int32) (m_digits : Int32) (m_next : Int32) (H : Heap) (locs : List Loc) (ls : Array Slot), f_X4_positionOfFault_b4 N v_length v_signs_A k x1 x2 m_kind m_number m_digits m_next = some u → va_P D vwCl [(a_h, .inr (4, [.ref a_h_signs, .int v_length, .int m_kind, .int m_number, .int m_digits, .int m_next])), (a_h_signs, .inl (cC, 80, .inl v_signs_A))] H → va_D A [(a_h, .inr (4, [.ref a_h_signs, .int v_length, .int m_kind, .int m_number, .int m_digits, .int m_next])), (a_h_signs, .inl (cC, 80, .inl v_signs_A))] → va_S A s.heap H locs → lv_has ls 3 [(0, .ref a_h), (1, .int x1), (2, .int x2)] → W p l e ({ frames := 3, cells := 0, slots := 0, locals := 64 } : Room) s m ([.ref a_h] : List Value).toArray below meth c H locs 0 0 (MQ below (QI D (ty4 cI cC cJ cB) A [(a_h, .inr (4, [.ref a_h_signs, .int v_length, .int u.2.1, .int u.2.2.1, .int u.2.2.2.1, .int u.2.2.2.2])), (a_h_signs, .inl (cC, 80, .inl v_signs_A))] u.1) ([.ref a_h] : List Value).toArray s 0 0 A) (F0 m 4 ls []) := by
    intro k
    induction k with
    | zero =>
      intro x1 x2 m_kind m_number m_digits m_next H locs ls h
      exact nomatch (show (none : Option (Int32 × Int32 × Int32 × Int32 × Int32)) = some u from h)
    | succ k ih =>
      intro x1 x2 m_kind m_number m_digits m_next H locs ls h hP hD hS hl
      rw [f_X4_positionOfFault_b4.eq_2] at h
      refine lv_iload_n hx hb dX4_positionOfFault_4 rfl (lv_at hl 2 rfl) ?_
      refine lv_bipush (v := (80 : Int32)) hx hb dX4_positionOfFault_5 (by decide) ?_
      refine lv_icmp_ge (tgt := 39) hx hb dX4_positionOfFault_7 (by decide) (fun hc1 => ?_) (fun hc1 => ?_)
      · replace h := it_e hc1 h
        refine lv_aload_n hx hb dX4_positionOfFault_39 rfl (lv_at hl 0 rfl) ?_
        refine va_get (D := D) (ci := 4) (v := .int v_length) (C := RX4) (T := TX4) (N := 6) hx hb hts in_X4_positionOfFault_X4 hown hK hP 0 rfl rfl 1 (by decide) (hts _ q_X4_positionOfFault_1) (fun _ h9 => h9) rfl dX4_positionOfFault_40 ?_
        obtain rfl := sm_e h
        exact rx_i hx hb hr  hP hK hD hS dX4_positionOfFault_43 hlocks
      · replace h := if_e hc1 h
        refine lv_iload_n hx hb dX4_positionOfFault_10 rfl (lv_at hl 1 rfl) ?_
        refine lv_aload_n hx hb dX4_positionOfFault_11 rfl (lv_at hl 0 rfl) ?_
        refine va_get (D := D) (ci := 4) (v := .int v_length) (C := RX4) (T := TX4) (N := 6) hx hb hts in_X4_positionOfFault_X4 hown hK hP 0 rfl rfl 1 (by decide) (hts _ q_X4_positionOfFault_1) (fun _ h9 => h9) rfl dX4_positionOfFault_12 ?_
        refine lv_icmp_ge (tgt := 39) hx hb dX4_positionOfFault_15 (by decide) (fun hc2 => ?_) (fun hc2 => ?_)
        · replace h := it_e hc2 h
          refine lv_aload_n hx hb dX4_positionOfFault_39 rfl (lv_at hl 0 rfl) ?_
          refine va_get (D := D) (ci := 4) (v := .int v_length) (C := RX4) (T := TX4) (N := 6) hx hb hts in_X4_positionOfFault_X4 hown hK hP 0 rfl rfl 1 (by decide) (hts _ q_X4_positionOfFault_1) (fun _ h9 => h9) rfl dX4_positionOfFault_40 ?_
          obtain rfl := sm_e h
          exact rx_i hx hb hr  hP hK hD hS dX4_positionOfFault_43 hlocks
        · replace h := if_e hc2 h
          refine lv_aload_n hx hb dX4_positionOfFault_18 rfl (lv_at hl 0 rfl) ?_
          refine lv_iload_n hx hb dX4_positionOfFault_19 rfl (lv_at hl 1 rfl) ?_
          obtain ⟨u3, hu3, h⟩ := bd_e h
          refine kx_i (mc := 0) (ms := 0) (wr := []) (ws2 := [(a_h, .inr (4, [.ref a_h_signs, .int v_length, .int u3.2.1, .int u3.2.2.1, .int u3.2.2.2.1, .int u3.2.2.2.2])), (a_h_signs, .inl (cC, 80, .inl v_signs_A))]) (va_runV (As := [.int x1]) (rest := []) ⟨hx, hb, hml, hown, hts⟩ (k_X4_readMove l D cI cC cJ cB a_h a_h_signs v_length m_kind m_number m_digits m_next v_signs_A N x1 H.size _ hu3) (cwV 1 hts gX4_positionOfFault_X4_readMove rfl rfl rfl (by decide +kernel) ⟨Nat.le_of_ble_eq_true rfl, Nat.le_of_ble_eq_true rfl⟩) (pv_V hP hD hK hN [0, 1] rfl rfl (ci := 4) rfl 0 rfl) rfl rfl hl.1 rfl (lv_room (Nat.le_of_ble_eq_true rfl)) dX4_positionOfFault_20 ⟨Nat.zero_le _, Nat.zero_le _⟩) hP hD hS hA [0, 1] [] [0, 1] rfl rfl rfl rfl rfl rfl (fun H locs hP hD hS => ?_)
          refine lv_if_ne (tgt := 28) hx hb dX4_positionOfFault_23 (by decide) (fun hc4 => ?_) (fun hc4 => ?_)
          · replace h := it_e hc4 h
            refine lv_aload_n hx hb dX4_positionOfFault_28 rfl (lv_at hl 0 rfl) ?_
            refine va_get (D := D) (ci := 4) (v := .int u3.2.2.2.2) (C := RX4) (T := TX4) (N := 6) hx hb hts in_X4_positionOfFault_X4 hown hK hP 0 rfl rfl 5 (by decide) (hts _ q_X4_positionOfFault_2) (fun _ h9 => h9) rfl dX4_positionOfFault_29 ?_
            refine lv_istore_n (lv' := [(1, .int u3.2.2.2.2), (0, .ref a_h), (2, .int x2)]) hx hb dX4_positionOfFault_32 rfl hl (by decide) rfl (fun ls hl => ?_)
            obtain ⟨t5, et5, h⟩ := nm_x h
            refine lv_iinc (v := t5) (lv' := [(2, .int t5), (1, .int u3.2.2.2.2), (0, .ref a_h)]) hx hb dX4_positionOfFault_33 hl (k := 2) rfl (by rw [et5]; rfl) (by decide) rfl (fun ls hl => ?_)
            refine lv_goto (tgt := 4) hx hb dX4_positionOfFault_36 (by decide) ?_
            exact ih u3.2.2.2.2 t5 u3.2.1 u3.2.2.1 u3.2.2.2.1 u3.2.2.2.2 _ _ _ h hP hD hS (lv_sub hl [2, 1, 0] rfl)
          · replace h := in_e hc4 h
            refine lv_iload_n hx hb dX4_positionOfFault_26 rfl (lv_at hl 1 rfl) ?_
            obtain rfl := sm_e h
            exact rx_i hx hb hr  hP hK hD hS dX4_positionOfFault_27 hlocks
  refine lv_iconst (v := (0 : Int32)) hx hb dX4_positionOfFault_0 (by decide) ?_
  refine lv_istore_n (lv' := [(1, .int (0 : Int32)), (0, .ref a_h)]) hx hb dX4_positionOfFault_1 rfl hl (by decide) rfl (fun ls hl => ?_)
  refine lv_iconst (v := (0 : Int32)) hx hb dX4_positionOfFault_2 (by decide) ?_
  refine lv_istore_n (lv' := [(2, .int (0 : Int32)), (1, .int (0 : Int32)), (0, .ref a_h)]) hx hb dX4_positionOfFault_3 rfl hl (by decide) rfl (fun ls hl => ?_)
  exact B4 N (0 : Int32) (0 : Int32) v_kind v_number v_digits v_next _ _ _ h hP hD hS (lv_sub hl [2, 1, 0] rfl)
