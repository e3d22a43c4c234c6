-- X2_copyFrom
def f_X2_copyFrom (n_h : Nat) (n_o0 : Nat) (v_firsts_A : Nat → Int32) (v_seconds_A : Nat → Int32) (v_o0_size : Int32) (v_o0_firsts_A : Nat → Int32) (v_o0_seconds_A : Nat → Int32) : Option (Int32 × (Nat → Int32) × (Nat → Int32)) :=
  nm (if (Int32.ofNat n_h) < v_o0_size then (Int32.ofNat n_h) else v_o0_size) (fun t1 => gT (¬ (0 : Int32) < 0 ∧ ¬ (0 : Int32) < 0 ∧ ¬ t1 < 0 ∧ Int32.toNatClampNeg (0 : Int32) + Int32.toNatClampNeg t1 ≤ n_o0 ∧ Int32.toNatClampNeg (0 : Int32) + Int32.toNatClampNeg t1 ≤ n_h) (nm (va_cpy v_o0_firsts_A v_firsts_A (Int32.toNatClampNeg (0 : Int32)) (Int32.toNatClampNeg (0 : Int32)) (Int32.toNatClampNeg t1)) (fun g3 => gT (¬ (0 : Int32) < 0 ∧ ¬ (0 : Int32) < 0 ∧ ¬ t1 < 0 ∧ Int32.toNatClampNeg (0 : Int32) + Int32.toNatClampNeg t1 ≤ n_o0 ∧ Int32.toNatClampNeg (0 : Int32) + Int32.toNatClampNeg t1 ≤ n_h) (nm (va_cpy v_o0_seconds_A v_seconds_A (Int32.toNatClampNeg (0 : Int32)) (Int32.toNatClampNeg (0 : Int32)) (Int32.toNatClampNeg t1)) (fun g5 => some (t1, g3, g5))))))
theorem q_X2_copyFrom_1 : (.fieldLink RX2 24 "SpringBalance$Pairs" "size" "I" : Cond) ∈ wsX2_copyFrom := List.mem_of_getElem? (i := 1) (by decide +kernel)
set_option maxRecDepth 20000 in
theorem in_X2_copyFrom_X2 : ∀ w ∈ u_ws RX2 TX2 3, w ∈ wsX2_copyFrom := by decide +kernel
theorem q_X2_copyFrom_2 : (.fieldLink RX2 15 "SpringBalance$Pairs" "firsts" "[I" : Cond) ∈ wsX2_copyFrom := List.mem_of_getElem? (i := 2) (by decide +kernel)
theorem q_X2_copyFrom_3 : (.methodLink RX2 28 Lib.Math.min.name : Cond) ∈ wsX2_copyFrom := List.mem_of_getElem? (i := 3) (by decide +kernel)
theorem q_X2_copyFrom_4 : (.static Lib.Math.min.name : Cond) ∈ wsX2_copyFrom := List.mem_of_getElem? (i := 4) (by decide +kernel)
theorem q_X2_copyFrom_5 : (.initialized "java/lang/Math" : Cond) ∈ wsX2_copyFrom := List.mem_of_getElem? (i := 5) (by decide +kernel)
theorem q_X2_copyFrom_6 : (.code Lib.Math.min.name Lib.Math.min.code 2 (some .int) : Cond) ∈ wsX2_copyFrom := List.mem_of_getElem? (i := 6) (by decide +kernel)
theorem q_X2_copyFrom_7 : (.methodLink RX2 31 arraycopyName : Cond) ∈ wsX2_copyFrom := List.mem_of_getElem? (i := 7) (by decide +kernel)
theorem q_X2_copyFrom_8 : (.native arraycopyName : Cond) ∈ wsX2_copyFrom := List.mem_of_getElem? (i := 8) (by decide +kernel)
theorem q_X2_copyFrom_9 : (.static arraycopyName : Cond) ∈ wsX2_copyFrom := List.mem_of_getElem? (i := 9) (by decide +kernel)
theorem q_X2_copyFrom_10 : (.initialized "java/lang/System" : Cond) ∈ wsX2_copyFrom := List.mem_of_getElem? (i := 10) (by decide +kernel)
theorem q_X2_copyFrom_11 : (.fieldLink RX2 21 "SpringBalance$Pairs" "seconds" "[I" : Cond) ∈ wsX2_copyFrom := List.mem_of_getElem? (i := 11) (by decide +kernel)
set_option maxHeartbeats 8000000 in
set_option maxRecDepth 100000 in
theorem k_X2_copyFrom (l : Launch) (D : va_G) (cI cC cJ cB : ClassId) (a_h a_h_firsts a_h_seconds a_o0 a_o0_firsts a_o0_seconds : Nat) (n_h n_o0 : Nat) (v_size : Int32) (v_firsts_A : Nat → Int32) (v_seconds_A : Nat → Int32) (v_o0_size : Int32) (v_o0_firsts_A : Nat → Int32) (v_o0_seconds_A : Nat → Int32) (N : Nat) (sz : Nat) (u : Int32 × (Nat → Int32) × (Nat → Int32)) (hu : f_X2_copyFrom n_h n_o0 v_firsts_A v_seconds_A v_o0_size v_o0_firsts_A v_o0_seconds_A = some u) :
    Met l yX2_copyFrom wsX2_copyFrom ({ frames := 1, cells := 0, slots := 0, locals := 40 } : Room) (va_Pc [.ref a_h, .ref a_o0] (PreW D (ty4 cI cC cJ cB) sz [(a_h, .inr (2, [.ref a_h_firsts, .ref a_h_seconds, .int v_size])), (a_h_firsts, .inl (cI, n_h, .inl v_firsts_A)), (a_h_seconds, .inl (cI, n_h, .inl v_seconds_A)), (a_o0, .inr (2, [.ref a_o0_firsts, .ref a_o0_seconds, .int v_o0_size])), (a_o0_firsts, .inl (cI, n_o0, .inl v_o0_firsts_A)), (a_o0_seconds, .inl (cI, n_o0, .inl v_o0_seconds_A))]))
      (QV D (ty4 cI cC cJ cB) (va_A [(a_h, .inr (2, [.ref a_h_firsts, .ref a_h_seconds, .int v_size])), (a_h_firsts, .inl (cI, n_h, .inl v_firsts_A)), (a_h_seconds, .inl (cI, n_h, .inl v_seconds_A)), (a_o0, .inr (2, [.ref a_o0_firsts, .ref a_o0_seconds, .int v_o0_size])), (a_o0_firsts, .inl (cI, n_o0, .inl v_o0_firsts_A)), (a_o0_seconds, .inl (cI, n_o0, .inl v_o0_seconds_A))] sz) [(a_h, .inr (2, [.ref a_h_firsts, .ref a_h_seconds, .int u.1])), (a_h_firsts, .inl (cI, n_h, .inl u.2.1)), (a_h_seconds, .inl (cI, n_h, .inl u.2.2)), (a_o0, .inr (2, [.ref a_o0_firsts, .ref a_o0_seconds, .int v_o0_size])), (a_o0_firsts, .inl (cI, n_o0, .inl v_o0_firsts_A)), (a_o0_seconds, .inl (cI, n_o0, .inl v_o0_seconds_A))]) 0 0 (va_A [(a_h, .inr (2, [.ref a_h_firsts, .ref a_h_seconds, .int v_size])), (a_h_firsts, .inl (cI, n_h, .inl v_firsts_A)), (a_h_seconds, .inl (cI, n_h, .inl v_seconds_A)), (a_o0, .inr (2, [.ref a_o0_firsts, .ref a_o0_seconds, .int v_o0_size])), (a_o0_firsts, .inl (cI, n_o0, .inl v_o0_firsts_A)), (a_o0_seconds, .inl (cI, n_o0, .inl v_o0_seconds_A))] sz) := by
  refine met_go (y := yX2_copyFrom) (wsy := wsX2_copyFrom) (cc := cX2_copyFrom) (maxL := 2) (ret := none) (av := [.ref a_h, .ref a_o0]) (Qc := fun A => QV D (ty4 cI cC cJ cB) A [(a_h, .inr (2, [.ref a_h_firsts, .ref a_h_seconds, .int u.1])), (a_h_firsts, .inl (cI, n_h, .inl u.2.1)), (a_h_seconds, .inl (cI, n_h, .inl u.2.2)), (a_o0, .inr (2, [.ref a_o0_firsts, .ref a_o0_seconds, .int v_o0_size])), (a_o0_firsts, .inl (cI, n_o0, .inl v_o0_firsts_A)), (a_o0_seconds, .inl (cI, n_o0, .inl v_o0_seconds_A))]) (by decide) rfl (Nat.le_of_ble_eq_true rfl) ?_
  intro p e s m below meth c A ls hx hb hr hml hown hts hlocks hnm hN hK hP hD hS hA hl
  have h := hu
  clear hu
  unfold f_X2_copyFrom at h
  have hl : lv_has ls 2 [(0, .ref a_h), (1, .ref a_o0)] := hl
  refine lv_aload_n hx hb dX2_copyFrom_0 rfl (lv_at hl 0 rfl) ?_
  refine lv_aload_n hx hb dX2_copyFrom_1 rfl (lv_at hl 1 rfl) ?_
  refine va_get (D := D) (ci := 2) (v := .int v_o0_size) (C := RX2) (T := TX2) (N := 3) hx hb hts in_X2_copyFrom_X2 hown hK hP 3 rfl rfl 2 (by decide) (hts _ q_X2_copyFrom_1) (fun _ h9 => h9) rfl dX2_copyFrom_2 ?_
  refine lv_aload_n hx hb dX2_copyFrom_5 rfl (lv_at hl 0 rfl) ?_
  refine va_get (D := D) (ci := 2) (v := .ref a_h_firsts) (C := RX2) (T := TX2) (N := 3) hx hb hts in_X2_copyFrom_X2 hown hK hP 0 rfl rfl 0 (by decide) (hts _ q_X2_copyFrom_2) (fun _ h9 => h9) rfl dX2_copyFrom_6 ?_
  refine va_alen (ty := .int) (v := (Int32.ofNat n_h)) hx hb hK hP 1 0 rfl rfl rfl dX2_copyFrom_9 ?_
  refine va_mmin hx hb (hml.trans hl.1.symm) hown (hts _ q_X2_copyFrom_3) (hts _ q_X2_copyFrom_4) (hts _ q_X2_copyFrom_5) (hts _ q_X2_copyFrom_6) (by decide) (Nat.le_of_ble_eq_true rfl) (Nat.zero_le _) (Nat.zero_le _) dX2_copyFrom_10 ?_
  refine lv_topi (fun t1 et1 => ?_)
  replace h := nm_at h et1
  refine va_put (D := D) (ci := 2) (v := .int t1) (ty := .int) (C := RX2) (T := TX2) (N := 3) hx hb hts in_X2_copyFrom_X2 tyX2 tyX2_ok nmX2 hown hK hP hD hS 0 rfl rfl 2 (by decide) (hts _ q_X2_copyFrom_1) (fun _ h9 => h9) rfl (by decide +kernel) rfl rfl (Nat.le_of_ble_eq_true rfl) dX2_copyFrom_13 (fun H locs hP hD hS => ?_)
  have hP : va_P D vwCl [(a_h, .inr (2, [.ref a_h_firsts, .ref a_h_seconds, .int t1])), (a_h_firsts, .inl (cI, n_h, .inl v_firsts_A)), (a_h_seconds, .inl (cI, n_h, .inl v_seconds_A)), (a_o0, .inr (2, [.ref a_o0_firsts, .ref a_o0_seconds, .int v_o0_size])), (a_o0_firsts, .inl (cI, n_o0, .inl v_o0_firsts_A)), (a_o0_seconds, .inl (cI, n_o0, .inl v_o0_seconds_A))] H := hP
  have hD : va_D A [(a_h, .inr (2, [.ref a_h_firsts, .ref a_h_seconds, .int t1])), (a_h_firsts, .inl (cI, n_h, .inl v_firsts_A)), (a_h_seconds, .inl (cI, n_h, .inl v_seconds_A)), (a_o0, .inr (2, [.ref a_o0_firsts, .ref a_o0_seconds, .int v_o0_size])), (a_o0_firsts, .inl (cI, n_o0, .inl v_o0_firsts_A)), (a_o0_seconds, .inl (cI, n_o0, .inl v_o0_seconds_A))] := hD
  refine lv_aload_n hx hb dX2_copyFrom_16 rfl (lv_at hl 1 rfl) ?_
  refine va_get (D := D) (ci := 2) (v := .ref a_o0_firsts) (C := RX2) (T := TX2) (N := 3) hx hb hts in_X2_copyFrom_X2 hown hK hP 3 rfl rfl 0 (by decide) (hts _ q_X2_copyFrom_2) (fun _ h9 => h9) rfl dX2_copyFrom_17 ?_
  refine lv_iconst (v := (0 : Int32)) hx hb dX2_copyFrom_20 (by decide) ?_
  refine lv_aload_n hx hb dX2_copyFrom_21 rfl (lv_at hl 0 rfl) ?_
  refine va_get (D := D) (ci := 2) (v := .ref a_h_firsts) (C := RX2) (T := TX2) (N := 3) hx hb hts in_X2_copyFrom_X2 hown hK hP 0 rfl rfl 0 (by decide) (hts _ q_X2_copyFrom_2) (fun _ h9 => h9) rfl dX2_copyFrom_22 ?_
  refine lv_iconst (v := (0 : Int32)) hx hb dX2_copyFrom_25 (by decide) ?_
  refine lv_aload_n hx hb dX2_copyFrom_26 rfl (lv_at hl 0 rfl) ?_
  refine va_get (D := D) (ci := 2) (v := .int t1) (C := RX2) (T := TX2) (N := 3) hx hb hts in_X2_copyFrom_X2 hown hK hP 0 rfl rfl 2 (by decide) (hts _ q_X2_copyFrom_1) (fun _ h9 => h9) rfl dX2_copyFrom_27 ?_
  obtain ⟨hz2, h⟩ := gT_e h
  refine va_copyi (ty := .int) hx hb (hml.trans hl.1.symm) hown (hts _ q_X2_copyFrom_7) (hts _ q_X2_copyFrom_8) (hts _ q_X2_copyFrom_9) (hts _ q_X2_copyFrom_10) hK hP hD hS 4 1 0 0 rfl rfl rfl rfl rfl hz2.1 hz2.2.1 hz2.2.2.1 hz2.2.2.2.1 hz2.2.2.2.2 (fun _ _ => rfl) (by decide) (Nat.le_of_ble_eq_true rfl) dX2_copyFrom_30 (fun H locs hP hD hS => ?_)
  obtain ⟨g3, eg3, h⟩ := nm_x h
  have hP : va_P D vwCl [(a_h, .inr (2, [.ref a_h_firsts, .ref a_h_seconds, .int t1])), (a_h_firsts, .inl (cI, n_h, .inl g3)), (a_h_seconds, .inl (cI, n_h, .inl v_seconds_A)), (a_o0, .inr (2, [.ref a_o0_firsts, .ref a_o0_seconds, .int v_o0_size])), (a_o0_firsts, .inl (cI, n_o0, .inl v_o0_firsts_A)), (a_o0_seconds, .inl (cI, n_o0, .inl v_o0_seconds_A))] H := by rw [eg3]; exact hP
  have hD : va_D A [(a_h, .inr (2, [.ref a_h_firsts, .ref a_h_seconds, .int t1])), (a_h_firsts, .inl (cI, n_h, .inl g3)), (a_h_seconds, .inl (cI, n_h, .inl v_seconds_A)), (a_o0, .inr (2, [.ref a_o0_firsts, .ref a_o0_seconds, .int v_o0_size])), (a_o0_firsts, .inl (cI, n_o0, .inl v_o0_firsts_A)), (a_o0_seconds, .inl (cI, n_o0, .inl v_o0_seconds_A))] := by rw [eg3]; exact hD
  refine lv_aload_n hx hb dX2_copyFrom_33 rfl (lv_at hl 1 rfl) ?_
  refine va_get (D := D) (ci := 2) (v := .ref a_o0_seconds) (C := RX2) (T := TX2) (N := 3) hx hb hts in_X2_copyFrom_X2 hown hK hP 3 rfl rfl 1 (by decide) (hts _ q_X2_copyFrom_11) (fun _ h9 => h9) rfl dX2_copyFrom_34 ?_
  refine lv_iconst (v := (0 : Int32)) hx hb dX2_copyFrom_37 (by decide) ?_
  refine lv_aload_n hx hb dX2_copyFrom_38 rfl (lv_at hl 0 rfl) ?_
  refine va_get (D := D) (ci := 2) (v := .ref a_h_seconds) (C := RX2) (T := TX2) (N := 3) hx hb hts in_X2_copyFrom_X2 hown hK hP 0 rfl rfl 1 (by decide) (hts _ q_X2_copyFrom_11) (fun _ h9 => h9) rfl dX2_copyFrom_39 ?_
  refine lv_iconst (v := (0 : Int32)) hx hb dX2_copyFrom_42 (by decide) ?_
  refine lv_aload_n hx hb dX2_copyFrom_43 rfl (lv_at hl 0 rfl) ?_
  refine va_get (D := D) (ci := 2) (v := .int t1) (C := RX2) (T := TX2) (N := 3) hx hb hts in_X2_copyFrom_X2 hown hK hP 0 rfl rfl 2 (by decide) (hts _ q_X2_copyFrom_1) (fun _ h9 => h9) rfl dX2_copyFrom_44 ?_
  obtain ⟨hz4, h⟩ := gT_e h
  refine va_copyi (ty := .int) hx hb (hml.trans hl.1.symm) hown (hts _ q_X2_copyFrom_7) (hts _ q_X2_copyFrom_8) (hts _ q_X2_copyFrom_9) (hts _ q_X2_copyFrom_10) hK hP hD hS 5 2 0 0 rfl rfl rfl rfl rfl hz4.1 hz4.2.1 hz4.2.2.1 hz4.2.2.2.1 hz4.2.2.2.2 (fun _ _ => rfl) (by decide) (Nat.le_of_ble_eq_true rfl) dX2_copyFrom_47 (fun H locs hP hD hS => ?_)
  obtain ⟨g5, eg5, h⟩ := nm_x h
  have hP : va_P D vwCl [(a_h, .inr (2, [.ref a_h_firsts, .ref a_h_seconds, .int t1])), (a_h_firsts, .inl (cI, n_h, .inl g3)), (a_h_seconds, .inl (cI, n_h, .inl g5)), (a_o0, .inr (2, [.ref a_o0_firsts, .ref a_o0_seconds, .int v_o0_size])), (a_o0_firsts, .inl (cI, n_o0, .inl v_o0_firsts_A)), (a_o0_seconds, .inl (cI, n_o0, .inl v_o0_seconds_A))] H := by rw [eg5]; exact hP
  have hD : va_D A [(a_h, .inr (2, [.ref a_h_firsts, .ref a_h_seconds, .int t1])), (a_h_firsts, .inl (cI, n_h, .inl g3)), (a_h_seconds, .inl (cI, n_h, .inl g5)), (a_o0, .inr (2, [.ref a_o0_firsts, .ref a_o0_seconds, .int v_o0_size])), (a_o0_firsts, .inl (cI, n_o0, .inl v_o0_firsts_A)), (a_o0_seconds, .inl (cI, n_o0, .inl v_o0_seconds_A))] := by rw [eg5]; exact hD
  obtain rfl := sm_e h
  exact rx_v hx hb hr  hP hK hD hS dX2_copyFrom_50 hlocks
-- X2_has
def f_X2_has (v_size : Int32) (p0 : Int32) : Option (Int32) :=
  (if p0 < 0 then some (0 : Int32)
    else (if v_size ≤ p0 then some (0 : Int32)
    else some (1 : Int32)))
theorem q_X2_has_1 : (.fieldLink RX2 24 "SpringBalance$Pairs" "size" "I" : Cond) ∈ wsX2_has := List.mem_of_getElem? (i := 1) (by decide +kernel)
set_option maxRecDepth 20000 in
theorem in_X2_has_X2 : ∀ w ∈ u_ws RX2 TX2 3, w ∈ wsX2_has := by decide +kernel
set_option maxHeartbeats 8000000 in
set_option maxRecDepth 100000 in
theorem k_X2_has (l : Launch) (D : va_G) (cI cC cJ cB : ClassId) (a_h a_h_firsts a_h_seconds : Nat) (v_size : Int32) (N : Nat) (p0 : Int32) (sz : Nat) (u : Int32) (hu : f_X2_has v_size p0 = some u) :
    Met l yX2_has wsX2_has ({ frames := 0, cells := 0, slots := 0, locals := 0 } : Room) (va_Pc [.ref a_h, .int p0] (PreW D (ty4 cI cC cJ cB) sz [(a_h, .inr (2, [.ref a_h_firsts, .ref a_h_seconds, .int v_size]))]))
      (QI D (ty4 cI cC cJ cB) (va_A [(a_h, .inr (2, [.ref a_h_firsts, .ref a_h_seconds, .int v_size]))] sz) [(a_h, .inr (2, [.ref a_h_firsts, .ref a_h_seconds, .int v_size]))] u) 0 0 (va_A [(a_h, .inr (2, [.ref a_h_firsts, .ref a_h_seconds, .int v_size]))] sz) := by
  refine met_go (y := yX2_has) (wsy := wsX2_has) (cc := cX2_has) (maxL := 2) (ret := (some .boolean)) (av := [.ref a_h, .int p0]) (Qc := fun A => QI D (ty4 cI cC cJ cB) A [(a_h, .inr (2, [.ref a_h_firsts, .ref a_h_seconds, .int v_size]))] u) (by decide) rfl (Nat.le_of_ble_eq_true rfl) ?_
  intro p e s m below meth c A ls hx hb hr hml hown hts hlocks hnm hN hK hP hD hS hA hl
  have h := hu
  clear hu
  unfold f_X2_has at h
  have hl : lv_has ls 2 [(0, .ref a_h), (1, .int p0)] := hl
  refine lv_iload_n hx hb dX2_has_0 rfl (lv_at hl 1 rfl) ?_
  refine lv_if_lt (tgt := 16) hx hb dX2_has_1 (by decide) (fun hc1 => ?_) (fun hc1 => ?_)
  · replace h := it_e hc1 h
    refine lv_iconst (v := (0 : Int32)) hx hb dX2_has_16 (by decide) ?_
    obtain rfl := sm_e h
    exact rx_z hx hb hr rfl hP hK hD hS dX2_has_17 hlocks
  · replace h := if_e hc1 h
    refine lv_iload_n hx hb dX2_has_4 rfl (lv_at hl 1 rfl) ?_
    refine lv_aload_n hx hb dX2_has_5 rfl (lv_at hl 0 rfl) ?_
    refine va_get (D := D) (ci := 2) (v := .int v_size) (C := RX2) (T := TX2) (N := 3) hx hb hts in_X2_has_X2 hown hK hP 0 rfl rfl 2 (by decide) (hts _ q_X2_has_1) (fun _ h9 => h9) rfl dX2_has_6 ?_
    refine lv_icmp_ge (tgt := 16) hx hb dX2_has_9 (by decide) (fun hc2 => ?_) (fun hc2 => ?_)
    · replace h := it_e hc2 h
      refine lv_iconst (v := (0 : Int32)) hx hb dX2_has_16 (by decide) ?_
      obtain rfl := sm_e h
      exact rx_z hx hb hr rfl hP hK hD hS dX2_has_17 hlocks
    · replace h := if_e hc2 h
      refine lv_iconst (v := (1 : Int32)) hx hb dX2_has_12 (by decide) ?_
      refine lv_goto (tgt := 17) hx hb dX2_has_13 (by decide) ?_
      obtain rfl := sm_e h
      exact rx_z hx hb hr rfl hP hK hD hS dX2_has_17 hlocks
-- X2_first
def f_X2_first (n_h : Nat) (v_size : Int32) (v_firsts_A : Nat → Int32) (p0 : Int32) : Option (Int32) :=
  (if p0 < 0 then some (0 : Int32)
    else (if v_size ≤ p0 then some (0 : Int32)
    else gA p0 n_h (some (v_firsts_A (Int32.toNatClampNeg p0)))))
theorem q_X2_first_1 : (.fieldLink RX2 24 "SpringBalance$Pairs" "size" "I" : Cond) ∈ wsX2_first := List.mem_of_getElem? (i := 1) (by decide +kernel)
set_option maxRecDepth 20000 in
theorem in_X2_first_X2 : ∀ w ∈ u_ws RX2 TX2 3, w ∈ wsX2_first := by decide +kernel
theorem q_X2_first_2 : (.fieldLink RX2 15 "SpringBalance$Pairs" "firsts" "[I" : Cond) ∈ wsX2_first := List.mem_of_getElem? (i := 2) (by decide +kernel)
set_option maxHeartbeats 8000000 in
set_option maxRecDepth 100000 in
theorem k_X2_first (l : Launch) (D : va_G) (cI cC cJ cB : ClassId) (a_h a_h_firsts a_h_seconds : Nat) (n_h : Nat) (v_size : Int32) (v_firsts_A : Nat → Int32) (N : Nat) (p0 : Int32) (sz : Nat) (u : Int32) (hu : f_X2_first n_h v_size v_firsts_A p0 = some u) :
    Met l yX2_first wsX2_first ({ frames := 0, cells := 0, slots := 0, locals := 0 } : Room) (va_Pc [.ref a_h, .int p0] (PreW D (ty4 cI cC cJ cB) sz [(a_h, .inr (2, [.ref a_h_firsts, .ref a_h_seconds, .int v_size])), (a_h_firsts, .inl (cI, n_h, .inl v_firsts_A))]))
      (QI D (ty4 cI cC cJ cB) (va_A [(a_h, .inr (2, [.ref a_h_firsts, .ref a_h_seconds, .int v_size])), (a_h_firsts, .inl (cI, n_h, .inl v_firsts_A))] sz) [(a_h, .inr (2, [.ref a_h_firsts, .ref a_h_seconds, .int v_size])), (a_h_firsts, .inl (cI, n_h, .inl v_firsts_A))] u) 0 0 (va_A [(a_h, .inr (2, [.ref a_h_firsts, .ref a_h_seconds, .int v_size])), (a_h_firsts, .inl (cI, n_h, .inl v_firsts_A))] sz) := by
  refine met_go (y := yX2_first) (wsy := wsX2_first) (cc := cX2_first) (maxL := 2) (ret := (some .int)) (av := [.ref a_h, .int p0]) (Qc := fun A => QI D (ty4 cI cC cJ cB) A [(a_h, .inr (2, [.ref a_h_firsts, .ref a_h_seconds, .int v_size])), (a_h_firsts, .inl (cI, n_h, .inl v_firsts_A))] u) (by decide) rfl (Nat.le_of_ble_eq_true rfl) ?_
  intro p e s m below meth c A ls hx hb hr hml hown hts hlocks hnm hN hK hP hD hS hA hl
  have h := hu
  clear hu
  unfold f_X2_first at h
  have hl : lv_has ls 2 [(0, .ref a_h), (1, .int p0)] := hl
  refine lv_iload_n hx hb dX2_first_0 rfl (lv_at hl 1 rfl) ?_
  refine lv_if_lt (tgt := 21) hx hb dX2_first_1 (by decide) (fun hc1 => ?_) (fun hc1 => ?_)
  · replace h := it_e hc1 h
    refine lv_iconst (v := (0 : Int32)) hx hb dX2_first_21 (by decide) ?_
    obtain rfl := sm_e h
    exact rx_i hx hb hr  hP hK hD hS dX2_first_22 hlocks
  · replace h := if_e hc1 h
    refine lv_iload_n hx hb dX2_first_4 rfl (lv_at hl 1 rfl) ?_
    refine lv_aload_n hx hb dX2_first_5 rfl (lv_at hl 0 rfl) ?_
    refine va_get (D := D) (ci := 2) (v := .int v_size) (C := RX2) (T := TX2) (N := 3) hx hb hts in_X2_first_X2 hown hK hP 0 rfl rfl 2 (by decide) (hts _ q_X2_first_1) (fun _ h9 => h9) rfl dX2_first_6 ?_
    refine lv_icmp_ge (tgt := 21) hx hb dX2_first_9 (by decide) (fun hc2 => ?_) (fun hc2 => ?_)
    · replace h := it_e hc2 h
      refine lv_iconst (v := (0 : Int32)) hx hb dX2_first_21 (by decide) ?_
      obtain rfl := sm_e h
      exact rx_i hx hb hr  hP hK hD hS dX2_first_22 hlocks
    · replace h := if_e hc2 h
      refine lv_aload_n hx hb dX2_first_12 rfl (lv_at hl 0 rfl) ?_
      refine va_get (D := D) (ci := 2) (v := .ref a_h_firsts) (C := RX2) (T := TX2) (N := 3) hx hb hts in_X2_first_X2 hown hK hP 0 rfl rfl 0 (by decide) (hts _ q_X2_first_2) (fun _ h9 => h9) rfl dX2_first_13 ?_
      refine lv_iload_n hx hb dX2_first_16 rfl (lv_at hl 1 rfl) ?_
      obtain ⟨hi3, h⟩ := gA_e h
      refine wx_iald hx hb hK hP 1 0 rfl rfl (Int32.toNatClampNeg p0) rfl hi3 dX2_first_17 ?_
      refine lv_goto (tgt := 22) hx hb dX2_first_18 (by decide) ?_
      obtain rfl := sm_e h
      exact rx_i hx hb hr  hP hK hD hS dX2_first_22 hlocks
-- X2_second
def f_X2_second (n_h : Nat) (v_size : Int32) (v_seconds_A : Nat → Int32) (p0 : Int32) : Option (Int32) :=
  (if p0 < 0 then some (0 : Int32)
    else (if v_size ≤ p0 then some (0 : Int32)
    else gA p0 n_h (some (v_seconds_A (Int32.toNatClampNeg p0)))))
theorem q_X2_second_1 : (.fieldLink RX2 24 "SpringBalance$Pairs" "size" "I" : Cond) ∈ wsX2_second := List.mem_of_getElem? (i := 1) (by decide +kernel)
set_option maxRecDepth 20000 in
theorem in_X2_second_X2 : ∀ w ∈ u_ws RX2 TX2 3, w ∈ wsX2_second := by decide +kernel
theorem q_X2_second_2 : (.fieldLink RX2 21 "SpringBalance$Pairs" "seconds" "[I" : Cond) ∈ wsX2_second := List.mem_of_getElem? (i := 2) (by decide +kernel)
set_option maxHeartbeats 8000000 in
set_option maxRecDepth 100000 in
theorem k_X2_second (l : Launch) (D : va_G) (cI cC cJ cB : ClassId) (a_h a_h_firsts a_h_seconds : Nat) (n_h : Nat) (v_size : Int32) (v_seconds_A : Nat → Int32) (N : Nat) (p0 : Int32) (sz : Nat) (u : Int32) (hu : f_X2_second n_h v_size v_seconds_A p0 = some u) :
    Met l yX2_second wsX2_second ({ frames := 0, cells := 0, slots := 0, locals := 0 } : Room) (va_Pc [.ref a_h, .int p0] (PreW D (ty4 cI cC cJ cB) sz [(a_h, .inr (2, [.ref a_h_firsts, .ref a_h_seconds, .int v_size])), (a_h_seconds, .inl (cI, n_h, .inl v_seconds_A))]))
      (QI D (ty4 cI cC cJ cB) (va_A [(a_h, .inr (2, [.ref a_h_firsts, .ref a_h_seconds, .int v_size])), (a_h_seconds, .inl (cI, n_h, .inl v_seconds_A))] sz) [(a_h, .inr (2, [.ref a_h_firsts, .ref a_h_seconds, .int v_size])), (a_h_seconds, .inl (cI, n_h, .inl v_seconds_A))] u) 0 0 (va_A [(a_h, .inr (2, [.ref a_h_firsts, .ref a_h_seconds, .int v_size])), (a_h_seconds, .inl (cI, n_h, .inl v_seconds_A))] sz) := by
  refine met_go (y := yX2_second) (wsy := wsX2_second) (cc := cX2_second) (maxL := 2) (ret := (some .int)) (av := [.ref a_h, .int p0]) (Qc := fun A => QI D (ty4 cI cC cJ cB) A [(a_h, .inr (2, [.ref a_h_firsts, .ref a_h_seconds, .int v_size])), (a_h_seconds, .inl (cI, n_h, .inl v_seconds_A))] u) (by decide) rfl (Nat.le_of_ble_eq_true rfl) ?_
  intro p e s m below meth c A ls hx hb hr hml hown hts hlocks hnm hN hK hP hD hS hA hl
  have h := hu
  clear hu
  unfold f_X2_second at h
  have hl : lv_has ls 2 [(0, .ref a_h), (1, .int p0)] := hl
  refine lv_iload_n hx hb dX2_second_0 rfl (lv_at hl 1 rfl) ?_
  refine lv_if_lt (tgt := 21) hx hb dX2_second_1 (by decide) (fun hc1 => ?_) (fun hc1 => ?_)
  · replace h := it_e hc1 h
    refine lv_iconst (v := (0 : Int32)) hx hb dX2_second_21 (by decide) ?_
    obtain rfl := sm_e h
    exact rx_i hx hb hr  hP hK hD hS dX2_second_22 hlocks
  · replace h := if_e hc1 h
    refine lv_iload_n hx hb dX2_second_4 rfl (lv_at hl 1 rfl) ?_
    refine lv_aload_n hx hb dX2_second_5 rfl (lv_at hl 0 rfl) ?_
    refine va_get (D := D) (ci := 2) (v := .int v_size) (C := RX2) (T := TX2) (N := 3) hx hb hts in_X2_second_X2 hown hK hP 0 rfl rfl 2 (by decide) (hts _ q_X2_second_1) (fun _ h9 => h9) rfl dX2_second_6 ?_
    refine lv_icmp_ge (tgt := 21) hx hb dX2_second_9 (by decide) (fun hc2 => ?_) (fun hc2 => ?_)
    · replace h := it_e hc2 h
      refine lv_iconst (v := (0 : Int32)) hx hb dX2_second_21 (by decide) ?_
      obtain rfl := sm_e h
      exact rx_i hx hb hr  hP hK hD hS dX2_second_22 hlocks
    · replace h := if_e hc2 h
      refine lv_aload_n hx hb dX2_second_12 rfl (lv_at hl 0 rfl) ?_
      refine va_get (D := D) (ci := 2) (v := .ref a_h_seconds) (C := RX2) (T := TX2) (N := 3) hx hb hts in_X2_second_X2 hown hK hP 0 rfl rfl 1 (by decide) (hts _ q_X2_second_2) (fun _ h9 => h9) rfl dX2_second_13 ?_
      refine lv_iload_n hx hb dX2_second_16 rfl (lv_at hl 1 rfl) ?_
      obtain ⟨hi3, h⟩ := gA_e h
      refine wx_iald hx hb hK hP 1 0 rfl rfl (Int32.toNatClampNeg p0) rfl hi3 dX2_second_17 ?_
      refine lv_goto (tgt := 22) hx hb dX2_second_18 (by decide) ?_
      obtain rfl := sm_e h
      exact rx_i hx hb hr  hP hK hD hS dX2_second_22 hlocks
-- X2_found
def f_X2_found (n_h : Nat) (v_size : Int32) (v_firsts_A : Nat → Int32) (v_seconds_A : Nat → Int32) (p0 : Int32) (p1 : Int32) : Option (Int32) :=
  Option.bind (f_X2_has v_size p0) (fun u1 => (if ¬ u1 = 0 then (if ¬ p1 = 0 then gA p0 n_h (some (v_seconds_A (Int32.toNatClampNeg p0)))
    else gA p0 n_h (some (v_firsts_A (Int32.toNatClampNeg p0))))
    else some (-2000000004 : Int32)))
theorem q_X2_found_3 : (.fieldLink RX2 21 "SpringBalance$Pairs" "seconds" "[I" : Cond) ∈ wsX2_found := List.mem_of_getElem? (i := 3) (by decide +kernel)
set_option maxRecDepth 20000 in
theorem in_X2_found_X2 : ∀ w ∈ u_ws RX2 TX2 3, w ∈ wsX2_found := by decide +kernel
theorem q_X2_found_2 : (.fieldLink RX2 15 "SpringBalance$Pairs" "firsts" "[I" : Cond) ∈ wsX2_found := List.mem_of_getElem? (i := 2) (by decide +kernel)
theorem q_X2_found_1 : (.constant RX2 41 (-2000000004) : Cond) ∈ wsX2_found := List.mem_of_getElem? (i := 1) (by decide +kernel)
set_option maxHeartbeats 8000000 in
set_option maxRecDepth 100000 in
theorem k_X2_found (l : Launch) (D : va_G) (cI cC cJ cB : ClassId) (a_h a_h_firsts a_h_seconds : Nat) (n_h : Nat) (v_size : Int32) (v_firsts_A : Nat → Int32) (v_seconds_A : Nat → Int32) (N : Nat) (p0 : Int32) (p1 : Int32) (sz : Nat) (u : Int32) (hu : f_X2_found n_h v_size v_firsts_A v_seconds_A p0 p1 = some u) :
    Met l yX2_found wsX2_found ({ frames := 1, cells := 0, slots := 0, locals := 21 } : Room) (va_Pc [.ref a_h, .int p0, .int p1] (PreW D (ty4 cI cC cJ cB) sz [(a_h, .inr (2, [.ref a_h_firsts, .ref a_h_seconds, .int v_size])), (a_h_firsts, .inl (cI, n_h, .inl v_firsts_A)), (a_h_seconds, .inl (cI, n_h, .inl v_seconds_A))]))
      (QI D (ty4 cI cC cJ cB) (va_A [(a_h, .inr (2, [.ref a_h_firsts, .ref a_h_seconds, .int v_size])), (a_h_firsts, .inl (cI, n_h, .inl v_firsts_A)), (a_h_seconds, .inl (cI, n_h, .inl v_seconds_A))] sz) [(a_h, .inr (2, [.ref a_h_firsts, .ref a_h_seconds, .int v_size])), (a_h_firsts, .inl (cI, n_h, .inl v_firsts_A)), (a_h_seconds, .inl (cI, n_h, .inl v_seconds_A))] u) 0 0 (va_A [(a_h, .inr (2, [.ref a_h_firsts, .ref a_h_seconds, .int v_size])), (a_h_firsts, .inl (cI, n_h, .inl v_firsts_A)), (a_h_seconds, .inl (cI, n_h, .inl v_seconds_A))] sz) := by
  refine met_go (y := yX2_found) (wsy := wsX2_found) (cc := cX2_found) (maxL := 3) (ret := (some .int)) (av := [.ref a_h, .int p0, .int p1]) (Qc := fun A => QI D (ty4 cI cC cJ cB) A [(a_h, .inr (2, [.ref a_h_firsts, .ref a_h_seconds, .int v_size])), (a_h_firsts, .inl (cI, n_h, .inl v_firsts_A)), (a_h_seconds, .inl (cI, n_h, .inl v_seconds_A))] u) (by decide) rfl (Nat.le_of_ble_eq_true rfl) ?_
  intro p e s m below meth c A ls hx hb hr hml hown hts hlocks hnm hN hK hP hD hS hA hl
  have h := hu
  clear hu
  unfold f_X2_found at h
  have hl : lv_has ls 3 [(0, .ref a_h), (1, .int p0), (2, .int p1)] := hl
  refine lv_aload_n hx hb dX2_found_0 rfl (lv_at hl 0 rfl) ?_
  refine lv_iload_n hx hb dX2_found_1 rfl (lv_at hl 1 rfl) ?_
  obtain ⟨u1, hu1, h⟩ := bd_e h
  refine kx_i (mc := 0) (ms := 0) (wr := [(a_h_firsts, .inl (cI, n_h, .inl v_firsts_A)), (a_h_seconds, .inl (cI, n_h, .inl v_seconds_A))]) (ws2 := [(a_h, .inr (2, [.ref a_h_firsts, .ref a_h_seconds, .int v_size])), (a_h_firsts, .inl (cI, n_h, .inl v_firsts_A)), (a_h_seconds, .inl (cI, n_h, .inl v_seconds_A))]) (va_runV (As := [.int p0]) (rest := []) ⟨hx, hb, hml, hown, hts⟩ (k_X2_has l D cI cC cJ cB a_h a_h_firsts a_h_seconds v_size N p0 s.heap.size _ hu1) (cwV 1 hts gX2_found_X2_has rfl rfl rfl (by decide +kernel) ⟨Nat.le_of_ble_eq_true rfl, Nat.le_of_ble_eq_true rfl⟩) (pv_V hP hD hK hN [0] rfl rfl (ci := 2) rfl 0 rfl) rfl rfl hl.1 rfl (lv_room (Nat.le_of_ble_eq_true rfl)) dX2_found_2 ⟨Nat.zero_le _, Nat.zero_le _⟩) hP hD hS hA [0] [1, 2] [2, 0, 1] rfl rfl rfl rfl rfl rfl (fun H locs hP hD hS => ?_)
  refine lv_if_ne (tgt := 11) hx hb dX2_found_5 (by decide) (fun hc2 => ?_) (fun hc2 => ?_)
  · replace h := it_e hc2 h
    refine lv_iload_n hx hb dX2_found_11 rfl (lv_at hl 2 rfl) ?_
    refine lv_if_ne (tgt := 24) hx hb dX2_found_12 (by decide) (fun hc3 => ?_) (fun hc3 => ?_)
    · replace h := it_e hc3 h
      refine lv_aload_n hx hb dX2_found_24 rfl (lv_at hl 0 rfl) ?_
      refine va_get (D := D) (ci := 2) (v := .ref a_h_seconds) (C := RX2) (T := TX2) (N := 3) hx hb hts in_X2_found_X2 hown hK hP 0 rfl rfl 1 (by decide) (hts _ q_X2_found_3) (fun _ h9 => h9) rfl dX2_found_25 ?_
      refine lv_iload_n hx hb dX2_found_28 rfl (lv_at hl 1 rfl) ?_
      obtain ⟨hi4, h⟩ := gA_e h
      refine wx_iald hx hb hK hP 2 0 rfl rfl (Int32.toNatClampNeg p0) rfl hi4 dX2_found_29 ?_
      obtain rfl := sm_e h
      exact rx_i hx hb hr  hP hK hD hS dX2_found_30 hlocks
    · replace h := in_e hc3 h
      refine lv_aload_n hx hb dX2_found_15 rfl (lv_at hl 0 rfl) ?_
      refine va_get (D := D) (ci := 2) (v := .ref a_h_firsts) (C := RX2) (T := TX2) (N := 3) hx hb hts in_X2_found_X2 hown hK hP 0 rfl rfl 0 (by decide) (hts _ q_X2_found_2) (fun _ h9 => h9) rfl dX2_found_16 ?_
      refine lv_iload_n hx hb dX2_found_19 rfl (lv_at hl 1 rfl) ?_
      obtain ⟨hi5, h⟩ := gA_e h
      refine wx_iald hx hb hK hP 1 0 rfl rfl (Int32.toNatClampNeg p0) rfl hi5 dX2_found_20 ?_
      refine lv_goto (tgt := 30) hx hb dX2_found_21 (by decide) ?_
      obtain rfl := sm_e h
      exact rx_i hx hb hr  hP hK hD hS dX2_found_30 hlocks
  · replace h := in_e hc2 h
    refine lv_ldc (v := (-2000000004 : Int32)) hx hb hown (hts _ q_X2_found_1) dX2_found_8 ?_
    obtain rfl := sm_e h
    exact rx_i hx hb hr  hP hK hD hS dX2_found_10 hlocks
-- X2_append
def f_X2_append (n_h : Nat) (v_size : Int32) (v_firsts_A : Nat → Int32) (v_seconds_A : Nat → Int32) (p0 : Int32) (p1 : Int32) : Option (Int32 × (Nat → Int32) × (Nat → Int32)) :=
  (if (Int32.ofNat n_h) ≤ v_size then some (v_size, v_firsts_A, v_seconds_A)
    else gA v_size n_h (nm (upd v_firsts_A (Int32.toNatClampNeg v_size) p0) (fun g3 => gA v_size n_h (nm (upd v_seconds_A (Int32.toNatClampNeg v_size) p1) (fun g5 => nm (v_size + (1 : Int32)) (fun t6 => some (t6, g3, g5)))))))
theorem q_X2_append_1 : (.fieldLink RX2 24 "SpringBalance$Pairs" "size" "I" : Cond) ∈ wsX2_append := List.mem_of_getElem? (i := 1) (by decide +kernel)
set_option maxRecDepth 20000 in
theorem in_X2_append_X2 : ∀ w ∈ u_ws RX2 TX2 3, w ∈ wsX2_append := by decide +kernel
theorem q_X2_append_2 : (.fieldLink RX2 15 "SpringBalance$Pairs" "firsts" "[I" : Cond) ∈ wsX2_append := List.mem_of_getElem? (i := 2) (by decide +kernel)
theorem q_X2_append_3 : (.fieldLink RX2 21 "SpringBalance$Pairs" "seconds" "[I" : Cond) ∈ wsX2_append := List.mem_of_getElem? (i := 3) (by decide +kernel)
set_option maxHeartbeats 8000000 in
set_option maxRecDepth 100000 in
theorem k_X2_append (l : Launch) (D : va_G) (cI cC cJ cB : ClassId) (a_h a_h_firsts a_h_seconds : Nat) (n_h : Nat) (v_size : Int32) (v_firsts_A : Nat → Int32) (v_seconds_A : Nat → Int32) (N : Nat) (p0 : Int32) (p1 : Int32) (sz : Nat) (u : Int32 × (Nat → Int32) × (Nat → Int32)) (hu : f_X2_append n_h v_size v_firsts_A v_seconds_A p0 p1 = some u) :
    Met l yX2_append wsX2_append ({ frames := 0, cells := 0, slots := 0, locals := 0 } : Room) (va_Pc [.ref a_h, .int p0, .int p1] (PreW D (ty4 cI cC cJ cB) sz [(a_h, .inr (2, [.ref a_h_firsts, .ref a_h_seconds, .int v_size])), (a_h_firsts, .inl (cI, n_h, .inl v_firsts_A)), (a_h_seconds, .inl (cI, n_h, .inl v_seconds_A))]))
      (QV D (ty4 cI cC cJ cB) (va_A [(a_h, .inr (2, [.ref a_h_firsts, .ref a_h_seconds, .int v_size])), (a_h_firsts, .inl (cI, n_h, .inl v_firsts_A)), (a_h_seconds, .inl (cI, n_h, .inl v_seconds_A))] sz) [(a_h, .inr (2, [.ref a_h_firsts, .ref a_h_seconds, .int u.1])), (a_h_firsts, .inl (cI, n_h, .inl u.2.1)), (a_h_seconds, .inl (cI, n_h, .inl u.2.2))]) 0 0 (va_A [(a_h, .inr (2, [.ref a_h_firsts, .ref a_h_seconds, .int v_size])), (a_h_firsts, .inl (cI, n_h, .inl v_firsts_A)), (a_h_seconds, .inl (cI, n_h, .inl v_seconds_A))] sz) := by
  refine met_go (y := yX2_append) (wsy := wsX2_append) (cc := cX2_append) (maxL := 3) (ret := none) (av := [.ref a_h, .int p0, .int p1]) (Qc := fun A => QV D (ty4 cI cC cJ cB) A [(a_h, .inr (2, [.ref a_h_firsts, .ref a_h_seconds, .int u.1])), (a_h_firsts, .inl (cI, n_h, .inl u.2.1)), (a_h_seconds, .inl (cI, n_h, .inl u.2.2))]) (by decide) rfl (Nat.le_of_ble_eq_true rfl) ?_
  intro p e s m below meth c A ls hx hb hr hml hown hts hlocks hnm hN hK hP hD hS hA hl
  have h := hu
  clear hu
  unfold f_X2_append at h
  have hl : lv_has ls 3 [(0, .ref a_h), (1, .int p0), (2, .int p1)] := hl
  refine lv_aload_n hx hb dX2_append_0 rfl (lv_at hl 0 rfl) ?_
  refine va_get (D := D) (ci := 2) (v := .int v_size) (C := RX2) (T := TX2) (N := 3) hx hb hts in_X2_append_X2 hown hK hP 0 rfl rfl 2 (by decide) (hts _ q_X2_append_1) (fun _ h9 => h9) rfl dX2_append_1 ?_
  refine lv_aload_n hx hb dX2_append_4 rfl (lv_at hl 0 rfl) ?_
  refine va_get (D := D) (ci := 2) (v := .ref a_h_firsts) (C := RX2) (T := TX2) (N := 3) hx hb hts in_X2_append_X2 hown hK hP 0 rfl rfl 0 (by decide) (hts _ q_X2_append_2) (fun _ h9 => h9) rfl dX2_append_5 ?_
  refine va_alen (ty := .int) (v := (Int32.ofNat n_h)) hx hb hK hP 1 0 rfl rfl rfl dX2_append_8 ?_
  refine lv_icmp_ge (tgt := 42) hx hb dX2_append_9 (by decide) (fun hc1 => ?_) (fun hc1 => ?_)
  · replace h := it_e hc1 h
    obtain rfl := sm_e h
    exact rx_v hx hb hr  hP hK hD hS dX2_append_42 hlocks
  · replace h := if_e hc1 h
    refine lv_aload_n hx hb dX2_append_12 rfl (lv_at hl 0 rfl) ?_
    refine va_get (D := D) (ci := 2) (v := .ref a_h_firsts) (C := RX2) (T := TX2) (N := 3) hx hb hts in_X2_append_X2 hown hK hP 0 rfl rfl 0 (by decide) (hts _ q_X2_append_2) (fun _ h9 => h9) rfl dX2_append_13 ?_
    refine lv_aload_n hx hb dX2_append_16 rfl (lv_at hl 0 rfl) ?_
    refine va_get (D := D) (ci := 2) (v := .int v_size) (C := RX2) (T := TX2) (N := 3) hx hb hts in_X2_append_X2 hown hK hP 0 rfl rfl 2 (by decide) (hts _ q_X2_append_1) (fun _ h9 => h9) rfl dX2_append_17 ?_
    refine lv_iload_n hx hb dX2_append_20 rfl (lv_at hl 1 rfl) ?_
    obtain ⟨hi2, h⟩ := gA_e h
    refine wx_iast hx hb hK hP hD hS 1 0 rfl rfl (Int32.toNatClampNeg v_size) rfl hi2 dX2_append_21 rfl (fun H locs hP hD hS => ?_)
    obtain ⟨g3, eg3, h⟩ := nm_x h
    have hP : va_P D vwCl [(a_h, .inr (2, [.ref a_h_firsts, .ref a_h_seconds, .int v_size])), (a_h_firsts, .inl (cI, n_h, .inl g3)), (a_h_seconds, .inl (cI, n_h, .inl v_seconds_A))] H := by rw [eg3]; exact hP
    have hD : va_D A [(a_h, .inr (2, [.ref a_h_firsts, .ref a_h_seconds, .int v_size])), (a_h_firsts, .inl (cI, n_h, .inl g3)), (a_h_seconds, .inl (cI, n_h, .inl v_seconds_A))] := by rw [eg3]; exact hD
    refine lv_aload_n hx hb dX2_append_22 rfl (lv_at hl 0 rfl) ?_
    refine va_get (D := D) (ci := 2) (v := .ref a_h_seconds) (C := RX2) (T := TX2) (N := 3) hx hb hts in_X2_append_X2 hown hK hP 0 rfl rfl 1 (by decide) (hts _ q_X2_append_3) (fun _ h9 => h9) rfl dX2_append_23 ?_
    refine lv_aload_n hx hb dX2_append_26 rfl (lv_at hl 0 rfl) ?_
    refine va_get (D := D) (ci := 2) (v := .int v_size) (C := RX2) (T := TX2) (N := 3) hx hb hts in_X2_append_X2 hown hK hP 0 rfl rfl 2 (by decide) (hts _ q_X2_append_1) (fun _ h9 => h9) rfl dX2_append_27 ?_
    refine lv_iload_n hx hb dX2_append_30 rfl (lv_at hl 2 rfl) ?_
    obtain ⟨hi4, h⟩ := gA_e h
    refine wx_iast hx hb hK hP hD hS 2 0 rfl rfl (Int32.toNatClampNeg v_size) rfl hi4 dX2_append_31 rfl (fun H locs hP hD hS => ?_)
    obtain ⟨g5, eg5, h⟩ := nm_x h
    have hP : va_P D vwCl [(a_h, .inr (2, [.ref a_h_firsts, .ref a_h_seconds, .int v_size])), (a_h_firsts, .inl (cI, n_h, .inl g3)), (a_h_seconds, .inl (cI, n_h, .inl g5))] H := by rw [eg5]; exact hP
    have hD : va_D A [(a_h, .inr (2, [.ref a_h_firsts, .ref a_h_seconds, .int v_size])), (a_h_firsts, .inl (cI, n_h, .inl g3)), (a_h_seconds, .inl (cI, n_h, .inl g5))] := by rw [eg5]; exact hD
    refine lv_aload_n hx hb dX2_append_32 rfl (lv_at hl 0 rfl) ?_
    refine lv_dup hx hb dX2_append_33 rfl ?_
    refine va_get (D := D) (ci := 2) (v := .int v_size) (C := RX2) (T := TX2) (N := 3) hx hb hts in_X2_append_X2 hown hK hP 0 rfl rfl 2 (by decide) (hts _ q_X2_append_1) (fun _ h9 => h9) rfl dX2_append_34 ?_
    refine lv_iconst (v := (1 : Int32)) hx hb dX2_append_37 (by decide) ?_
    refine lv_iadd hx hb dX2_append_38 ?_
    refine lv_topi (fun t6 et6 => ?_)
    replace h := nm_at h et6
    refine va_put (D := D) (ci := 2) (v := .int t6) (ty := .int) (C := RX2) (T := TX2) (N := 3) hx hb hts in_X2_append_X2 tyX2 tyX2_ok nmX2 hown hK hP hD hS 0 rfl rfl 2 (by decide) (hts _ q_X2_append_1) (fun _ h9 => h9) rfl (by decide +kernel) rfl rfl (Nat.le_of_ble_eq_true rfl) dX2_append_39 (fun H locs hP hD hS => ?_)
    have hP : va_P D vwCl [(a_h, .inr (2, [.ref a_h_firsts, .ref a_h_seconds, .int t6])), (a_h_firsts, .inl (cI, n_h, .inl g3)), (a_h_seconds, .inl (cI, n_h, .inl g5))] H := hP
    have hD : va_D A [(a_h, .inr (2, [.ref a_h_firsts, .ref a_h_seconds, .int t6])), (a_h_firsts, .inl (cI, n_h, .inl g3)), (a_h_seconds, .inl (cI, n_h, .inl g5))] := hD
    obtain rfl := sm_e h
    exact rx_v hx hb hr  hP hK hD hS dX2_append_42 hlocks
-- X2_shrinkTo
def f_X2_shrinkTo (v_size : Int32) (p0 : Int32) : Option (Int32) :=
  nm (if (0 : Int32) < (if p0 < v_size then p0 else v_size) then (if p0 < v_size then p0 else v_size) else (0 : Int32)) (fun t1 => some t1)
theorem q_X2_shrinkTo_1 : (.fieldLink RX2 24 "SpringBalance$Pairs" "size" "I" : Cond) ∈ wsX2_shrinkTo := List.mem_of_getElem? (i := 1) (by decide +kernel)
set_option maxRecDepth 20000 in
theorem in_X2_shrinkTo_X2 : ∀ w ∈ u_ws RX2 TX2 3, w ∈ wsX2_shrinkTo := by decide +kernel
theorem q_X2_shrinkTo_2 : (.methodLink RX2 28 Lib.Math.min.name : Cond) ∈ wsX2_shrinkTo := List.mem_of_getElem? (i := 2) (by decide +kernel)
theorem q_X2_shrinkTo_3 : (.static Lib.Math.min.name : Cond) ∈ wsX2_shrinkTo := List.mem_of_getElem? (i := 3) (by decide +kernel)
theorem q_X2_shrinkTo_4 : (.initialized "java/lang/Math" : Cond) ∈ wsX2_shrinkTo := List.mem_of_getElem? (i := 4) (by decide +kernel)
theorem q_X2_shrinkTo_5 : (.code Lib.Math.min.name Lib.Math.min.code 2 (some .int) : Cond) ∈ wsX2_shrinkTo := List.mem_of_getElem? (i := 5) (by decide +kernel)
theorem q_X2_shrinkTo_6 : (.methodLink RX2 9 Lib.Math.max.name : Cond) ∈ wsX2_shrinkTo := List.mem_of_getElem? (i := 6) (by decide +kernel)
theorem q_X2_shrinkTo_7 : (.static Lib.Math.max.name : Cond) ∈ wsX2_shrinkTo := List.mem_of_getElem? (i := 7) (by decide +kernel)
theorem q_X2_shrinkTo_8 : (.code Lib.Math.max.name Lib.Math.max.code 2 (some .int) : Cond) ∈ wsX2_shrinkTo := List.mem_of_getElem? (i := 8) (by decide +kernel)
set_option maxHeartbeats 8000000 in
set_option maxRecDepth 100000 in
theorem k_X2_shrinkTo (l : Launch) (D : va_G) (cI cC cJ cB : ClassId) (a_h a_h_firsts a_h_seconds : Nat) (v_size : Int32) (N : Nat) (p0 : Int32) (sz : Nat) (u : Int32) (hu : f_X2_shrinkTo v_size p0 = some u) :
    Met l yX2_shrinkTo wsX2_shrinkTo ({ frames := 1, cells := 0, slots := 0, locals := 21 } : Room) (va_Pc [.ref a_h, .int p0] (PreW D (ty4 cI cC cJ cB) sz [(a_h, .inr (2, [.ref a_h_firsts, .ref a_h_seconds, .int v_size]))]))
      (QV D (ty4 cI cC cJ cB) (va_A [(a_h, .inr (2, [.ref a_h_firsts, .ref a_h_seconds, .int v_size]))] sz) [(a_h, .inr (2, [.ref a_h_firsts, .ref a_h_seconds, .int u]))]) 0 0 (va_A [(a_h, .inr (2, [.ref a_h_firsts, .ref a_h_seconds, .int v_size]))] sz) := by
  refine met_go (y := yX2_shrinkTo) (wsy := wsX2_shrinkTo) (cc := cX2_shrinkTo) (maxL := 2) (ret := none) (av := [.ref a_h, .int p0]) (Qc := fun A => QV D (ty4 cI cC cJ cB) A [(a_h, .inr (2, [.ref a_h_firsts, .ref a_h_seconds, .int u]))]) (by decide) rfl (Nat.le_of_ble_eq_true rfl) ?_
  intro p e s m below meth c A ls hx hb hr hml hown hts hlocks hnm hN hK hP hD hS hA hl
  have h := hu
  clear hu
  unfold f_X2_shrinkTo at h
  have hl : lv_has ls 2 [(0, .ref a_h), (1, .int p0)] := hl
  refine lv_aload_n hx hb dX2_shrinkTo_0 rfl (lv_at hl 0 rfl) ?_
  refine lv_iconst (v := (0 : Int32)) hx hb dX2_shrinkTo_1 (by decide) ?_
  refine lv_aload_n hx hb dX2_shrinkTo_2 rfl (lv_at hl 0 rfl) ?_
  refine va_get (D := D) (ci := 2) (v := .int v_size) (C := RX2) (T := TX2) (N := 3) hx hb hts in_X2_shrinkTo_X2 hown hK hP 0 rfl rfl 2 (by decide) (hts _ q_X2_shrinkTo_1) (fun _ h9 => h9) rfl dX2_shrinkTo_3 ?_
  refine lv_iload_n hx hb dX2_shrinkTo_6 rfl (lv_at hl 1 rfl) ?_
  refine va_mmin hx hb (hml.trans hl.1.symm) hown (hts _ q_X2_shrinkTo_2) (hts _ q_X2_shrinkTo_3) (hts _ q_X2_shrinkTo_4) (hts _ q_X2_shrinkTo_5) (by decide) (Nat.le_of_ble_eq_true rfl) (Nat.zero_le _) (Nat.zero_le _) dX2_shrinkTo_7 ?_
  refine va_mmax hx hb (hml.trans hl.1.symm) hown (hts _ q_X2_shrinkTo_6) (hts _ q_X2_shrinkTo_7) (hts _ q_X2_shrinkTo_4) (hts _ q_X2_shrinkTo_8) (by decide) (Nat.le_of_ble_eq_true rfl) (Nat.zero_le _) (Nat.zero_le _) dX2_shrinkTo_10 ?_
  refine lv_topi (fun t1 et1 => ?_)
  replace h := nm_at h et1
  refine va_put (D := D) (ci := 2) (v := .int t1) (ty := .int) (C := RX2) (T := TX2) (N := 3) hx hb hts in_X2_shrinkTo_X2 tyX2 tyX2_ok nmX2 hown hK hP hD hS 0 rfl rfl 2 (by decide) (hts _ q_X2_shrinkTo_1) (fun _ h9 => h9) rfl (by decide +kernel) rfl rfl (Nat.le_of_ble_eq_true rfl) dX2_shrinkTo_13 (fun H locs hP hD hS => ?_)
  have hP : va_P D vwCl [(a_h, .inr (2, [.ref a_h_firsts, .ref a_h_seconds, .int t1]))] H := hP
  have hD : va_D A [(a_h, .inr (2, [.ref a_h_firsts, .ref a_h_seconds, .int t1]))] := hD
  obtain rfl := sm_e h
  exact rx_v hx hb hr  hP hK hD hS dX2_shrinkTo_16 hlocks
-- X2_slotOf
def f_X2_slotOf_b2 (n_h : Nat) (v_size : Int32) (v_firsts_A : Nat → Int32) (p0 : Int32) : Nat → Int32 → Option (Int32)
  | 0, _ => none
  | k + 1, x2 =>
    (if v_size ≤ x2 then some v_size
    else gA x2 n_h ((if (v_firsts_A (Int32.toNatClampNeg x2)) < p0 then nm (x2 + (1 : Int32)) (fun t4 => (f_X2_slotOf_b2 n_h v_size v_firsts_A p0 k t4))
    else some x2)))
def f_X2_slotOf (N : Nat) (n_h : Nat) (v_size : Int32) (v_firsts_A : Nat → Int32) (p0 : Int32) : Option (Int32) :=
  (f_X2_slotOf_b2 n_h v_size v_firsts_A p0 N (0 : Int32))
theorem q_X2_slotOf_1 : (.fieldLink RX2 24 "SpringBalance$Pairs" "size" "I" : Cond) ∈ wsX2_slotOf := List.mem_of_getElem? (i := 1) (by decide +kernel)
set_option maxRecDepth 20000 in
theorem in_X2_slotOf_X2 : ∀ w ∈ u_ws RX2 TX2 3, w ∈ wsX2_slotOf := by decide +kernel
theorem q_X2_slotOf_2 : (.fieldLink RX2 15 "SpringBalance$Pairs" "firsts" "[I" : Cond) ∈ wsX2_slotOf := List.mem_of_getElem? (i := 2) (by decide +kernel)
set_option maxHeartbeats 8000000 in
set_option maxRecDepth 100000 in
theorem k_X2_slotOf (l : Launch) (D : va_G) (cI cC cJ cB : ClassId) (a_h a_h_firsts a_h_seconds : Nat) (n_h : Nat) (v_size : Int32) (v_firsts_A : Nat → Int32) (N : Nat) (p0 : Int32) (sz : Nat) (u : Int32) (hu : f_X2_slotOf N n_h v_size v_firsts_A p0 = some u) :
    Met l yX2_slotOf wsX2_slotOf ({ frames := 0, cells := 0, slots := 0, locals := 0 } : Room) (va_Pc [.ref a_h, .int p0] (PreW D (ty4 cI cC cJ cB) sz [(a_h, .inr (2, [.ref a_h_firsts, .ref a_h_seconds, .int v_size])), (a_h_firsts, .inl (cI, n_h, .inl v_firsts_A))]))
      (QI D (ty4 cI cC cJ cB) (va_A [(a_h, .inr (2, [.ref a_h_firsts, .ref a_h_seconds, .int v_size])), (a_h_firsts, .inl (cI, n_h, .inl v_firsts_A))] sz) [(a_h, .inr (2, [.ref a_h_firsts, .ref a_h_seconds, .int v_size])), (a_h_firsts, .inl (cI, n_h, .inl v_firsts_A))] u) 0 0 (va_A [(a_h, .inr (2, [.ref a_h_firsts, .ref a_h_seconds, .int v_size])), (a_h_firsts, .inl (cI, n_h, .inl v_firsts_A))] sz) := by
  refine met_go (y := yX2_slotOf) (wsy := wsX2_slotOf) (cc := cX2_slotOf) (maxL := 3) (ret := (some .int)) (av := [.ref a_h, .int p0]) (Qc := fun A => QI D (ty4 cI cC cJ cB) A [(a_h, .inr (2, [.ref a_h_firsts, .ref a_h_seconds, .int v_size])), (a_h_firsts, .inl (cI, n_h, .inl v_firsts_A))] u) (by decide) rfl (Nat.le_of_ble_eq_true rfl) ?_
  intro p e s m below meth c A ls hx hb hr hml hown hts hlocks hnm hN hK hP hD hS hA hl
  have h := hu
  clear hu
  unfold f_X2_slotOf at h
  have hl : lv_has ls 3 [(0, .ref a_h), (1, .int p0)] := hl
  have B2 : ∀ (k : Nat) (x2 : Int32) (H : Heap) (locs : List Loc) (ls : Array Slot), f_X2_slotOf_b2 n_h v_size v_firsts_A p0 k x2 = some u → va_P D vwCl [(a_h, .inr (2, [.ref a_h_firsts, .ref a_h_seconds, .int v_size])), (a_h_firsts, .inl (cI, n_h, .inl v_firsts_A))] H → va_D A [(a_h, .inr (2, [.ref a_h_firsts, .ref a_h_seconds, .int v_size])), (a_h_firsts, .inl (cI, n_h, .inl v_firsts_A))] → va_S A s.heap H locs → lv_has ls 3 [(0, .ref a_h), (1, .int p0), (2, .int x2)] → W p l e ({ frames := 0, cells := 0, slots := 0, locals := 0 } : Room) s m ([.ref a_h, .int p0] : List Value).toArray below meth c H locs 0 0 (MQ below (QI D (ty4 cI cC cJ cB) A [(a_h, .inr (2, [.ref a_h_firsts, .ref a_h_seconds, .int v_size])), (a_h_firsts, .inl (cI, n_h, .inl v_firsts_A))] u) ([.ref a_h, .int p0] : List Value).toArray s 0 0 A) (F0 m 2 ls []) := by
    intro k
    induction k with
    | zero =>
      intro x2 H locs ls h
      exact nomatch (show (none : Option (Int32)) = some u from h)
    | succ k ih =>
      intro x2 H locs ls h hP hD hS hl
      rw [f_X2_slotOf_b2.eq_2] at h
      refine lv_iload_n hx hb dX2_slotOf_2 rfl (lv_at hl 2 rfl) ?_
      refine lv_aload_n hx hb dX2_slotOf_3 rfl (lv_at hl 0 rfl) ?_
      refine va_get (D := D) (ci := 2) (v := .int v_size) (C := RX2) (T := TX2) (N := 3) hx hb hts in_X2_slotOf_X2 hown hK hP 0 rfl rfl 2 (by decide) (hts _ q_X2_slotOf_1) (fun _ h9 => h9) rfl dX2_slotOf_4 ?_
      refine lv_icmp_ge (tgt := 28) hx hb dX2_slotOf_7 (by decide) (fun hc1 => ?_) (fun hc1 => ?_)
      · replace h := it_e hc1 h
        refine lv_aload_n hx hb dX2_slotOf_28 rfl (lv_at hl 0 rfl) ?_
        refine va_get (D := D) (ci := 2) (v := .int v_size) (C := RX2) (T := TX2) (N := 3) hx hb hts in_X2_slotOf_X2 hown hK hP 0 rfl rfl 2 (by decide) (hts _ q_X2_slotOf_1) (fun _ h9 => h9) rfl dX2_slotOf_29 ?_
        obtain rfl := sm_e h
        exact rx_i hx hb hr  hP hK hD hS dX2_slotOf_32 hlocks
      · replace h := if_e hc1 h
        refine lv_aload_n hx hb dX2_slotOf_10 rfl (lv_at hl 0 rfl) ?_
        refine va_get (D := D) (ci := 2) (v := .ref a_h_firsts) (C := RX2) (T := TX2) (N := 3) hx hb hts in_X2_slotOf_X2 hown hK hP 0 rfl rfl 0 (by decide) (hts _ q_X2_slotOf_2) (fun _ h9 => h9) rfl dX2_slotOf_11 ?_
        refine lv_iload_n hx hb dX2_slotOf_14 rfl (lv_at hl 2 rfl) ?_
        obtain ⟨hi2, h⟩ := gA_e h
        refine wx_iald hx hb hK hP 1 0 rfl rfl (Int32.toNatClampNeg x2) rfl hi2 dX2_slotOf_15 ?_
        refine lv_iload_n hx hb dX2_slotOf_16 rfl (lv_at hl 1 rfl) ?_
        refine lv_icmp_lt (tgt := 22) hx hb dX2_slotOf_17 (by decide) (fun hc3 => ?_) (fun hc3 => ?_)
        · replace h := it_e hc3 h
          obtain ⟨t4, et4, h⟩ := nm_x h
          refine lv_iinc (v := t4) (lv' := [(2, .int t4), (0, .ref a_h), (1, .int p0)]) hx hb dX2_slotOf_22 hl (k := 2) rfl (by rw [et4]; rfl) (by decide) rfl (fun ls hl => ?_)
          refine lv_goto (tgt := 2) hx hb dX2_slotOf_25 (by decide) ?_
          exact ih t4 _ _ _ h hP hD hS (lv_sub hl [1, 2, 0] rfl)
        · replace h := if_e hc3 h
          refine lv_iload_n hx hb dX2_slotOf_20 rfl (lv_at hl 2 rfl) ?_
          obtain rfl := sm_e h
          exact rx_i hx hb hr  hP hK hD hS dX2_slotOf_21 hlocks
  refine lv_iconst (v := (0 : Int32)) hx hb dX2_slotOf_0 (by decide) ?_
  refine lv_istore_n (lv' := [(2, .int (0 : Int32)), (0, .ref a_h), (1, .int p0)]) hx hb dX2_slotOf_1 rfl hl (by decide) rfl (fun ls hl => ?_)
  exact B2 N (0 : Int32) _ _ _ h hP hD hS (lv_sub hl [1, 2, 0] rfl)
-- X2_holds
def f_X2_holds (N : Nat) (n_h : Nat) (v_size : Int32) (v_firsts_A : Nat → Int32) (p0 : Int32) : Option (Int32) :=
  Option.bind (f_X2_slotOf N n_h v_size v_firsts_A p0) (fun u1 => Option.bind (f_X2_has v_size u1) (fun u2 => (if u2 = 0 then some (0 : Int32)
    else gA u1 n_h ((if ¬ (v_firsts_A (Int32.toNatClampNeg u1)) = p0 then some (0 : Int32)
    else some (1 : Int32))))))
theorem q_X2_holds_1 : (.fieldLink RX2 15 "SpringBalance$Pairs" "firsts" "[I" : Cond) ∈ wsX2_holds := List.mem_of_getElem? (i := 1) (by decide +kernel)
set_option maxRecDepth 20000 in
theorem in_X2_holds_X2 : ∀ w ∈ u_ws RX2 TX2 3, w ∈ wsX2_holds := by decide +kernel
set_option maxHeartbeats 8000000 in
set_option maxRecDepth 100000 in
theorem k_X2_holds (l : Launch) (D : va_G) (cI cC cJ cB : ClassId) (a_h a_h_firsts a_h_seconds : Nat) (n_h : Nat) (v_size : Int32) (v_firsts_A : Nat → Int32) (N : Nat) (p0 : Int32) (sz : Nat) (u : Int32) (hu : f_X2_holds N n_h v_size v_firsts_A p0 = some u) :
    Met l yX2_holds wsX2_holds ({ frames := 1, cells := 0, slots := 0, locals := 22 } : Room) (va_Pc [.ref a_h, .int p0] (PreW D (ty4 cI cC cJ cB) sz [(a_h, .inr (2, [.ref a_h_firsts, .ref a_h_seconds, .int v_size])), (a_h_firsts, .inl (cI, n_h, .inl v_firsts_A))]))
      (QI D (ty4 cI cC cJ cB) (va_A [(a_h, .inr (2, [.ref a_h_firsts, .ref a_h_seconds, .int v_size])), (a_h_firsts, .inl (cI, n_h, .inl v_firsts_A))] sz) [(a_h, .inr (2, [.ref a_h_firsts, .ref a_h_seconds, .int v_size])), (a_h_firsts, .inl (cI, n_h, .inl v_firsts_A))] u) 0 0 (va_A [(a_h, .inr (2, [.ref a_h_firsts, .ref a_h_seconds, .int v_size])), (a_h_firsts, .inl (cI, n_h, .inl v_firsts_A))] sz) := by
  refine met_go (y := yX2_holds) (wsy := wsX2_holds) (cc := cX2_holds) (maxL := 3) (ret := (some .boolean)) (av := [.ref a_h, .int p0]) (Qc := fun A => QI D (ty4 cI cC cJ cB) A [(a_h, .inr (2, [.ref a_h_firsts, .ref a_h_seconds, .int v_size])), (a_h_firsts, .inl (cI, n_h, .inl v_firsts_A))] u) (by decide) rfl (Nat.le_of_ble_eq_true rfl) ?_
  intro p e s m below meth c A ls hx hb hr hml hown hts hlocks hnm hN hK hP hD hS hA hl
  have h := hu
  clear hu
  unfold f_X2_holds at h
  have hl : lv_has ls 3 [(0, .ref a_h), (1, .int p0)] := hl
  refine lv_aload_n hx hb dX2_holds_0 rfl (lv_at hl 0 rfl) ?_
  refine lv_iload_n hx hb dX2_holds_1 rfl (lv_at hl 1 rfl) ?_
  obtain ⟨u1, hu1, h⟩ := bd_e h
  refine kx_i (mc := 0) (ms := 0) (wr := []) (ws2 := [(a_h, .inr (2, [.ref a_h_firsts, .ref a_h_seconds, .int v_size])), (a_h_firsts, .inl (cI, n_h, .inl v_firsts_A))]) (va_runV (As := [.int p0]) (rest := []) ⟨hx, hb, hml, hown, hts⟩ (k_X2_slotOf l D cI cC cJ cB a_h a_h_firsts a_h_seconds n_h v_size v_firsts_A N p0 s.heap.size _ hu1) (cwV 1 hts gX2_holds_X2_slotOf rfl rfl rfl (by decide +kernel) ⟨Nat.le_of_ble_eq_true rfl, Nat.le_of_ble_eq_true rfl⟩) (pv_V hP hD hK hN [0, 1] rfl rfl (ci := 2) rfl 0 rfl) rfl rfl hl.1 rfl (lv_room (Nat.le_of_ble_eq_true rfl)) dX2_holds_2 ⟨Nat.zero_le _, Nat.zero_le _⟩) hP hD hS hA [0, 1] [] [0, 1] rfl rfl rfl rfl rfl rfl (fun H locs hP hD hS => ?_)
  refine lv_istore_n (lv' := [(2, .int u1), (0, .ref a_h), (1, .int p0)]) hx hb dX2_holds_5 rfl hl (by decide) rfl (fun ls hl => ?_)
  refine lv_aload_n hx hb dX2_holds_6 rfl (lv_at hl 1 rfl) ?_
  refine lv_iload_n hx hb dX2_holds_7 rfl (lv_at hl 0 rfl) ?_
  obtain ⟨u2, hu2, h⟩ := bd_e h
  refine kx_i (mc := 0) (ms := 0) (wr := [(a_h_firsts, .inl (cI, n_h, .inl v_firsts_A))]) (ws2 := [(a_h, .inr (2, [.ref a_h_firsts, .ref a_h_seconds, .int v_size])), (a_h_firsts, .inl (cI, n_h, .inl v_firsts_A))]) (va_runV (As := [.int u1]) (rest := []) ⟨hx, hb, hml, hown, hts⟩ (k_X2_has l D cI cC cJ cB a_h a_h_firsts a_h_seconds v_size N u1 H.size _ hu2) (cwV 1 hts gX2_holds_X2_has rfl rfl rfl (by decide +kernel) ⟨Nat.le_of_ble_eq_true rfl, Nat.le_of_ble_eq_true rfl⟩) (pv_V hP hD hK hN [0] rfl rfl (ci := 2) rfl 0 rfl) rfl rfl hl.1 rfl (lv_room (Nat.le_of_ble_eq_true rfl)) dX2_holds_8 ⟨Nat.zero_le _, Nat.zero_le _⟩) hP hD hS hA [0] [1] [1, 0] rfl rfl rfl rfl rfl rfl (fun H locs hP hD hS => ?_)
  refine lv_if_eq (tgt := 28) hx hb dX2_holds_11 (by decide) (fun hc3 => ?_) (fun hc3 => ?_)
  · replace h := it_e hc3 h
    refine lv_iconst (v := (0 : Int32)) hx hb dX2_holds_28 (by decide) ?_
    obtain rfl := sm_e h
    exact rx_z hx hb hr rfl hP hK hD hS dX2_holds_29 hlocks
  · replace h := if_e hc3 h
    refine lv_aload_n hx hb dX2_holds_14 rfl (lv_at hl 1 rfl) ?_
    refine va_get (D := D) (ci := 2) (v := .ref a_h_firsts) (C := RX2) (T := TX2) (N := 3) hx hb hts in_X2_holds_X2 hown hK hP 0 rfl rfl 0 (by decide) (hts _ q_X2_holds_1) (fun _ h9 => h9) rfl dX2_holds_15 ?_
    refine lv_iload_n hx hb dX2_holds_18 rfl (lv_at hl 0 rfl) ?_
    obtain ⟨hi4, h⟩ := gA_e h
    refine wx_iald hx hb hK hP 1 0 rfl rfl (Int32.toNatClampNeg u1) rfl hi4 dX2_holds_19 ?_
    refine lv_iload_n hx hb dX2_holds_20 rfl (lv_at hl 2 rfl) ?_
    refine lv_icmp_ne (tgt := 28) hx hb dX2_holds_21 (by decide) (fun hc5 => ?_) (fun hc5 => ?_)
    · replace h := it_e hc5 h
      refine lv_iconst (v := (0 : Int32)) hx hb dX2_holds_28 (by decide) ?_
      obtain rfl := sm_e h
      exact rx_z hx hb hr rfl hP hK hD hS dX2_holds_29 hlocks
    · replace h := in_e hc5 h
      refine lv_iconst (v := (1 : Int32)) hx hb dX2_holds_24 (by decide) ?_
      refine lv_goto (tgt := 29) hx hb dX2_holds_25 (by decide) ?_
      obtain rfl := sm_e h
      exact rx_z hx hb hr rfl hP hK hD hS dX2_holds_29 hlocks
-- X2_hasRoomFor
def f_X2_hasRoomFor (N : Nat) (n_h : Nat) (v_size : Int32) (v_firsts_A : Nat → Int32) (p0 : Int32) : Option (Int32) :=
  (if v_size < (Int32.ofNat n_h) then some (1 : Int32)
    else Option.bind (f_X2_holds N n_h v_size v_firsts_A p0) (fun u2 => (if u2 = 0 then some (0 : Int32)
    else some (1 : Int32))))
theorem q_X2_hasRoomFor_1 : (.fieldLink RX2 24 "SpringBalance$Pairs" "size" "I" : Cond) ∈ wsX2_hasRoomFor := List.mem_of_getElem? (i := 1) (by decide +kernel)
set_option maxRecDepth 20000 in
theorem in_X2_hasRoomFor_X2 : ∀ w ∈ u_ws RX2 TX2 3, w ∈ wsX2_hasRoomFor := by decide +kernel
theorem q_X2_hasRoomFor_2 : (.fieldLink RX2 15 "SpringBalance$Pairs" "firsts" "[I" : Cond) ∈ wsX2_hasRoomFor := List.mem_of_getElem? (i := 2) (by decide +kernel)
set_option maxHeartbeats 8000000 in
set_option maxRecDepth 100000 in
theorem k_X2_hasRoomFor (l : Launch) (D : va_G) (cI cC cJ cB : ClassId) (a_h a_h_firsts a_h_seconds : Nat) (n_h : Nat) (v_size : Int32) (v_firsts_A : Nat → Int32) (N : Nat) (p0 : Int32) (sz : Nat) (u : Int32) (hu : f_X2_hasRoomFor N n_h v_size v_firsts_A p0 = some u) :
    Met l yX2_hasRoomFor wsX2_hasRoomFor ({ frames := 2, cells := 0, slots := 0, locals := 44 } : Room) (va_Pc [.ref a_h, .int p0] (PreW D (ty4 cI cC cJ cB) sz [(a_h, .inr (2, [.ref a_h_firsts, .ref a_h_seconds, .int v_size])), (a_h_firsts, .inl (cI, n_h, .inl v_firsts_A))]))
      (QI D (ty4 cI cC cJ cB) (va_A [(a_h, .inr (2, [.ref a_h_firsts, .ref a_h_seconds, .int v_size])), (a_h_firsts, .inl (cI, n_h, .inl v_firsts_A))] sz) [(a_h, .inr (2, [.ref a_h_firsts, .ref a_h_seconds, .int v_size])), (a_h_firsts, .inl (cI, n_h, .inl v_firsts_A))] u) 0 0 (va_A [(a_h, .inr (2, [.ref a_h_firsts, .ref a_h_seconds, .int v_size])), (a_h_firsts, .inl (cI, n_h, .inl v_firsts_A))] sz) := by
  refine met_go (y := yX2_hasRoomFor) (wsy := wsX2_hasRoomFor) (cc := cX2_hasRoomFor) (maxL := 2) (ret := (some .boolean)) (av := [.ref a_h, .int p0]) (Qc := fun A => QI D (ty4 cI cC cJ cB) A [(a_h, .inr (2, [.ref a_h_firsts, .ref a_h_seconds, .int v_size])), (a_h_firsts, .inl (cI, n_h, .inl v_firsts_A))] u) (by decide) rfl (Nat.le_of_ble_eq_true rfl) ?_
  intro p e s m below meth c A ls hx hb hr hml hown hts hlocks hnm hN hK hP hD hS hA hl
  have h := hu
  clear hu
  unfold f_X2_hasRoomFor at h
  have hl : lv_has ls 2 [(0, .ref a_h), (1, .int p0)] := hl
  refine lv_aload_n hx hb dX2_hasRoomFor_0 rfl (lv_at hl 0 rfl) ?_
  refine va_get (D := D) (ci := 2) (v := .int v_size) (C := RX2) (T := TX2) (N := 3) hx hb hts in_X2_hasRoomFor_X2 hown hK hP 0 rfl rfl 2 (by decide) (hts _ q_X2_hasRoomFor_1) (fun _ h9 => h9) rfl dX2_hasRoomFor_1 ?_
  refine lv_aload_n hx hb dX2_hasRoomFor_4 rfl (lv_at hl 0 rfl) ?_
  refine va_get (D := D) (ci := 2) (v := .ref a_h_firsts) (C := RX2) (T := TX2) (N := 3) hx hb hts in_X2_hasRoomFor_X2 hown hK hP 0 rfl rfl 0 (by decide) (hts _ q_X2_hasRoomFor_2) (fun _ h9 => h9) rfl dX2_hasRoomFor_5 ?_
  refine va_alen (ty := .int) (v := (Int32.ofNat n_h)) hx hb hK hP 1 0 rfl rfl rfl dX2_hasRoomFor_8 ?_
  refine lv_icmp_lt (tgt := 20) hx hb dX2_hasRoomFor_9 (by decide) (fun hc1 => ?_) (fun hc1 => ?_)
  · replace h := it_e hc1 h
    refine lv_iconst (v := (1 : Int32)) hx hb dX2_hasRoomFor_20 (by decide) ?_
    refine lv_goto (tgt := 25) hx hb dX2_hasRoomFor_21 (by decide) ?_
    obtain rfl := sm_e h
    exact rx_z hx hb hr rfl hP hK hD hS dX2_hasRoomFor_25 hlocks
  · replace h := if_e hc1 h
    refine lv_aload_n hx hb dX2_hasRoomFor_12 rfl (lv_at hl 0 rfl) ?_
    refine lv_iload_n hx hb dX2_hasRoomFor_13 rfl (lv_at hl 1 rfl) ?_
    obtain ⟨u2, hu2, h⟩ := bd_e h
    refine kx_i (mc := 0) (ms := 0) (wr := []) (ws2 := [(a_h, .inr (2, [.ref a_h_firsts, .ref a_h_seconds, .int v_size])), (a_h_firsts, .inl (cI, n_h, .inl v_firsts_A))]) (va_runV (As := [.int p0]) (rest := []) ⟨hx, hb, hml, hown, hts⟩ (k_X2_holds l D cI cC cJ cB a_h a_h_firsts a_h_seconds n_h v_size v_firsts_A N p0 s.heap.size _ hu2) (cwV 1 hts gX2_hasRoomFor_X2_holds rfl rfl rfl (by decide +kernel) ⟨Nat.le_of_ble_eq_true rfl, Nat.le_of_ble_eq_true rfl⟩) (pv_V hP hD hK hN [0, 1] rfl rfl (ci := 2) rfl 0 rfl) rfl rfl hl.1 rfl (lv_room (Nat.le_of_ble_eq_true rfl)) dX2_hasRoomFor_14 ⟨Nat.zero_le _, Nat.zero_le _⟩) hP hD hS hA [0, 1] [] [0, 1] rfl rfl rfl rfl rfl rfl (fun H locs hP hD hS => ?_)
    refine lv_if_eq (tgt := 24) hx hb dX2_hasRoomFor_17 (by decide) (fun hc3 => ?_) (fun hc3 => ?_)
    · replace h := it_e hc3 h
      refine lv_iconst (v := (0 : Int32)) hx hb dX2_hasRoomFor_24 (by decide) ?_
      obtain rfl := sm_e h
      exact rx_z hx hb hr rfl hP hK hD hS dX2_hasRoomFor_25 hlocks
    · replace h := if_e hc3 h
      refine lv_iconst (v := (1 : Int32)) hx hb dX2_hasRoomFor_20 (by decide) ?_
      refine lv_goto (tgt := 25) hx hb dX2_hasRoomFor_21 (by decide) ?_
      obtain rfl := sm_e h
      exact rx_z hx hb hr rfl hP hK hD hS dX2_hasRoomFor_25 hlocks
-- X2_staysRising
def f_X2_staysRising_b21 (n_h : Nat) (v_size : Int32) (v_seconds_A : Nat → Int32) (p1 : Int32) (x3 : Int32) (s0 : Int32) : Option (Int32) :=
  Option.bind (f_X2_has v_size (x3 - (1 : Int32))) (fun u4 => (if u4 = 0 then Option.bind (f_X2_has v_size s0) (fun u6 => (if u6 = 0 then some (1 : Int32)
    else Option.bind (f_X2_second n_h v_size v_seconds_A s0) (fun u8 => (if u8 ≤ p1 then some (0 : Int32)
    else some (1 : Int32)))))
    else Option.bind (f_X2_second n_h v_size v_seconds_A (x3 - (1 : Int32))) (fun u10 => (if p1 ≤ u10 then some (0 : Int32)
    else Option.bind (f_X2_has v_size s0) (fun u12 => (if u12 = 0 then some (1 : Int32)
    else Option.bind (f_X2_second n_h v_size v_seconds_A s0) (fun u14 => (if u14 ≤ p1 then some (0 : Int32)
    else some (1 : Int32)))))))))
def f_X2_staysRising (N : Nat) (n_h : Nat) (v_size : Int32) (v_firsts_A : Nat → Int32) (v_seconds_A : Nat → Int32) (p0 : Int32) (p1 : Int32) : Option (Int32) :=
  Option.bind (f_X2_slotOf N n_h v_size v_firsts_A p0) (fun u1 => Option.bind (f_X2_holds N n_h v_size v_firsts_A p0) (fun u2 => (if u2 = 0 then (f_X2_staysRising_b21 n_h v_size v_seconds_A p1 u1 u1 )
    else (f_X2_staysRising_b21 n_h v_size v_seconds_A p1 u1 (u1 + (1 : Int32)) ))))

set_option maxHeartbeats 8000000 in
set_option maxRecDepth 100000 in
theorem k_X2_staysRising (l : Launch) (D : va_G) (cI cC cJ cB : ClassId) (a_h a_h_firsts a_h_seconds : Nat) (n_h : Nat) (v_size : Int32) (v_firsts_A : Nat → Int32) (v_seconds_A : Nat → Int32) (N : Nat) (p0 : Int32) (p1 : Int32) (sz : Nat) (u : Int32) (hu : f_X2_staysRising N n_h v_size v_firsts_A v_seconds_A p0 p1 = some u) :
    Met l yX2_staysRising wsX2_staysRising ({ frames := 2, cells := 0, slots := 0, locals := 44 } : Room) (va_Pc [.ref a_h, .int p0, .int p1] (PreW D (ty4 cI cC cJ cB) sz [(a_h, .inr (2, [.ref a_h_firsts, .ref a_h_seconds, .int v_size])), (a_h_firsts, .inl (cI, n_h, .inl v_firsts_A)), (a_h_seconds, .inl (cI, n_h, .inl v_seconds_A))]))
      (QI D (ty4 cI cC cJ cB) (va_A [(a_h, .inr (2, [.ref a_h_firsts, .ref a_h_seconds, .int v_size])), (a_h_firsts, .inl (cI, n_h, .inl v_firsts_A)), (a_h_seconds, .inl (cI, n_h, .inl v_seconds_A))] sz) [(a_h, .inr (2, [.ref a_h_firsts, .ref a_h_seconds, .int v_size])), (a_h_firsts, .inl (cI, n_h, .inl v_firsts_A)), (a_h_seconds, .inl (cI, n_h, .inl v_seconds_A))] u) 0 0 (va_A [(a_h, .inr (2, [.ref a_h_firsts, .ref a_h_seconds, .int v_size])), (a_h_firsts, .inl (cI, n_h, .inl v_firsts_A)), (a_h_seconds, .inl (cI, n_h, .inl v_seconds_A))] sz) := by
  refine met_go (y := yX2_staysRising) (wsy := wsX2_staysRising) (cc := cX2_staysRising) (maxL := 5) (ret := (some .boolean)) (av := [.ref a_h, .int p0, .int p1]) (Qc := fun A => QI D (ty4 cI cC cJ cB) A [(a_h, .inr (2, [.ref a_h_firsts, .ref a_h_seconds, .int v_size])), (a_h_firsts, .inl (cI, n_h, .inl v_firsts_A)), (a_h_seconds, .inl (cI, n_h, .inl v_seconds_A))] u) (by decide) rfl (Nat.le_of_ble_eq_true rfl) ?_
  intro p e s m below meth c A ls hx hb hr hml hown hts hlocks hnm hN hK hP hD hS hA hl
  have h := hu
  clear hu
  unfold f_X2_staysRising at h
  have hl : lv_has ls 5 [(0, .ref a_h), (1, .int p0), (2, .int p1)] := hl
  have B21 : ∀ (x3 : Int32) (s0 : Int32) (H : Heap) (locs : List Loc) (ls : Array Slot), f_X2_staysRising_b21 n_h v_size v_seconds_A p1 x3 s0  = some u → va_P D vwCl [(a_h, .inr (2, [.ref a_h_firsts, .ref a_h_seconds, .int v_size])), (a_h_firsts, .inl (cI, n_h, .inl v_firsts_A)), (a_h_seconds, .inl (cI, n_h, .inl v_seconds_A))] H → va_D A [(a_h, .inr (2, [.ref a_h_firsts, .ref a_h_seconds, .int v_size])), (a_h_firsts, .inl (cI, n_h, .inl v_firsts_A)), (a_h_seconds, .inl (cI, n_h, .inl v_seconds_A))] → va_S A s.heap H locs → lv_has ls 5 [(0, .ref a_h), (1, .int p0), (2, .int p1), (3, .int x3)] → W p l e ({ frames := 2, cells := 0, slots := 0, locals := 44 } : Room) s m ([.ref a_h, .int p0, .int p1] : List Value).toArray below meth c H locs 0 0 (MQ below (QI D (ty4 cI cC cJ cB) A [(a_h, .inr (2, [.ref a_h_firsts, .ref a_h_seconds, .int v_size])), (a_h_firsts, .inl (cI, n_h, .inl v_firsts_A)), (a_h_seconds, .inl (cI, n_h, .inl v_seconds_A))] u) ([.ref a_h, .int p0, .int p1] : List Value).toArray s 0 0 A) (F0 m 21 ls [.int s0]) := by
    intro x3 s0 H locs ls h hP hD hS hl
    unfold f_X2_staysRising_b21 at h
    refine lv_istore (lv' := [(4, .int s0), (0, .ref a_h), (1, .int p0), (2, .int p1), (3, .int x3)]) hx hb dX2_staysRising_21 hl (by decide) rfl (fun ls hl => ?_)
    refine lv_aload_n hx hb dX2_staysRising_23 rfl (lv_at hl 1 rfl) ?_
    refine lv_iload_n hx hb dX2_staysRising_24 rfl (lv_at hl 4 rfl) ?_
    refine lv_iconst (v := (1 : Int32)) hx hb dX2_staysRising_25 (by decide) ?_
    refine lv_isub hx hb dX2_staysRising_26 ?_
    obtain ⟨u4, hu4, h⟩ := bd_e h
    refine kx_i (mc := 0) (ms := 0) (wr := [(a_h_firsts, .inl (cI, n_h, .inl v_firsts_A)), (a_h_seconds, .inl (cI, n_h, .inl v_seconds_A))]) (ws2 := [(a_h, .inr (2, [.ref a_h_firsts, .ref a_h_seconds, .int v_size])), (a_h_firsts, .inl (cI, n_h, .inl v_firsts_A)), (a_h_seconds, .inl (cI, n_h, .inl v_seconds_A))]) (va_runV (As := [.int (x3 - (1 : Int32))]) (rest := []) ⟨hx, hb, hml, hown, hts⟩ (k_X2_has l D cI cC cJ cB a_h a_h_firsts a_h_seconds v_size N (x3 - (1 : Int32)) H.size _ hu4) (cwV 1 hts gX2_staysRising_X2_has rfl rfl rfl (by decide +kernel) ⟨Nat.le_of_ble_eq_true rfl, Nat.le_of_ble_eq_true rfl⟩) (pv_V hP hD hK hN [0] rfl rfl (ci := 2) rfl 0 rfl) rfl rfl hl.1 rfl (lv_room (Nat.le_of_ble_eq_true rfl)) dX2_staysRising_27 ⟨Nat.zero_le _, Nat.zero_le _⟩) hP hD hS hA [0] [1, 2] [2, 0, 1] rfl rfl rfl rfl rfl rfl (fun H locs hP hD hS => ?_)
    refine lv_if_eq (tgt := 44) hx hb dX2_staysRising_30 (by decide) (fun hc5 => ?_) (fun hc5 => ?_)
    · replace h := it_e hc5 h
      refine lv_aload_n hx hb dX2_staysRising_44 rfl (lv_at hl 1 rfl) ?_
      refine lv_iload hx hb dX2_staysRising_45 (lv_at hl 0 rfl) ?_
      obtain ⟨u6, hu6, h⟩ := bd_e h
      refine kx_i (mc := 0) (ms := 0) (wr := [(a_h_firsts, .inl (cI, n_h, .inl v_firsts_A)), (a_h_seconds, .inl (cI, n_h, .inl v_seconds_A))]) (ws2 := [(a_h, .inr (2, [.ref a_h_firsts, .ref a_h_seconds, .int v_size])), (a_h_firsts, .inl (cI, n_h, .inl v_firsts_A)), (a_h_seconds, .inl (cI, n_h, .inl v_seconds_A))]) (va_runV (As := [.int s0]) (rest := []) ⟨hx, hb, hml, hown, hts⟩ (k_X2_has l D cI cC cJ cB a_h a_h_firsts a_h_seconds v_size N s0 H.size _ hu6) (cwV 1 hts gX2_staysRising_X2_has rfl rfl rfl (by decide +kernel) ⟨Nat.le_of_ble_eq_true rfl, Nat.le_of_ble_eq_true rfl⟩) (pv_V hP hD hK hN [0] rfl rfl (ci := 2) rfl 0 rfl) rfl rfl hl.1 rfl (lv_room (Nat.le_of_ble_eq_true rfl)) dX2_staysRising_47 ⟨Nat.zero_le _, Nat.zero_le _⟩) hP hD hS hA [0] [1, 2] [2, 0, 1] rfl rfl rfl rfl rfl rfl (fun H locs hP hD hS => ?_)
      refine lv_if_eq (tgt := 63) hx hb dX2_staysRising_50 (by decide) (fun hc7 => ?_) (fun hc7 => ?_)
      · replace h := it_e hc7 h
        refine lv_iconst (v := (1 : Int32)) hx hb dX2_staysRising_63 (by decide) ?_
        refine lv_goto (tgt := 68) hx hb dX2_staysRising_64 (by decide) ?_
        obtain rfl := sm_e h
        exact rx_z hx hb hr rfl hP hK hD hS dX2_staysRising_68 hlocks
      · replace h := if_e hc7 h
        refine lv_iload_n hx hb dX2_staysRising_53 rfl (lv_at hl 3 rfl) ?_
        refine lv_aload_n hx hb dX2_staysRising_54 rfl (lv_at hl 1 rfl) ?_
        refine lv_iload hx hb dX2_staysRising_55 (lv_at hl 0 rfl) ?_
        obtain ⟨u8, hu8, h⟩ := bd_e h
        refine kx_i (mc := 0) (ms := 0) (wr := [(a_h_firsts, .inl (cI, n_h, .inl v_firsts_A))]) (ws2 := [(a_h, .inr (2, [.ref a_h_firsts, .ref a_h_seconds, .int v_size])), (a_h_firsts, .inl (cI, n_h, .inl v_firsts_A)), (a_h_seconds, .inl (cI, n_h, .inl v_seconds_A))]) (va_runV (As := [.int s0]) (rest := [.int p1]) ⟨hx, hb, hml, hown, hts⟩ (k_X2_second l D cI cC cJ cB a_h a_h_firsts a_h_seconds n_h v_size v_seconds_A N s0 H.size _ hu8) (cwV 1 hts gX2_staysRising_X2_second rfl rfl rfl (by decide +kernel) ⟨Nat.le_of_ble_eq_true rfl, Nat.le_of_ble_eq_true rfl⟩) (pv_V hP hD hK hN [0, 2] rfl rfl (ci := 2) rfl 0 rfl) rfl rfl hl.1 rfl (lv_room (Nat.le_of_ble_eq_true rfl)) dX2_staysRising_57 ⟨Nat.zero_le _, Nat.zero_le _⟩) hP hD hS hA [0, 2] [1] [1, 0, 2] rfl rfl rfl rfl rfl rfl (fun H locs hP hD hS => ?_)
        refine lv_icmp_ge (tgt := 67) hx hb dX2_staysRising_60 (by decide) (fun hc9 => ?_) (fun hc9 => ?_)
        · replace h := it_e hc9 h
          refine lv_iconst (v := (0 : Int32)) hx hb dX2_staysRising_67 (by decide) ?_
          obtain rfl := sm_e h
          exact rx_z hx hb hr rfl hP hK hD hS dX2_staysRising_68 hlocks
        · replace h := if_e hc9 h
          refine lv_iconst (v := (1 : Int32)) hx hb dX2_staysRising_63 (by decide) ?_
          refine lv_goto (tgt := 68) hx hb dX2_staysRising_64 (by decide) ?_
          obtain rfl := sm_e h
          exact rx_z hx hb hr rfl hP hK hD hS dX2_staysRising_68 hlocks
    · replace h := if_e hc5 h
      refine lv_aload_n hx hb dX2_staysRising_33 rfl (lv_at hl 1 rfl) ?_
      refine lv_iload_n hx hb dX2_staysRising_34 rfl (lv_at hl 4 rfl) ?_
      refine lv_iconst (v := (1 : Int32)) hx hb dX2_staysRising_35 (by decide) ?_
      refine lv_isub hx hb dX2_staysRising_36 ?_
      obtain ⟨u10, hu10, h⟩ := bd_e h
      refine kx_i (mc := 0) (ms := 0) (wr := [(a_h_firsts, .inl (cI, n_h, .inl v_firsts_A))]) (ws2 := [(a_h, .inr (2, [.ref a_h_firsts, .ref a_h_seconds, .int v_size])), (a_h_firsts, .inl (cI, n_h, .inl v_firsts_A)), (a_h_seconds, .inl (cI, n_h, .inl v_seconds_A))]) (va_runV (As := [.int (x3 - (1 : Int32))]) (rest := []) ⟨hx, hb, hml, hown, hts⟩ (k_X2_second l D cI cC cJ cB a_h a_h_firsts a_h_seconds n_h v_size v_seconds_A N (x3 - (1 : Int32)) H.size _ hu10) (cwV 1 hts gX2_staysRising_X2_second rfl rfl rfl (by decide +kernel) ⟨Nat.le_of_ble_eq_true rfl, Nat.le_of_ble_eq_true rfl⟩) (pv_V hP hD hK hN [0, 2] rfl rfl (ci := 2) rfl 0 rfl) rfl rfl hl.1 rfl (lv_room (Nat.le_of_ble_eq_true rfl)) dX2_staysRising_37 ⟨Nat.zero_le _, Nat.zero_le _⟩) hP hD hS hA [0, 2] [1] [1, 0, 2] rfl rfl rfl rfl rfl rfl (fun H locs hP hD hS => ?_)
      refine lv_iload_n hx hb dX2_staysRising_40 rfl (lv_at hl 3 rfl) ?_
      refine lv_icmp_ge (tgt := 67) hx hb dX2_staysRising_41 (by decide) (fun hc11 => ?_) (fun hc11 => ?_)
      · replace h := it_e hc11 h
        refine lv_iconst (v := (0 : Int32)) hx hb dX2_staysRising_67 (by decide) ?_
        obtain rfl := sm_e h
        exact rx_z hx hb hr rfl hP hK hD hS dX2_staysRising_68 hlocks
      · replace h := if_e hc11 h
        refine lv_aload_n hx hb dX2_staysRising_44 rfl (lv_at hl 1 rfl) ?_
        refine lv_iload hx hb dX2_staysRising_45 (lv_at hl 0 rfl) ?_
        obtain ⟨u12, hu12, h⟩ := bd_e h
        refine kx_i (mc := 0) (ms := 0) (wr := [(a_h_firsts, .inl (cI, n_h, .inl v_firsts_A)), (a_h_seconds, .inl (cI, n_h, .inl v_seconds_A))]) (ws2 := [(a_h, .inr (2, [.ref a_h_firsts, .ref a_h_seconds, .int v_size])), (a_h_firsts, .inl (cI, n_h, .inl v_firsts_A)), (a_h_seconds, .inl (cI, n_h, .inl v_seconds_A))]) (va_runV (As := [.int s0]) (rest := []) ⟨hx, hb, hml, hown, hts⟩ (k_X2_has l D cI cC cJ cB a_h a_h_firsts a_h_seconds v_size N s0 H.size _ hu12) (cwV 1 hts gX2_staysRising_X2_has rfl rfl rfl (by decide +kernel) ⟨Nat.le_of_ble_eq_true rfl, Nat.le_of_ble_eq_true rfl⟩) (pv_V hP hD hK hN [0] rfl rfl (ci := 2) rfl 0 rfl) rfl rfl hl.1 rfl (lv_room (Nat.le_of_ble_eq_true rfl)) dX2_staysRising_47 ⟨Nat.zero_le _, Nat.zero_le _⟩) hP hD hS hA [0] [1, 2] [2, 0, 1] rfl rfl rfl rfl rfl rfl (fun H locs hP hD hS => ?_)
        refine lv_if_eq (tgt := 63) hx hb dX2_staysRising_50 (by decide) (fun hc13 => ?_) (fun hc13 => ?_)
        · replace h := it_e hc13 h
          refine lv_iconst (v := (1 : Int32)) hx hb dX2_staysRising_63 (by decide) ?_
          refine lv_goto (tgt := 68) hx hb dX2_staysRising_64 (by decide) ?_
          obtain rfl := sm_e h
          exact rx_z hx hb hr rfl hP hK hD hS dX2_staysRising_68 hlocks
        · replace h := if_e hc13 h
          refine lv_iload_n hx hb dX2_staysRising_53 rfl (lv_at hl 3 rfl) ?_
          refine lv_aload_n hx hb dX2_staysRising_54 rfl (lv_at hl 1 rfl) ?_
          refine lv_iload hx hb dX2_staysRising_55 (lv_at hl 0 rfl) ?_
          obtain ⟨u14, hu14, h⟩ := bd_e h
          refine kx_i (mc := 0) (ms := 0) (wr := [(a_h_firsts, .inl (cI, n_h, .inl v_firsts_A))]) (ws2 := [(a_h, .inr (2, [.ref a_h_firsts, .ref a_h_seconds, .int v_size])), (a_h_firsts, .inl (cI, n_h, .inl v_firsts_A)), (a_h_seconds, .inl (cI, n_h, .inl v_seconds_A))]) (va_runV (As := [.int s0]) (rest := [.int p1]) ⟨hx, hb, hml, hown, hts⟩ (k_X2_second l D cI cC cJ cB a_h a_h_firsts a_h_seconds n_h v_size v_seconds_A N s0 H.size _ hu14) (cwV 1 hts gX2_staysRising_X2_second rfl rfl rfl (by decide +kernel) ⟨Nat.le_of_ble_eq_true rfl, Nat.le_of_ble_eq_true rfl⟩) (pv_V hP hD hK hN [0, 2] rfl rfl (ci := 2) rfl 0 rfl) rfl rfl hl.1 rfl (lv_room (Nat.le_of_ble_eq_true rfl)) dX2_staysRising_57 ⟨Nat.zero_le _, Nat.zero_le _⟩) hP hD hS hA [0, 2] [1] [1, 0, 2] rfl rfl rfl rfl rfl rfl (fun H locs hP hD hS => ?_)
          refine lv_icmp_ge (tgt := 67) hx hb dX2_staysRising_60 (by decide) (fun hc15 => ?_) (fun hc15 => ?_)
          · replace h := it_e hc15 h
            refine lv_iconst (v := (0 : Int32)) hx hb dX2_staysRising_67 (by decide) ?_
            obtain rfl := sm_e h
            exact rx_z hx hb hr rfl hP hK hD hS dX2_staysRising_68 hlocks
          · replace h := if_e hc15 h
            refine lv_iconst (v := (1 : Int32)) hx hb dX2_staysRising_63 (by decide) ?_
            refine lv_goto (tgt := 68) hx hb dX2_staysRising_64 (by decide) ?_
            obtain rfl := sm_e h
            exact rx_z hx hb hr rfl hP hK hD hS dX2_staysRising_68 hlocks
  refine lv_aload_n hx hb dX2_staysRising_0 rfl (lv_at hl 0 rfl) ?_
  refine lv_iload_n hx hb dX2_staysRising_1 rfl (lv_at hl 1 rfl) ?_
  obtain ⟨u1, hu1, h⟩ := bd_e h
  refine kx_i (mc := 0) (ms := 0) (wr := [(a_h_seconds, .inl (cI, n_h, .inl v_seconds_A))]) (ws2 := [(a_h, .inr (2, [.ref a_h_firsts, .ref a_h_seconds, .int v_size])), (a_h_firsts, .inl (cI, n_h, .inl v_firsts_A)), (a_h_seconds, .inl (cI, n_h, .inl v_seconds_A))]) (va_runV (As := [.int p0]) (rest := []) ⟨hx, hb, hml, hown, hts⟩ (k_X2_slotOf l D cI cC cJ cB a_h a_h_firsts a_h_seconds n_h v_size v_firsts_A N p0 s.heap.size _ hu1) (cwV 1 hts gX2_staysRising_X2_slotOf rfl rfl rfl (by decide +kernel) ⟨Nat.le_of_ble_eq_true rfl, Nat.le_of_ble_eq_true rfl⟩) (pv_V hP hD hK hN [0, 1] rfl rfl (ci := 2) rfl 0 rfl) rfl rfl hl.1 rfl (lv_room (Nat.le_of_ble_eq_true rfl)) dX2_staysRising_2 ⟨Nat.zero_le _, Nat.zero_le _⟩) hP hD hS hA [0, 1] [2] [1, 2, 0] rfl rfl rfl rfl rfl rfl (fun H locs hP hD hS => ?_)
  refine lv_istore_n (lv' := [(3, .int u1), (0, .ref a_h), (1, .int p0), (2, .int p1)]) hx hb dX2_staysRising_5 rfl hl (by decide) rfl (fun ls hl => ?_)
  refine lv_aload_n hx hb dX2_staysRising_6 rfl (lv_at hl 1 rfl) ?_
  refine lv_iload_n hx hb dX2_staysRising_7 rfl (lv_at hl 2 rfl) ?_
  obtain ⟨u2, hu2, h⟩ := bd_e h
  refine kx_i (mc := 0) (ms := 0) (wr := [(a_h_seconds, .inl (cI, n_h, .inl v_seconds_A))]) (ws2 := [(a_h, .inr (2, [.ref a_h_firsts, .ref a_h_seconds, .int v_size])), (a_h_firsts, .inl (cI, n_h, .inl v_firsts_A)), (a_h_seconds, .inl (cI, n_h, .inl v_seconds_A))]) (va_runV (As := [.int p0]) (rest := []) ⟨hx, hb, hml, hown, hts⟩ (k_X2_holds l D cI cC cJ cB a_h a_h_firsts a_h_seconds n_h v_size v_firsts_A N p0 H.size _ hu2) (cwV 1 hts gX2_staysRising_X2_holds rfl rfl rfl (by decide +kernel) ⟨Nat.le_of_ble_eq_true rfl, Nat.le_of_ble_eq_true rfl⟩) (pv_V hP hD hK hN [0, 1] rfl rfl (ci := 2) rfl 0 rfl) rfl rfl hl.1 rfl (lv_room (Nat.le_of_ble_eq_true rfl)) dX2_staysRising_8 ⟨Nat.zero_le _, Nat.zero_le _⟩) hP hD hS hA [0, 1] [2] [1, 2, 0] rfl rfl rfl rfl rfl rfl (fun H locs hP hD hS => ?_)
  refine lv_if_eq (tgt := 20) hx hb dX2_staysRising_11 (by decide) (fun hc3 => ?_) (fun hc3 => ?_)
  · replace h := it_e hc3 h
    refine lv_iload_n hx hb dX2_staysRising_20 rfl (lv_at hl 0 rfl) ?_
    exact B21 u1 u1 _ _ _ h hP hD hS (lv_sub hl [1, 2, 3, 0] rfl)
  · replace h := if_e hc3 h
    refine lv_iload_n hx hb dX2_staysRising_14 rfl (lv_at hl 0 rfl) ?_
    refine lv_iconst (v := (1 : Int32)) hx hb dX2_staysRising_15 (by decide) ?_
    refine lv_iadd hx hb dX2_staysRising_16 ?_
    refine lv_goto (tgt := 21) hx hb dX2_staysRising_17 (by decide) ?_
    exact B21 u1 (u1 + (1 : Int32)) _ _ _ h hP hD hS (lv_sub hl [1, 2, 3, 0] rfl)
-- X2_lay
def f_X2_lay (N : Nat) (n_h : Nat) (v_size : Int32) (v_firsts_A : Nat → Int32) (v_seconds_A : Nat → Int32) (p0 : Int32) (p1 : Int32) : Option (Int32 × (Nat → Int32) × (Nat → Int32)) :=
  Option.bind (f_X2_slotOf N n_h v_size v_firsts_A p0) (fun u1 => Option.bind (f_X2_holds N n_h v_size v_firsts_A p0) (fun u2 => (if u2 = 0 then (if (Int32.ofNat n_h) ≤ v_size then some (v_size, v_firsts_A, v_seconds_A)
    else gT (¬ u1 < 0 ∧ ¬ (u1 + (1 : Int32)) < 0 ∧ ¬ (v_size - u1) < 0 ∧ Int32.toNatClampNeg u1 + Int32.toNatClampNeg (v_size - u1) ≤ n_h ∧ Int32.toNatClampNeg (u1 + (1 : Int32)) + Int32.toNatClampNeg (v_size - u1) ≤ n_h) (nm (va_cpy v_firsts_A v_firsts_A (Int32.toNatClampNeg u1) (Int32.toNatClampNeg (u1 + (1 : Int32))) (Int32.toNatClampNeg (v_size - u1))) (fun g6 => gT (¬ u1 < 0 ∧ ¬ (u1 + (1 : Int32)) < 0 ∧ ¬ (v_size - u1) < 0 ∧ Int32.toNatClampNeg u1 + Int32.toNatClampNeg (v_size - u1) ≤ n_h ∧ Int32.toNatClampNeg (u1 + (1 : Int32)) + Int32.toNatClampNeg (v_size - u1) ≤ n_h) (nm (va_cpy v_seconds_A v_seconds_A (Int32.toNatClampNeg u1) (Int32.toNatClampNeg (u1 + (1 : Int32))) (Int32.toNatClampNeg (v_size - u1))) (fun g8 => gA u1 n_h (nm (upd g6 (Int32.toNatClampNeg u1) p0) (fun g10 => gA u1 n_h (nm (upd g8 (Int32.toNatClampNeg u1) p1) (fun g12 => nm (v_size + (1 : Int32)) (fun t13 => some (t13, g10, g12)))))))))))
    else gA u1 n_h (nm (upd v_seconds_A (Int32.toNatClampNeg u1) p1) (fun g15 => some (v_size, v_firsts_A, g15))))))
theorem q_X2_lay_2 : (.fieldLink RX2 24 "SpringBalance$Pairs" "size" "I" : Cond) ∈ wsX2_lay := List.mem_of_getElem? (i := 2) (by decide +kernel)
set_option maxRecDepth 20000 in
theorem in_X2_lay_X2 : ∀ w ∈ u_ws RX2 TX2 3, w ∈ wsX2_lay := by decide +kernel
theorem q_X2_lay_3 : (.fieldLink RX2 15 "SpringBalance$Pairs" "firsts" "[I" : Cond) ∈ wsX2_lay := List.mem_of_getElem? (i := 3) (by decide +kernel)
theorem q_X2_lay_4 : (.methodLink RX2 31 arraycopyName : Cond) ∈ wsX2_lay := List.mem_of_getElem? (i := 4) (by decide +kernel)
theorem q_X2_lay_5 : (.native arraycopyName : Cond) ∈ wsX2_lay := List.mem_of_getElem? (i := 5) (by decide +kernel)
theorem q_X2_lay_6 : (.static arraycopyName : Cond) ∈ wsX2_lay := List.mem_of_getElem? (i := 6) (by decide +kernel)
theorem q_X2_lay_7 : (.initialized "java/lang/System" : Cond) ∈ wsX2_lay := List.mem_of_getElem? (i := 7) (by decide +kernel)
theorem q_X2_lay_1 : (.fieldLink RX2 21 "SpringBalance$Pairs" "seconds" "[I" : Cond) ∈ wsX2_lay := List.mem_of_getElem? (i := 1) (by decide +kernel)
set_option maxHeartbeats 8000000 in
set_option maxRecDepth 100000 in
theorem k_X2_lay (l : Launch) (D : va_G) (cI cC cJ cB : ClassId) (a_h a_h_firsts a_h_seconds : Nat) (n_h : Nat) (v_size : Int32) (v_firsts_A : Nat → Int32) (v_seconds_A : Nat → Int32) (N : Nat) (p0 : Int32) (p1 : Int32) (sz : Nat) (u : Int32 × (Nat → Int32) × (Nat → Int32)) (hu : f_X2_lay N n_h v_size v_firsts_A v_seconds_A p0 p1 = some u) :
    Met l yX2_lay wsX2_lay ({ frames := 2, cells := 0, slots := 0, locals := 44 } : Room) (va_Pc [.ref a_h, .int p0, .int p1] (PreW D (ty4 cI cC cJ cB) sz [(a_h, .inr (2, [.ref a_h_firsts, .ref a_h_seconds, .int v_size])), (a_h_firsts, .inl (cI, n_h, .inl v_firsts_A)), (a_h_seconds, .inl (cI, n_h, .inl v_seconds_A))]))
      (QV D (ty4 cI cC cJ cB) (va_A [(a_h, .inr (2, [.ref a_h_firsts, .ref a_h_seconds, .int v_size])), (a_h_firsts, .inl (cI, n_h, .inl v_firsts_A)), (a_h_seconds, .inl (cI, n_h, .inl v_seconds_A))] sz) [(a_h, .inr (2, [.ref a_h_firsts, .ref a_h_seconds, .int u.1])), (a_h_firsts, .inl (cI, n_h, .inl u.2.1)), (a_h_seconds, .inl (cI, n_h, .inl u.2.2))]) 0 0 (va_A [(a_h, .inr (2, [.ref a_h_firsts, .ref a_h_seconds, .int v_size])), (a_h_firsts, .inl (cI, n_h, .inl v_firsts_A)), (a_h_seconds, .inl (cI, n_h, .inl v_seconds_A))] sz) := by
  refine met_go (y := yX2_lay) (wsy := wsX2_lay) (cc := cX2_lay) (maxL := 4) (ret := none) (av := [.ref a_h, .int p0, .int p1]) (Qc := fun A => QV D (ty4 cI cC cJ cB) A [(a_h, .inr (2, [.ref a_h_firsts, .ref a_h_seconds, .int u.1])), (a_h_firsts, .inl (cI, n_h, .inl u.2.1)), (a_h_seconds, .inl (cI, n_h, .inl u.2.2))]) (by decide) rfl (Nat.le_of_ble_eq_true rfl) ?_
  intro p e s m below meth c A ls hx hb hr hml hown hts hlocks hnm hN hK hP hD hS hA hl
  have h := hu
  clear hu
  unfold f_X2_lay at h
  have hl : lv_has ls 4 [(0, .ref a_h), (1, .int p0), (2, .int p1)] := hl
  refine lv_aload_n hx hb dX2_lay_0 rfl (lv_at hl 0 rfl) ?_
  refine lv_iload_n hx hb dX2_lay_1 rfl (lv_at hl 1 rfl) ?_
  obtain ⟨u1, hu1, h⟩ := bd_e h
  refine kx_i (mc := 0) (ms := 0) (wr := [(a_h_seconds, .inl (cI, n_h, .inl v_seconds_A))]) (ws2 := [(a_h, .inr (2, [.ref a_h_firsts, .ref a_h_seconds, .int v_size])), (a_h_firsts, .inl (cI, n_h, .inl v_firsts_A)), (a_h_seconds, .inl (cI, n_h, .inl v_seconds_A))]) (va_runV (As := [.int p0]) (rest := []) ⟨hx, hb, hml, hown, hts⟩ (k_X2_slotOf l D cI cC cJ cB a_h a_h_firsts a_h_seconds n_h v_size v_firsts_A N p0 s.heap.size _ hu1) (cwV 1 hts gX2_lay_X2_slotOf rfl rfl rfl (by decide +kernel) ⟨Nat.le_of_ble_eq_true rfl, Nat.le_of_ble_eq_true rfl⟩) (pv_V hP hD hK hN [0, 1] rfl rfl (ci := 2) rfl 0 rfl) rfl rfl hl.1 rfl (lv_room (Nat.le_of_ble_eq_true rfl)) dX2_lay_2 ⟨Nat.zero_le _, Nat.zero_le _⟩) hP hD hS hA [0, 1] [2] [1, 2, 0] rfl rfl rfl rfl rfl rfl (fun H locs hP hD hS => ?_)
  refine lv_istore_n (lv' := [(3, .int u1), (0, .ref a_h), (1, .int p0), (2, .int p1)]) hx hb dX2_lay_5 rfl hl (by decide) rfl (fun ls hl => ?_)
  refine lv_aload_n hx hb dX2_lay_6 rfl (lv_at hl 1 rfl) ?_
  refine lv_iload_n hx hb dX2_lay_7 rfl (lv_at hl 2 rfl) ?_
  obtain ⟨u2, hu2, h⟩ := bd_e h
  refine kx_i (mc := 0) (ms := 0) (wr := [(a_h_seconds, .inl (cI, n_h, .inl v_seconds_A))]) (ws2 := [(a_h, .inr (2, [.ref a_h_firsts, .ref a_h_seconds, .int v_size])), (a_h_firsts, .inl (cI, n_h, .inl v_firsts_A)), (a_h_seconds, .inl (cI, n_h, .inl v_seconds_A))]) (va_runV (As := [.int p0]) (rest := []) ⟨hx, hb, hml, hown, hts⟩ (k_X2_holds l D cI cC cJ cB a_h a_h_firsts a_h_seconds n_h v_size v_firsts_A N p0 H.size _ hu2) (cwV 1 hts gX2_lay_X2_holds rfl rfl rfl (by decide +kernel) ⟨Nat.le_of_ble_eq_true rfl, Nat.le_of_ble_eq_true rfl⟩) (pv_V hP hD hK hN [0, 1] rfl rfl (ci := 2) rfl 0 rfl) rfl rfl hl.1 rfl (lv_room (Nat.le_of_ble_eq_true rfl)) dX2_lay_8 ⟨Nat.zero_le _, Nat.zero_le _⟩) hP hD hS hA [0, 1] [2] [1, 2, 0] rfl rfl rfl rfl rfl rfl (fun H locs hP hD hS => ?_)
  refine lv_if_eq (tgt := 24) hx hb dX2_lay_11 (by decide) (fun hc3 => ?_) (fun hc3 => ?_)
  · replace h := it_e hc3 h
    refine lv_aload_n hx hb dX2_lay_24 rfl (lv_at hl 1 rfl) ?_
    refine va_get (D := D) (ci := 2) (v := .int v_size) (C := RX2) (T := TX2) (N := 3) hx hb hts in_X2_lay_X2 hown hK hP 0 rfl rfl 2 (by decide) (hts _ q_X2_lay_2) (fun _ h9 => h9) rfl dX2_lay_25 ?_
    refine lv_aload_n hx hb dX2_lay_28 rfl (lv_at hl 1 rfl) ?_
    refine va_get (D := D) (ci := 2) (v := .ref a_h_firsts) (C := RX2) (T := TX2) (N := 3) hx hb hts in_X2_lay_X2 hown hK hP 0 rfl rfl 0 (by decide) (hts _ q_X2_lay_3) (fun _ h9 => h9) rfl dX2_lay_29 ?_
    refine va_alen (ty := .int) (v := (Int32.ofNat n_h)) hx hb hK hP 1 0 rfl rfl rfl dX2_lay_32 ?_
    refine lv_icmp_ge (tgt := 102) hx hb dX2_lay_33 (by decide) (fun hc4 => ?_) (fun hc4 => ?_)
    · replace h := it_e hc4 h
      obtain rfl := sm_e h
      exact rx_v hx hb hr  hP hK hD hS dX2_lay_102 hlocks
    · replace h := if_e hc4 h
      refine lv_aload_n hx hb dX2_lay_36 rfl (lv_at hl 1 rfl) ?_
      refine va_get (D := D) (ci := 2) (v := .ref a_h_firsts) (C := RX2) (T := TX2) (N := 3) hx hb hts in_X2_lay_X2 hown hK hP 0 rfl rfl 0 (by decide) (hts _ q_X2_lay_3) (fun _ h9 => h9) rfl dX2_lay_37 ?_
      refine lv_iload_n hx hb dX2_lay_40 rfl (lv_at hl 0 rfl) ?_
      refine lv_aload_n hx hb dX2_lay_41 rfl (lv_at hl 1 rfl) ?_
      refine va_get (D := D) (ci := 2) (v := .ref a_h_firsts) (C := RX2) (T := TX2) (N := 3) hx hb hts in_X2_lay_X2 hown hK hP 0 rfl rfl 0 (by decide) (hts _ q_X2_lay_3) (fun _ h9 => h9) rfl dX2_lay_42 ?_
      refine lv_iload_n hx hb dX2_lay_45 rfl (lv_at hl 0 rfl) ?_
      refine lv_iconst (v := (1 : Int32)) hx hb dX2_lay_46 (by decide) ?_
      refine lv_iadd hx hb dX2_lay_47 ?_
      refine lv_aload_n hx hb dX2_lay_48 rfl (lv_at hl 1 rfl) ?_
      refine va_get (D := D) (ci := 2) (v := .int v_size) (C := RX2) (T := TX2) (N := 3) hx hb hts in_X2_lay_X2 hown hK hP 0 rfl rfl 2 (by decide) (hts _ q_X2_lay_2) (fun _ h9 => h9) rfl dX2_lay_49 ?_
      refine lv_iload_n hx hb dX2_lay_52 rfl (lv_at hl 0 rfl) ?_
      refine lv_isub hx hb dX2_lay_53 ?_
      obtain ⟨hz5, h⟩ := gT_e h
      refine va_copyi (ty := .int) hx hb (hml.trans hl.1.symm) hown (hts _ q_X2_lay_4) (hts _ q_X2_lay_5) (hts _ q_X2_lay_6) (hts _ q_X2_lay_7) hK hP hD hS 1 1 0 0 rfl rfl rfl rfl rfl hz5.1 hz5.2.1 hz5.2.2.1 hz5.2.2.2.1 hz5.2.2.2.2 (fun _ _ => rfl) (by decide) (Nat.le_of_ble_eq_true rfl) dX2_lay_54 (fun H locs hP hD hS => ?_)
      obtain ⟨g6, eg6, h⟩ := nm_x h
      have hP : va_P D vwCl [(a_h, .inr (2, [.ref a_h_firsts, .ref a_h_seconds, .int v_size])), (a_h_firsts, .inl (cI, n_h, .inl g6)), (a_h_seconds, .inl (cI, n_h, .inl v_seconds_A))] H := by rw [eg6]; exact hP
      have hD : va_D A [(a_h, .inr (2, [.ref a_h_firsts, .ref a_h_seconds, .int v_size])), (a_h_firsts, .inl (cI, n_h, .inl g6)), (a_h_seconds, .inl (cI, n_h, .inl v_seconds_A))] := by rw [eg6]; exact hD
      refine lv_aload_n hx hb dX2_lay_57 rfl (lv_at hl 1 rfl) ?_
      refine va_get (D := D) (ci := 2) (v := .ref a_h_seconds) (C := RX2) (T := TX2) (N := 3) hx hb hts in_X2_lay_X2 hown hK hP 0 rfl rfl 1 (by decide) (hts _ q_X2_lay_1) (fun _ h9 => h9) rfl dX2_lay_58 ?_
      refine lv_iload_n hx hb dX2_lay_61 rfl (lv_at hl 0 rfl) ?_
      refine lv_aload_n hx hb dX2_lay_62 rfl (lv_at hl 1 rfl) ?_
      refine va_get (D := D) (ci := 2) (v := .ref a_h_seconds) (C := RX2) (T := TX2) (N := 3) hx hb hts in_X2_lay_X2 hown hK hP 0 rfl rfl 1 (by decide) (hts _ q_X2_lay_1) (fun _ h9 => h9) rfl dX2_lay_63 ?_
      refine lv_iload_n hx hb dX2_lay_66 rfl (lv_at hl 0 rfl) ?_
      refine lv_iconst (v := (1 : Int32)) hx hb dX2_lay_67 (by decide) ?_
      refine lv_iadd hx hb dX2_lay_68 ?_
      refine lv_aload_n hx hb dX2_lay_69 rfl (lv_at hl 1 rfl) ?_
      refine va_get (D := D) (ci := 2) (v := .int v_size) (C := RX2) (T := TX2) (N := 3) hx hb hts in_X2_lay_X2 hown hK hP 0 rfl rfl 2 (by decide) (hts _ q_X2_lay_2) (fun _ h9 => h9) rfl dX2_lay_70 ?_
      refine lv_iload_n hx hb dX2_lay_73 rfl (lv_at hl 0 rfl) ?_
      refine lv_isub hx hb dX2_lay_74 ?_
      obtain ⟨hz7, h⟩ := gT_e h
      refine va_copyi (ty := .int) hx hb (hml.trans hl.1.symm) hown (hts _ q_X2_lay_4) (hts _ q_X2_lay_5) (hts _ q_X2_lay_6) (hts _ q_X2_lay_7) hK hP hD hS 2 2 0 0 rfl rfl rfl rfl rfl hz7.1 hz7.2.1 hz7.2.2.1 hz7.2.2.2.1 hz7.2.2.2.2 (fun _ _ => rfl) (by decide) (Nat.le_of_ble_eq_true rfl) dX2_lay_75 (fun H locs hP hD hS => ?_)
      obtain ⟨g8, eg8, h⟩ := nm_x h
      have hP : va_P D vwCl [(a_h, .inr (2, [.ref a_h_firsts, .ref a_h_seconds, .int v_size])), (a_h_firsts, .inl (cI, n_h, .inl g6)), (a_h_seconds, .inl (cI, n_h, .inl g8))] H := by rw [eg8]; exact hP
      have hD : va_D A [(a_h, .inr (2, [.ref a_h_firsts, .ref a_h_seconds, .int v_size])), (a_h_firsts, .inl (cI, n_h, .inl g6)), (a_h_seconds, .inl (cI, n_h, .inl g8))] := by rw [eg8]; exact hD
      refine lv_aload_n hx hb dX2_lay_78 rfl (lv_at hl 1 rfl) ?_
      refine va_get (D := D) (ci := 2) (v := .ref a_h_firsts) (C := RX2) (T := TX2) (N := 3) hx hb hts in_X2_lay_X2 hown hK hP 0 rfl rfl 0 (by decide) (hts _ q_X2_lay_3) (fun _ h9 => h9) rfl dX2_lay_79 ?_
      refine lv_iload_n hx hb dX2_lay_82 rfl (lv_at hl 0 rfl) ?_
      refine lv_iload_n hx hb dX2_lay_83 rfl (lv_at hl 2 rfl) ?_
      obtain ⟨hi9, h⟩ := gA_e h
      refine wx_iast hx hb hK hP hD hS 1 0 rfl rfl (Int32.toNatClampNeg u1) rfl hi9 dX2_lay_84 rfl (fun H locs hP hD hS => ?_)
      obtain ⟨g10, eg10, h⟩ := nm_x h
      have hP : va_P D vwCl [(a_h, .inr (2, [.ref a_h_firsts, .ref a_h_seconds, .int v_size])), (a_h_firsts, .inl (cI, n_h, .inl g10)), (a_h_seconds, .inl (cI, n_h, .inl g8))] H := by rw [eg10]; exact hP
      have hD : va_D A [(a_h, .inr (2, [.ref a_h_firsts, .ref a_h_seconds, .int v_size])), (a_h_firsts, .inl (cI, n_h, .inl g10)), (a_h_seconds, .inl (cI, n_h, .inl g8))] := by rw [eg10]; exact hD
      refine lv_aload_n hx hb dX2_lay_85 rfl (lv_at hl 1 rfl) ?_
      refine va_get (D := D) (ci := 2) (v := .ref a_h_seconds) (C := RX2) (T := TX2) (N := 3) hx hb hts in_X2_lay_X2 hown hK hP 0 rfl rfl 1 (by decide) (hts _ q_X2_lay_1) (fun _ h9 => h9) rfl dX2_lay_86 ?_
      refine lv_iload_n hx hb dX2_lay_89 rfl (lv_at hl 0 rfl) ?_
      refine lv_iload_n hx hb dX2_lay_90 rfl (lv_at hl 3 rfl) ?_
      obtain ⟨hi11, h⟩ := gA_e h
      refine wx_iast hx hb hK hP hD hS 2 0 rfl rfl (Int32.toNatClampNeg u1) rfl hi11 dX2_lay_91 rfl (fun H locs hP hD hS => ?_)
      obtain ⟨g12, eg12, h⟩ := nm_x h
      have hP : va_P D vwCl [(a_h, .inr (2, [.ref a_h_firsts, .ref a_h_seconds, .int v_size])), (a_h_firsts, .inl (cI, n_h, .inl g10)), (a_h_seconds, .inl (cI, n_h, .inl g12))] H := by rw [eg12]; exact hP
      have hD : va_D A [(a_h, .inr (2, [.ref a_h_firsts, .ref a_h_seconds, .int v_size])), (a_h_firsts, .inl (cI, n_h, .inl g10)), (a_h_seconds, .inl (cI, n_h, .inl g12))] := by rw [eg12]; exact hD
      refine lv_aload_n hx hb dX2_lay_92 rfl (lv_at hl 1 rfl) ?_
      refine lv_dup hx hb dX2_lay_93 rfl ?_
      refine va_get (D := D) (ci := 2) (v := .int v_size) (C := RX2) (T := TX2) (N := 3) hx hb hts in_X2_lay_X2 hown hK hP 0 rfl rfl 2 (by decide) (hts _ q_X2_lay_2) (fun _ h9 => h9) rfl dX2_lay_94 ?_
      refine lv_iconst (v := (1 : Int32)) hx hb dX2_lay_97 (by decide) ?_
      refine lv_iadd hx hb dX2_lay_98 ?_
      refine lv_topi (fun t13 et13 => ?_)
      replace h := nm_at h et13
      refine va_put (D := D) (ci := 2) (v := .int t13) (ty := .int) (C := RX2) (T := TX2) (N := 3) hx hb hts in_X2_lay_X2 tyX2 tyX2_ok nmX2 hown hK hP hD hS 0 rfl rfl 2 (by decide) (hts _ q_X2_lay_2) (fun _ h9 => h9) rfl (by decide +kernel) rfl rfl (Nat.le_of_ble_eq_true rfl) dX2_lay_99 (fun H locs hP hD hS => ?_)
      have hP : va_P D vwCl [(a_h, .inr (2, [.ref a_h_firsts, .ref a_h_seconds, .int t13])), (a_h_firsts, .inl (cI, n_h, .inl g10)), (a_h_seconds, .inl (cI, n_h, .inl g12))] H := hP
      have hD : va_D A [(a_h, .inr (2, [.ref a_h_firsts, .ref a_h_seconds, .int t13])), (a_h_firsts, .inl (cI, n_h, .inl g10)), (a_h_seconds, .inl (cI, n_h, .inl g12))] := hD
      obtain rfl := sm_e h
      exact rx_v hx hb hr  hP hK hD hS dX2_lay_102 hlocks
  · replace h := if_e hc3 h
    refine lv_aload_n hx hb dX2_lay_14 rfl (lv_at hl 1 rfl) ?_
    refine va_get (D := D) (ci := 2) (v := .ref a_h_seconds) (C := RX2) (T := TX2) (N := 3) hx hb hts in_X2_lay_X2 hown hK hP 0 rfl rfl 1 (by decide) (hts _ q_X2_lay_1) (fun _ h9 => h9) rfl dX2_lay_15 ?_
    refine lv_iload_n hx hb dX2_lay_18 rfl (lv_at hl 0 rfl) ?_
    refine lv_iload_n hx hb dX2_lay_19 rfl (lv_at hl 3 rfl) ?_
    obtain ⟨hi14, h⟩ := gA_e h
    refine wx_iast hx hb hK hP hD hS 2 0 rfl rfl (Int32.toNatClampNeg u1) rfl hi14 dX2_lay_20 rfl (fun H locs hP hD hS => ?_)
    obtain ⟨g15, eg15, h⟩ := nm_x h
    have hP : va_P D vwCl [(a_h, .inr (2, [.ref a_h_firsts, .ref a_h_seconds, .int v_size])), (a_h_firsts, .inl (cI, n_h, .inl v_firsts_A)), (a_h_seconds, .inl (cI, n_h, .inl g15))] H := by rw [eg15]; exact hP
    have hD : va_D A [(a_h, .inr (2, [.ref a_h_firsts, .ref a_h_seconds, .int v_size])), (a_h_firsts, .inl (cI, n_h, .inl v_firsts_A)), (a_h_seconds, .inl (cI, n_h, .inl g15))] := by rw [eg15]; exact hD
    refine lv_goto (tgt := 102) hx hb dX2_lay_21 (by decide) ?_
    obtain rfl := sm_e h
    exact rx_v hx hb hr  hP hK hD hS dX2_lay_102 hlocks
-- X2_between
def f_X2_between (n_h : Nat) (v_size : Int32) (v_firsts_A : Nat → Int32) (v_seconds_A : Nat → Int32) (p0 : Int32) (p1 : Int32) (p2 : Int32) : Option (Int32) :=
  (if p0 < (1 : Int32) then some (0 : Int32)
    else (if p0 < v_size then gA (p0 - (1 : Int32)) n_h (nm ((v_firsts_A (Int32.toNatClampNeg (p0 - (1 : Int32)))) * p2) (fun t4 => gA (p0 - (1 : Int32)) n_h (nm ((v_seconds_A (Int32.toNatClampNeg (p0 - (1 : Int32)))) * p2) (fun t6 => gA p0 n_h (nm (((v_firsts_A (Int32.toNatClampNeg p0)) * p2) - t4) (fun t8 => gA p0 n_h (nm (((v_seconds_A (Int32.toNatClampNeg p0)) * p2) - t6) (fun t10 => (if t8 ≤ 0 then some t6
    else gZ t8 (some (t6 + ((t10 * (p1 - t4)) / t8))))))))))))
    else some (0 : Int32)))
theorem q_X2_between_1 : (.fieldLink RX2 24 "SpringBalance$Pairs" "size" "I" : Cond) ∈ wsX2_between := List.mem_of_getElem? (i := 1) (by decide +kernel)
set_option maxRecDepth 20000 in
theorem in_X2_between_X2 : ∀ w ∈ u_ws RX2 TX2 3, w ∈ wsX2_between := by decide +kernel
theorem q_X2_between_2 : (.fieldLink RX2 15 "SpringBalance$Pairs" "firsts" "[I" : Cond) ∈ wsX2_between := List.mem_of_getElem? (i := 2) (by decide +kernel)
theorem q_X2_between_3 : (.fieldLink RX2 21 "SpringBalance$Pairs" "seconds" "[I" : Cond) ∈ wsX2_between := List.mem_of_getElem? (i := 3) (by decide +kernel)
set_option maxHeartbeats 8000000 in
set_option maxRecDepth 100000 in
theorem k_X2_between (l : Launch) (D : va_G) (cI cC cJ cB : ClassId) (a_h a_h_firsts a_h_seconds : Nat) (n_h : Nat) (v_size : Int32) (v_firsts_A : Nat → Int32) (v_seconds_A : Nat → Int32) (N : Nat) (p0 : Int32) (p1 : Int32) (p2 : Int32) (sz : Nat) (u : Int32) (hu : f_X2_between n_h v_size v_firsts_A v_seconds_A p0 p1 p2 = some u) :
    Met l yX2_between wsX2_between ({ frames := 0, cells := 0, slots := 0, locals := 0 } : Room) (va_Pc [.ref a_h, .int p0, .int p1, .int p2] (PreW D (ty4 cI cC cJ cB) sz [(a_h, .inr (2, [.ref a_h_firsts, .ref a_h_seconds, .int v_size])), (a_h_firsts, .inl (cI, n_h, .inl v_firsts_A)), (a_h_seconds, .inl (cI, n_h, .inl v_seconds_A))]))
      (QI D (ty4 cI cC cJ cB) (va_A [(a_h, .inr (2, [.ref a_h_firsts, .ref a_h_seconds, .int v_size])), (a_h_firsts, .inl (cI, n_h, .inl v_firsts_A)), (a_h_seconds, .inl (cI, n_h, .inl v_seconds_A))] sz) [(a_h, .inr (2, [.ref a_h_firsts, .ref a_h_seconds, .int v_size])), (a_h_firsts, .inl (cI, n_h, .inl v_firsts_A)), (a_h_seconds, .inl (cI, n_h, .inl v_seconds_A))] u) 0 0 (va_A [(a_h, .inr (2, [.ref a_h_firsts, .ref a_h_seconds, .int v_size])), (a_h_firsts, .inl (cI, n_h, .inl v_firsts_A)), (a_h_seconds, .inl (cI, n_h, .inl v_seconds_A))] sz) := by
  refine met_go (y := yX2_between) (wsy := wsX2_between) (cc := cX2_between) (maxL := 8) (ret := (some .int)) (av := [.ref a_h, .int p0, .int p1, .int p2]) (Qc := fun A => QI D (ty4 cI cC cJ cB) A [(a_h, .inr (2, [.ref a_h_firsts, .ref a_h_seconds, .int v_size])), (a_h_firsts, .inl (cI, n_h, .inl v_firsts_A)), (a_h_seconds, .inl (cI, n_h, .inl v_seconds_A))] u) (by decide) rfl (Nat.le_of_ble_eq_true rfl) ?_
  intro p e s m below meth c A ls hx hb hr hml hown hts hlocks hnm hN hK hP hD hS hA hl
  have h := hu
  clear hu
  unfold f_X2_between at h
  have hl : lv_has ls 8 [(0, .ref a_h), (1, .int p0), (2, .int p1), (3, .int p2)] := hl
  refine lv_iload_n hx hb dX2_between_0 rfl (lv_at hl 1 rfl) ?_
  refine lv_iconst (v := (1 : Int32)) hx hb dX2_between_1 (by decide) ?_
  refine lv_icmp_lt (tgt := 13) hx hb dX2_between_2 (by decide) (fun hc1 => ?_) (fun hc1 => ?_)
  · replace h := it_e hc1 h
    refine lv_iconst (v := (0 : Int32)) hx hb dX2_between_13 (by decide) ?_
    obtain rfl := sm_e h
    exact rx_i hx hb hr  hP hK hD hS dX2_between_14 hlocks
  · replace h := if_e hc1 h
    refine lv_iload_n hx hb dX2_between_5 rfl (lv_at hl 1 rfl) ?_
    refine lv_aload_n hx hb dX2_between_6 rfl (lv_at hl 0 rfl) ?_
    refine va_get (D := D) (ci := 2) (v := .int v_size) (C := RX2) (T := TX2) (N := 3) hx hb hts in_X2_between_X2 hown hK hP 0 rfl rfl 2 (by decide) (hts _ q_X2_between_1) (fun _ h9 => h9) rfl dX2_between_7 ?_
    refine lv_icmp_lt (tgt := 15) hx hb dX2_between_10 (by decide) (fun hc2 => ?_) (fun hc2 => ?_)
    · replace h := it_e hc2 h
      refine lv_aload_n hx hb dX2_between_15 rfl (lv_at hl 0 rfl) ?_
      refine va_get (D := D) (ci := 2) (v := .ref a_h_firsts) (C := RX2) (T := TX2) (N := 3) hx hb hts in_X2_between_X2 hown hK hP 0 rfl rfl 0 (by decide) (hts _ q_X2_between_2) (fun _ h9 => h9) rfl dX2_between_16 ?_
      refine lv_iload_n hx hb dX2_between_19 rfl (lv_at hl 1 rfl) ?_
      refine lv_iconst (v := (1 : Int32)) hx hb dX2_between_20 (by decide) ?_
      refine lv_isub hx hb dX2_between_21 ?_
      obtain ⟨hi3, h⟩ := gA_e h
      refine wx_iald hx hb hK hP 1 0 rfl rfl (Int32.toNatClampNeg (p0 - (1 : Int32))) rfl hi3 dX2_between_22 ?_
      refine lv_iload_n hx hb dX2_between_23 rfl (lv_at hl 3 rfl) ?_
      refine lv_imul hx hb dX2_between_24 ?_
      refine lv_topi (fun t4 et4 => ?_)
      replace h := nm_at h et4
      refine lv_istore (lv' := [(4, .int t4), (0, .ref a_h), (1, .int p0), (2, .int p1), (3, .int p2)]) hx hb dX2_between_25 hl (by decide) rfl (fun ls hl => ?_)
      refine lv_aload_n hx hb dX2_between_27 rfl (lv_at hl 1 rfl) ?_
      refine va_get (D := D) (ci := 2) (v := .ref a_h_seconds) (C := RX2) (T := TX2) (N := 3) hx hb hts in_X2_between_X2 hown hK hP 0 rfl rfl 1 (by decide) (hts _ q_X2_between_3) (fun _ h9 => h9) rfl dX2_between_28 ?_
      refine lv_iload_n hx hb dX2_between_31 rfl (lv_at hl 2 rfl) ?_
      refine lv_iconst (v := (1 : Int32)) hx hb dX2_between_32 (by decide) ?_
      refine lv_isub hx hb dX2_between_33 ?_
      obtain ⟨hi5, h⟩ := gA_e h
      refine wx_iald hx hb hK hP 2 0 rfl rfl (Int32.toNatClampNeg (p0 - (1 : Int32))) rfl hi5 dX2_between_34 ?_
      refine lv_iload_n hx hb dX2_between_35 rfl (lv_at hl 4 rfl) ?_
      refine lv_imul hx hb dX2_between_36 ?_
      refine lv_topi (fun t6 et6 => ?_)
      replace h := nm_at h et6
      refine lv_istore (lv' := [(5, .int t6), (4, .int t4), (0, .ref a_h), (1, .int p0), (2, .int p1), (3, .int p2)]) hx hb dX2_between_37 hl (by decide) rfl (fun ls hl => ?_)
      refine lv_aload_n hx hb dX2_between_39 rfl (lv_at hl 2 rfl) ?_
      refine va_get (D := D) (ci := 2) (v := .ref a_h_firsts) (C := RX2) (T := TX2) (N := 3) hx hb hts in_X2_between_X2 hown hK hP 0 rfl rfl 0 (by decide) (hts _ q_X2_between_2) (fun _ h9 => h9) rfl dX2_between_40 ?_
      refine lv_iload_n hx hb dX2_between_43 rfl (lv_at hl 3 rfl) ?_
      obtain ⟨hi7, h⟩ := gA_e h
      refine wx_iald hx hb hK hP 1 0 rfl rfl (Int32.toNatClampNeg p0) rfl hi7 dX2_between_44 ?_
      refine lv_iload_n hx hb dX2_between_45 rfl (lv_at hl 5 rfl) ?_
      refine lv_imul hx hb dX2_between_46 ?_
      refine lv_iload hx hb dX2_between_47 (lv_at hl 1 rfl) ?_
      refine lv_isub hx hb dX2_between_49 ?_
      refine lv_topi (fun t8 et8 => ?_)
      replace h := nm_at h et8
      refine lv_istore (lv' := [(6, .int t8), (5, .int t6), (4, .int t4), (0, .ref a_h), (1, .int p0), (2, .int p1), (3, .int p2)]) hx hb dX2_between_50 hl (by decide) rfl (fun ls hl => ?_)
      refine lv_aload_n hx hb dX2_between_52 rfl (lv_at hl 3 rfl) ?_
      refine va_get (D := D) (ci := 2) (v := .ref a_h_seconds) (C := RX2) (T := TX2) (N := 3) hx hb hts in_X2_between_X2 hown hK hP 0 rfl rfl 1 (by decide) (hts _ q_X2_between_3) (fun _ h9 => h9) rfl dX2_between_53 ?_
      refine lv_iload_n hx hb dX2_between_56 rfl (lv_at hl 4 rfl) ?_
      obtain ⟨hi9, h⟩ := gA_e h
      refine wx_iald hx hb hK hP 2 0 rfl rfl (Int32.toNatClampNeg p0) rfl hi9 dX2_between_57 ?_
      refine lv_iload_n hx hb dX2_between_58 rfl (lv_at hl 6 rfl) ?_
      refine lv_imul hx hb dX2_between_59 ?_
      refine lv_iload hx hb dX2_between_60 (lv_at hl 1 rfl) ?_
      refine lv_isub hx hb dX2_between_62 ?_
      refine lv_topi (fun t10 et10 => ?_)
      replace h := nm_at h et10
      refine lv_istore (lv' := [(7, .int t10), (6, .int t8), (5, .int t6), (4, .int t4), (0, .ref a_h), (1, .int p0), (2, .int p1), (3, .int p2)]) hx hb dX2_between_63 hl (by decide) rfl (fun ls hl => ?_)
      refine lv_iload hx hb dX2_between_65 (lv_at hl 1 rfl) ?_
      refine lv_if_le (tgt := 86) hx hb dX2_between_67 (by decide) (fun hc11 => ?_) (fun hc11 => ?_)
      · replace h := it_e hc11 h
        refine lv_iload hx hb dX2_between_86 (lv_at hl 2 rfl) ?_
        obtain rfl := sm_e h
        exact rx_i hx hb hr  hP hK hD hS dX2_between_88 hlocks
      · replace h := if_e hc11 h
        refine lv_iload hx hb dX2_between_70 (lv_at hl 2 rfl) ?_
        refine lv_iload hx hb dX2_between_72 (lv_at hl 0 rfl) ?_
        refine lv_iload_n hx hb dX2_between_74 rfl (lv_at hl 6 rfl) ?_
        refine lv_iload hx hb dX2_between_75 (lv_at hl 3 rfl) ?_
        refine lv_isub hx hb dX2_between_77 ?_
        refine lv_imul hx hb dX2_between_78 ?_
        refine lv_iload hx hb dX2_between_79 (lv_at hl 1 rfl) ?_
        obtain ⟨hz12, h⟩ := gZ_e h
        refine lv_idiv hx hb dX2_between_81 hz12 ?_
        refine lv_iadd hx hb dX2_between_82 ?_
        refine lv_goto (tgt := 88) hx hb dX2_between_83 (by decide) ?_
        obtain rfl := sm_e h
        exact rx_i hx hb hr  hP hK hD hS dX2_between_88 hlocks
    · replace h := if_e hc2 h
      refine lv_iconst (v := (0 : Int32)) hx hb dX2_between_13 (by decide) ?_
      obtain rfl := sm_e h
      exact rx_i hx hb hr  hP hK hD hS dX2_between_14 hlocks
-- X2_valueAt
def f_X2_valueAt_b21 (n_h : Nat) (v_size : Int32) (v_firsts_A : Nat → Int32) (v_seconds_A : Nat → Int32) (p0 : Int32) (p1 : Int32) : Nat → Int32 → Option (Int32)
  | 0, _ => none
  | k + 1, x3 =>
    (if v_size ≤ x3 then Option.bind (f_X2_second n_h v_size v_seconds_A (v_size - (1 : Int32))) (fun u4 => some (u4 * p1))
    else gA x3 n_h ((if ((v_firsts_A (Int32.toNatClampNeg x3)) * p1) < p0 then nm (x3 + (1 : Int32)) (fun t7 => (f_X2_valueAt_b21 n_h v_size v_firsts_A v_seconds_A p0 p1 k t7))
    else Option.bind (f_X2_between n_h v_size v_firsts_A v_seconds_A x3 p0 p1) (fun u8 => some u8))))
def f_X2_valueAt (N : Nat) (n_h : Nat) (v_size : Int32) (v_firsts_A : Nat → Int32) (v_seconds_A : Nat → Int32) (p0 : Int32) (p1 : Int32) : Option (Int32) :=
  Option.bind (f_X2_first n_h v_size v_firsts_A (0 : Int32)) (fun u1 => (if (u1 * p1) < p0 then (f_X2_valueAt_b21 n_h v_size v_firsts_A v_seconds_A p0 p1 N (1 : Int32))
    else Option.bind (f_X2_second n_h v_size v_seconds_A (0 : Int32)) (fun u9 => some (u9 * p1))))
theorem q_X2_valueAt_1 : (.fieldLink RX2 24 "SpringBalance$Pairs" "size" "I" : Cond) ∈ wsX2_valueAt := List.mem_of_getElem? (i := 1) (by decide +kernel)
set_option maxRecDepth 20000 in
theorem in_X2_valueAt_X2 : ∀ w ∈ u_ws RX2 TX2 3, w ∈ wsX2_valueAt := by decide +kernel
theorem q_X2_valueAt_2 : (.fieldLink RX2 15 "SpringBalance$Pairs" "firsts" "[I" : Cond) ∈ wsX2_valueAt := List.mem_of_getElem? (i := 2) (by decide +kernel)
set_option maxHeartbeats 8000000 in
set_option maxRecDepth 100000 in
theorem k_X2_valueAt (l : Launch) (D : va_G) (cI cC cJ cB : ClassId) (a_h a_h_firsts a_h_seconds : Nat) (n_h : Nat) (v_size : Int32) (v_firsts_A : Nat → Int32) (v_seconds_A : Nat → Int32) (N : Nat) (p0 : Int32) (p1 : Int32) (sz : Nat) (u : Int32) (hu : f_X2_valueAt N n_h v_size v_firsts_A v_seconds_A p0 p1 = some u) :
    Met l yX2_valueAt wsX2_valueAt ({ frames := 1, cells := 0, slots := 0, locals := 27 } : Room) (va_Pc [.ref a_h, .int p0, .int p1] (PreW D (ty4 cI cC cJ cB) sz [(a_h, .inr (2, [.ref a_h_firsts, .ref a_h_seconds, .int v_size])), (a_h_firsts, .inl (cI, n_h, .inl v_firsts_A)), (a_h_seconds, .inl (cI, n_h, .inl v_seconds_A))]))
      (QI D (ty4 cI cC cJ cB) (va_A [(a_h, .inr (2, [.ref a_h_firsts, .ref a_h_seconds, .int v_size])), (a_h_firsts, .inl (cI, n_h, .inl v_firsts_A)), (a_h_seconds, .inl (cI, n_h, .inl v_seconds_A))] sz) [(a_h, .inr (2, [.ref a_h_firsts, .ref a_h_seconds, .int v_size])), (a_h_firsts, .inl (cI, n_h, .inl v_firsts_A)), (a_h_seconds, .inl (cI, n_h, .inl v_seconds_A))] u) 0 0 (va_A [(a_h, .inr (2, [.ref a_h_firsts, .ref a_h_seconds, .int v_size])), (a_h_firsts, .inl (cI, n_h, .inl v_firsts_A)), (a_h_seconds, .inl (cI, n_h, .inl v_seconds_A))] sz) := by
  refine met_go (y := yX2_valueAt) (wsy := wsX2_valueAt) (cc := cX2_valueAt) (maxL := 4) (ret := (some .int)) (av := [.ref a_h, .int p0, .int p1]) (Qc := fun A => QI D (ty4 cI cC cJ cB) A [(a_h, .inr (2, [.ref a_h_firsts, .ref a_h_seconds, .int v_size])), (a_h_firsts, .inl (cI, n_h, .inl v_firsts_A)), (a_h_seconds, .inl (cI, n_h, .inl v_seconds_A))] u) (by decide) rfl (Nat.le_of_ble_eq_true rfl) ?_
  intro p e s m below meth c A ls hx hb hr hml hown hts hlocks hnm hN hK hP hD hS hA hl
  have h := hu
  clear hu
  unfold f_X2_valueAt at h
  have hl : lv_has ls 4 [(0, .ref a_h), (1, .int p0), (2, .int p1)] := hl
  have B21 : ∀ (k : Nat) (x3 : Int32) (H : Heap) (locs : List Loc) (ls : Array Slot), f_X2_valueAt_b21 n_h v_size v_firsts_A v_seconds_A p0 p1 k x3 = some u → va_P D vwCl [(a_h, .inr (2, [.ref a_h_firsts, .ref a_h_seconds, .int v_size])), (a_h_firsts, .inl (cI, n_h, .inl v_firsts_A)), (a_h_seconds, .inl (cI, n_h, .inl v_seconds_A))] H → va_D A [(a_h, .inr (2, [.ref a_h_firsts, .ref a_h_seconds, .int v_size])), (a_h_firsts, .inl (cI, n_h, .inl v_firsts_A)), (a_h_seconds, .inl (cI, n_h, .inl v_seconds_A))] → va_S A s.heap H locs → lv_has ls 4 [(0, .ref a_h), (1, .int p0), (2, .int p1), (3, .int x3)] → W p l e ({ frames := 1, cells := 0, slots := 0, locals := 27 } : Room) s m ([.ref a_h, .int p0, .int p1] : List Value).toArray below meth c H locs 0 0 (MQ below (QI D (ty4 cI cC cJ cB) A [(a_h, .inr (2, [.ref a_h_firsts, .ref a_h_seconds, .int v_size])), (a_h_firsts, .inl (cI, n_h, .inl v_firsts_A)), (a_h_seconds, .inl (cI, n_h, .inl v_seconds_A))] u) ([.ref a_h, .int p0, .int p1] : List Value).toArray s 0 0 A) (F0 m 21 ls []) := by
    intro k
    induction k with
    | zero =>
      intro x3 H locs ls h
      exact nomatch (show (none : Option (Int32)) = some u from h)
    | succ k ih =>
      intro x3 H locs ls h hP hD hS hl
      rw [f_X2_valueAt_b21.eq_2] at h
      refine lv_iload_n hx hb dX2_valueAt_21 rfl (lv_at hl 3 rfl) ?_
      refine lv_aload_n hx hb dX2_valueAt_22 rfl (lv_at hl 0 rfl) ?_
      refine va_get (D := D) (ci := 2) (v := .int v_size) (C := RX2) (T := TX2) (N := 3) hx hb hts in_X2_valueAt_X2 hown hK hP 0 rfl rfl 2 (by decide) (hts _ q_X2_valueAt_1) (fun _ h9 => h9) rfl dX2_valueAt_23 ?_
      refine lv_icmp_ge (tgt := 55) hx hb dX2_valueAt_26 (by decide) (fun hc3 => ?_) (fun hc3 => ?_)
      · replace h := it_e hc3 h
        refine lv_aload_n hx hb dX2_valueAt_55 rfl (lv_at hl 0 rfl) ?_
        refine lv_aload_n hx hb dX2_valueAt_56 rfl (lv_at hl 0 rfl) ?_
        refine va_get (D := D) (ci := 2) (v := .int v_size) (C := RX2) (T := TX2) (N := 3) hx hb hts in_X2_valueAt_X2 hown hK hP 0 rfl rfl 2 (by decide) (hts _ q_X2_valueAt_1) (fun _ h9 => h9) rfl dX2_valueAt_57 ?_
        refine lv_iconst (v := (1 : Int32)) hx hb dX2_valueAt_60 (by decide) ?_
        refine lv_isub hx hb dX2_valueAt_61 ?_
        obtain ⟨u4, hu4, h⟩ := bd_e h
        refine kx_i (mc := 0) (ms := 0) (wr := [(a_h_firsts, .inl (cI, n_h, .inl v_firsts_A))]) (ws2 := [(a_h, .inr (2, [.ref a_h_firsts, .ref a_h_seconds, .int v_size])), (a_h_firsts, .inl (cI, n_h, .inl v_firsts_A)), (a_h_seconds, .inl (cI, n_h, .inl v_seconds_A))]) (va_runV (As := [.int (v_size - (1 : Int32))]) (rest := []) ⟨hx, hb, hml, hown, hts⟩ (k_X2_second l D cI cC cJ cB a_h a_h_firsts a_h_seconds n_h v_size v_seconds_A N (v_size - (1 : Int32)) H.size _ hu4) (cwV 1 hts gX2_valueAt_X2_second rfl rfl rfl (by decide +kernel) ⟨Nat.le_of_ble_eq_true rfl, Nat.le_of_ble_eq_true rfl⟩) (pv_V hP hD hK hN [0, 2] rfl rfl (ci := 2) rfl 0 rfl) rfl rfl hl.1 rfl (lv_room (Nat.le_of_ble_eq_true rfl)) dX2_valueAt_62 ⟨Nat.zero_le _, Nat.zero_le _⟩) hP hD hS hA [0, 2] [1] [1, 0, 2] rfl rfl rfl rfl rfl rfl (fun H locs hP hD hS => ?_)
        refine lv_iload_n hx hb dX2_valueAt_65 rfl (lv_at hl 2 rfl) ?_
        refine lv_imul hx hb dX2_valueAt_66 ?_
        obtain rfl := sm_e h
        exact rx_i hx hb hr  hP hK hD hS dX2_valueAt_67 hlocks
      · replace h := if_e hc3 h
        refine lv_iload_n hx hb dX2_valueAt_29 rfl (lv_at hl 1 rfl) ?_
        refine lv_aload_n hx hb dX2_valueAt_30 rfl (lv_at hl 0 rfl) ?_
        refine va_get (D := D) (ci := 2) (v := .ref a_h_firsts) (C := RX2) (T := TX2) (N := 3) hx hb hts in_X2_valueAt_X2 hown hK hP 0 rfl rfl 0 (by decide) (hts _ q_X2_valueAt_2) (fun _ h9 => h9) rfl dX2_valueAt_31 ?_
        refine lv_iload_n hx hb dX2_valueAt_34 rfl (lv_at hl 3 rfl) ?_
        obtain ⟨hi5, h⟩ := gA_e h
        refine wx_iald hx hb hK hP 1 0 rfl rfl (Int32.toNatClampNeg x3) rfl hi5 dX2_valueAt_35 ?_
        refine lv_iload_n hx hb dX2_valueAt_36 rfl (lv_at hl 2 rfl) ?_
        refine lv_imul hx hb dX2_valueAt_37 ?_
        refine lv_icmp_gt (tgt := 49) hx hb dX2_valueAt_38 (by decide) (fun hc6 => ?_) (fun hc6 => ?_)
        · replace h := it_e hc6 h
          obtain ⟨t7, et7, h⟩ := nm_x h
          refine lv_iinc (v := t7) (lv' := [(3, .int t7), (0, .ref a_h), (1, .int p0), (2, .int p1)]) hx hb dX2_valueAt_49 hl (k := 3) rfl (by rw [et7]; rfl) (by decide) rfl (fun ls hl => ?_)
          refine lv_goto (tgt := 21) hx hb dX2_valueAt_52 (by decide) ?_
          exact ih t7 _ _ _ h hP hD hS (lv_sub hl [1, 2, 3, 0] rfl)
        · replace h := if_e hc6 h
          refine lv_aload_n hx hb dX2_valueAt_41 rfl (lv_at hl 0 rfl) ?_
          refine lv_iload_n hx hb dX2_valueAt_42 rfl (lv_at hl 3 rfl) ?_
          refine lv_iload_n hx hb dX2_valueAt_43 rfl (lv_at hl 1 rfl) ?_
          refine lv_iload_n hx hb dX2_valueAt_44 rfl (lv_at hl 2 rfl) ?_
          obtain ⟨u8, hu8, h⟩ := bd_e h
          refine kx_i (mc := 0) (ms := 0) (wr := []) (ws2 := [(a_h, .inr (2, [.ref a_h_firsts, .ref a_h_seconds, .int v_size])), (a_h_firsts, .inl (cI, n_h, .inl v_firsts_A)), (a_h_seconds, .inl (cI, n_h, .inl v_seconds_A))]) (va_runV (As := [.int x3, .int p0, .int p1]) (rest := []) ⟨hx, hb, hml, hown, hts⟩ (k_X2_between l D cI cC cJ cB a_h a_h_firsts a_h_seconds n_h v_size v_firsts_A v_seconds_A N x3 p0 p1 H.size _ hu8) (cwV 3 hts gX2_valueAt_X2_between rfl rfl rfl (by decide +kernel) ⟨Nat.le_of_ble_eq_true rfl, Nat.le_of_ble_eq_true rfl⟩) (pv_V hP hD hK hN [0, 1, 2] rfl rfl (ci := 2) rfl 0 rfl) rfl rfl hl.1 rfl (lv_room (Nat.le_of_ble_eq_true rfl)) dX2_valueAt_45 ⟨Nat.zero_le _, Nat.zero_le _⟩) hP hD hS hA [0, 1, 2] [] [0, 1, 2] rfl rfl rfl rfl rfl rfl (fun H locs hP hD hS => ?_)
          obtain rfl := sm_e h
          exact rx_i hx hb hr  hP hK hD hS dX2_valueAt_48 hlocks
  refine lv_iload_n hx hb dX2_valueAt_0 rfl (lv_at hl 1 rfl) ?_
  refine lv_aload_n hx hb dX2_valueAt_1 rfl (lv_at hl 0 rfl) ?_
  refine lv_iconst (v := (0 : Int32)) hx hb dX2_valueAt_2 (by decide) ?_
  obtain ⟨u1, hu1, h⟩ := bd_e h
  refine kx_i (mc := 0) (ms := 0) (wr := [(a_h_seconds, .inl (cI, n_h, .inl v_seconds_A))]) (ws2 := [(a_h, .inr (2, [.ref a_h_firsts, .ref a_h_seconds, .int v_size])), (a_h_firsts, .inl (cI, n_h, .inl v_firsts_A)), (a_h_seconds, .inl (cI, n_h, .inl v_seconds_A))]) (va_runV (As := [.int (0 : Int32)]) (rest := [.int p0]) ⟨hx, hb, hml, hown, hts⟩ (k_X2_first l D cI cC cJ cB a_h a_h_firsts a_h_seconds n_h v_size v_firsts_A N (0 : Int32) s.heap.size _ hu1) (cwV 1 hts gX2_valueAt_X2_first rfl rfl rfl (by decide +kernel) ⟨Nat.le_of_ble_eq_true rfl, Nat.le_of_ble_eq_true rfl⟩) (pv_V hP hD hK hN [0, 1] rfl rfl (ci := 2) rfl 0 rfl) rfl rfl hl.1 rfl (lv_room (Nat.le_of_ble_eq_true rfl)) dX2_valueAt_3 ⟨Nat.zero_le _, Nat.zero_le _⟩) hP hD hS hA [0, 1] [2] [1, 2, 0] rfl rfl rfl rfl rfl rfl (fun H locs hP hD hS => ?_)
  refine lv_iload_n hx hb dX2_valueAt_6 rfl (lv_at hl 2 rfl) ?_
  refine lv_imul hx hb dX2_valueAt_7 ?_
  refine lv_icmp_gt (tgt := 19) hx hb dX2_valueAt_8 (by decide) (fun hc2 => ?_) (fun hc2 => ?_)
  · replace h := it_e hc2 h
    refine lv_iconst (v := (1 : Int32)) hx hb dX2_valueAt_19 (by decide) ?_
    refine lv_istore_n (lv' := [(3, .int (1 : Int32)), (0, .ref a_h), (1, .int p0), (2, .int p1)]) hx hb dX2_valueAt_20 rfl hl (by decide) rfl (fun ls hl => ?_)
    exact B21 N (1 : Int32) _ _ _ h hP hD hS (lv_sub hl [1, 2, 3, 0] rfl)
  · replace h := if_e hc2 h
    refine lv_aload_n hx hb dX2_valueAt_11 rfl (lv_at hl 0 rfl) ?_
    refine lv_iconst (v := (0 : Int32)) hx hb dX2_valueAt_12 (by decide) ?_
    obtain ⟨u9, hu9, h⟩ := bd_e h
    refine kx_i (mc := 0) (ms := 0) (wr := [(a_h_firsts, .inl (cI, n_h, .inl v_firsts_A))]) (ws2 := [(a_h, .inr (2, [.ref a_h_firsts, .ref a_h_seconds, .int v_size])), (a_h_firsts, .inl (cI, n_h, .inl v_firsts_A)), (a_h_seconds, .inl (cI, n_h, .inl v_seconds_A))]) (va_runV (As := [.int (0 : Int32)]) (rest := []) ⟨hx, hb, hml, hown, hts⟩ (k_X2_second l D cI cC cJ cB a_h a_h_firsts a_h_seconds n_h v_size v_seconds_A N (0 : Int32) H.size _ hu9) (cwV 1 hts gX2_valueAt_X2_second rfl rfl rfl (by decide +kernel) ⟨Nat.le_of_ble_eq_true rfl, Nat.le_of_ble_eq_true rfl⟩) (pv_V hP hD hK hN [0, 2] rfl rfl (ci := 2) rfl 0 rfl) rfl rfl hl.1 rfl (lv_room (Nat.le_of_ble_eq_true rfl)) dX2_valueAt_13 ⟨Nat.zero_le _, Nat.zero_le _⟩) hP hD hS hA [0, 2] [1] [1, 0, 2] rfl rfl rfl rfl rfl rfl (fun H locs hP hD hS => ?_)
    refine lv_iload_n hx hb dX2_valueAt_16 rfl (lv_at hl 2 rfl) ?_
    refine lv_imul hx hb dX2_valueAt_17 ?_
    obtain rfl := sm_e h
    exact rx_i hx hb hr  hP hK hD hS dX2_valueAt_18 hlocks
