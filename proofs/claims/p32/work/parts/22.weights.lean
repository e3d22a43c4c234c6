-- X6_copyFrom
def f_X6_copyFrom (v_masses_A : Nat → Int32) (v_errors_A : Nat → Int32) (v_variances_A : Nat → Int32) (v_parents_A : Nat → Int32) (v_onPan_A : Nat → Int32) (v_o0_size : Int32) (v_o0_masses_A : Nat → Int32) (v_o0_errors_A : Nat → Int32) (v_o0_variances_A : Nat → Int32) (v_o0_parents_A : Nat → Int32) (v_o0_onPan_A : Nat → Int32) : Option (Int32 × (Nat → Int32) × (Nat → Int32) × (Nat → Int32) × (Nat → Int32) × (Nat → Int32)) :=
  gT (¬ (0 : Int32) < 0 ∧ ¬ (0 : Int32) < 0 ∧ ¬ (8 : Int32) < 0 ∧ Int32.toNatClampNeg (0 : Int32) + Int32.toNatClampNeg (8 : Int32) ≤ 8 ∧ Int32.toNatClampNeg (0 : Int32) + Int32.toNatClampNeg (8 : Int32) ≤ 8) (nm (va_cpy v_o0_masses_A v_masses_A (Int32.toNatClampNeg (0 : Int32)) (Int32.toNatClampNeg (0 : Int32)) (Int32.toNatClampNeg (8 : Int32))) (fun g2 => gT (¬ (0 : Int32) < 0 ∧ ¬ (0 : Int32) < 0 ∧ ¬ (8 : Int32) < 0 ∧ Int32.toNatClampNeg (0 : Int32) + Int32.toNatClampNeg (8 : Int32) ≤ 8 ∧ Int32.toNatClampNeg (0 : Int32) + Int32.toNatClampNeg (8 : Int32) ≤ 8) (nm (va_cpy v_o0_errors_A v_errors_A (Int32.toNatClampNeg (0 : Int32)) (Int32.toNatClampNeg (0 : Int32)) (Int32.toNatClampNeg (8 : Int32))) (fun g4 => gT (¬ (0 : Int32) < 0 ∧ ¬ (0 : Int32) < 0 ∧ ¬ (8 : Int32) < 0 ∧ Int32.toNatClampNeg (0 : Int32) + Int32.toNatClampNeg (8 : Int32) ≤ 8 ∧ Int32.toNatClampNeg (0 : Int32) + Int32.toNatClampNeg (8 : Int32) ≤ 8) (nm (va_cpy v_o0_variances_A v_variances_A (Int32.toNatClampNeg (0 : Int32)) (Int32.toNatClampNeg (0 : Int32)) (Int32.toNatClampNeg (8 : Int32))) (fun g6 => gT (¬ (0 : Int32) < 0 ∧ ¬ (0 : Int32) < 0 ∧ ¬ (8 : Int32) < 0 ∧ Int32.toNatClampNeg (0 : Int32) + Int32.toNatClampNeg (8 : Int32) ≤ 8 ∧ Int32.toNatClampNeg (0 : Int32) + Int32.toNatClampNeg (8 : Int32) ≤ 8) (nm (va_cpy v_o0_parents_A v_parents_A (Int32.toNatClampNeg (0 : Int32)) (Int32.toNatClampNeg (0 : Int32)) (Int32.toNatClampNeg (8 : Int32))) (fun g8 => gT (¬ (0 : Int32) < 0 ∧ ¬ (0 : Int32) < 0 ∧ ¬ (8 : Int32) < 0 ∧ Int32.toNatClampNeg (0 : Int32) + Int32.toNatClampNeg (8 : Int32) ≤ 8 ∧ Int32.toNatClampNeg (0 : Int32) + Int32.toNatClampNeg (8 : Int32) ≤ 8) (nm (va_cpy v_o0_onPan_A v_onPan_A (Int32.toNatClampNeg (0 : Int32)) (Int32.toNatClampNeg (0 : Int32)) (Int32.toNatClampNeg (8 : Int32))) (fun g10 => some (v_o0_size, g2, g4, g6, g8, g10)))))))))))
theorem q_X6_copyFrom_1 : (.fieldLink RX6 27 "SpringBalance$Weights" "size" "I" : Cond) ∈ wsX6_copyFrom := List.mem_of_getElem? (i := 1) (by decide +kernel)
set_option maxRecDepth 20000 in
theorem in_X6_copyFrom_X6 : ∀ w ∈ u_ws RX6 TX6 6, w ∈ wsX6_copyFrom := by decide +kernel
theorem q_X6_copyFrom_2 : (.fieldLink RX6 9 "SpringBalance$Weights" "masses" "[I" : Cond) ∈ wsX6_copyFrom := List.mem_of_getElem? (i := 2) (by decide +kernel)
theorem q_X6_copyFrom_3 : (.methodLink RX6 31 arraycopyName : Cond) ∈ wsX6_copyFrom := List.mem_of_getElem? (i := 3) (by decide +kernel)
theorem q_X6_copyFrom_4 : (.native arraycopyName : Cond) ∈ wsX6_copyFrom := List.mem_of_getElem? (i := 4) (by decide +kernel)
theorem q_X6_copyFrom_5 : (.static arraycopyName : Cond) ∈ wsX6_copyFrom := List.mem_of_getElem? (i := 5) (by decide +kernel)
theorem q_X6_copyFrom_6 : (.initialized "java/lang/System" : Cond) ∈ wsX6_copyFrom := List.mem_of_getElem? (i := 6) (by decide +kernel)
theorem q_X6_copyFrom_7 : (.fieldLink RX6 15 "SpringBalance$Weights" "errors" "[I" : Cond) ∈ wsX6_copyFrom := List.mem_of_getElem? (i := 7) (by decide +kernel)
theorem q_X6_copyFrom_8 : (.fieldLink RX6 18 "SpringBalance$Weights" "variances" "[I" : Cond) ∈ wsX6_copyFrom := List.mem_of_getElem? (i := 8) (by decide +kernel)
theorem q_X6_copyFrom_9 : (.fieldLink RX6 21 "SpringBalance$Weights" "parents" "[I" : Cond) ∈ wsX6_copyFrom := List.mem_of_getElem? (i := 9) (by decide +kernel)
theorem q_X6_copyFrom_10 : (.fieldLink RX6 24 "SpringBalance$Weights" "onPan" "[I" : Cond) ∈ wsX6_copyFrom := List.mem_of_getElem? (i := 10) (by decide +kernel)
set_option maxHeartbeats 8000000 in
set_option maxRecDepth 100000 in
theorem k_X6_copyFrom (l : Launch) (D : va_G) (cI cC cJ cB : ClassId) (a_h a_h_masses a_h_errors a_h_variances a_h_parents a_h_onPan a_o0 a_o0_masses a_o0_errors a_o0_variances a_o0_parents a_o0_onPan : Nat) (v_size : Int32) (v_masses_A : Nat → Int32) (v_errors_A : Nat → Int32) (v_variances_A : Nat → Int32) (v_parents_A : Nat → Int32) (v_onPan_A : Nat → Int32) (v_o0_size : Int32) (v_o0_masses_A : Nat → Int32) (v_o0_errors_A : Nat → Int32) (v_o0_variances_A : Nat → Int32) (v_o0_parents_A : Nat → Int32) (v_o0_onPan_A : Nat → Int32) (N : Nat) (sz : Nat) (u : Int32 × (Nat → Int32) × (Nat → Int32) × (Nat → Int32) × (Nat → Int32) × (Nat → Int32)) (hu : f_X6_copyFrom v_masses_A v_errors_A v_variances_A v_parents_A v_onPan_A v_o0_size v_o0_masses_A v_o0_errors_A v_o0_variances_A v_o0_parents_A v_o0_onPan_A = some u) :
    Met l yX6_copyFrom wsX6_copyFrom ({ frames := 1, cells := 0, slots := 0, locals := 40 } : Room) (va_Pc [.ref a_h, .ref a_o0] (PreW D (ty4 cI cC cJ cB) sz [(a_h, .inr (6, [.ref a_h_masses, .ref a_h_errors, .ref a_h_variances, .ref a_h_parents, .ref a_h_onPan, .int v_size])), (a_h_masses, .inl (cI, 8, .inl v_masses_A)), (a_h_errors, .inl (cI, 8, .inl v_errors_A)), (a_h_variances, .inl (cI, 8, .inl v_variances_A)), (a_h_parents, .inl (cI, 8, .inl v_parents_A)), (a_h_onPan, .inl (cI, 8, .inl v_onPan_A)), (a_o0, .inr (6, [.ref a_o0_masses, .ref a_o0_errors, .ref a_o0_variances, .ref a_o0_parents, .ref a_o0_onPan, .int v_o0_size])), (a_o0_masses, .inl (cI, 8, .inl v_o0_masses_A)), (a_o0_errors, .inl (cI, 8, .inl v_o0_errors_A)), (a_o0_variances, .inl (cI, 8, .inl v_o0_variances_A)), (a_o0_parents, .inl (cI, 8, .inl v_o0_parents_A)), (a_o0_onPan, .inl (cI, 8, .inl v_o0_onPan_A))]))
      (QV D (ty4 cI cC cJ cB) (va_A [(a_h, .inr (6, [.ref a_h_masses, .ref a_h_errors, .ref a_h_variances, .ref a_h_parents, .ref a_h_onPan, .int v_size])), (a_h_masses, .inl (cI, 8, .inl v_masses_A)), (a_h_errors, .inl (cI, 8, .inl v_errors_A)), (a_h_variances, .inl (cI, 8, .inl v_variances_A)), (a_h_parents, .inl (cI, 8, .inl v_parents_A)), (a_h_onPan, .inl (cI, 8, .inl v_onPan_A)), (a_o0, .inr (6, [.ref a_o0_masses, .ref a_o0_errors, .ref a_o0_variances, .ref a_o0_parents, .ref a_o0_onPan, .int v_o0_size])), (a_o0_masses, .inl (cI, 8, .inl v_o0_masses_A)), (a_o0_errors, .inl (cI, 8, .inl v_o0_errors_A)), (a_o0_variances, .inl (cI, 8, .inl v_o0_variances_A)), (a_o0_parents, .inl (cI, 8, .inl v_o0_parents_A)), (a_o0_onPan, .inl (cI, 8, .inl v_o0_onPan_A))] sz) [(a_h, .inr (6, [.ref a_h_masses, .ref a_h_errors, .ref a_h_variances, .ref a_h_parents, .ref a_h_onPan, .int u.1])), (a_h_masses, .inl (cI, 8, .inl u.2.1)), (a_h_errors, .inl (cI, 8, .inl u.2.2.1)), (a_h_variances, .inl (cI, 8, .inl u.2.2.2.1)), (a_h_parents, .inl (cI, 8, .inl u.2.2.2.2.1)), (a_h_onPan, .inl (cI, 8, .inl u.2.2.2.2.2)), (a_o0, .inr (6, [.ref a_o0_masses, .ref a_o0_errors, .ref a_o0_variances, .ref a_o0_parents, .ref a_o0_onPan, .int v_o0_size])), (a_o0_masses, .inl (cI, 8, .inl v_o0_masses_A)), (a_o0_errors, .inl (cI, 8, .inl v_o0_errors_A)), (a_o0_variances, .inl (cI, 8, .inl v_o0_variances_A)), (a_o0_parents, .inl (cI, 8, .inl v_o0_parents_A)), (a_o0_onPan, .inl (cI, 8, .inl v_o0_onPan_A))]) 0 0 (va_A [(a_h, .inr (6, [.ref a_h_masses, .ref a_h_errors, .ref a_h_variances, .ref a_h_parents, .ref a_h_onPan, .int v_size])), (a_h_masses, .inl (cI, 8, .inl v_masses_A)), (a_h_errors, .inl (cI, 8, .inl v_errors_A)), (a_h_variances, .inl (cI, 8, .inl v_variances_A)), (a_h_parents, .inl (cI, 8, .inl v_parents_A)), (a_h_onPan, .inl (cI, 8, .inl v_onPan_A)), (a_o0, .inr (6, [.ref a_o0_masses, .ref a_o0_errors, .ref a_o0_variances, .ref a_o0_parents, .ref a_o0_onPan, .int v_o0_size])), (a_o0_masses, .inl (cI, 8, .inl v_o0_masses_A)), (a_o0_errors, .inl (cI, 8, .inl v_o0_errors_A)), (a_o0_variances, .inl (cI, 8, .inl v_o0_variances_A)), (a_o0_parents, .inl (cI, 8, .inl v_o0_parents_A)), (a_o0_onPan, .inl (cI, 8, .inl v_o0_onPan_A))] sz) := by
  refine met_go (y := yX6_copyFrom) (wsy := wsX6_copyFrom) (cc := cX6_copyFrom) (maxL := 2) (ret := none) (av := [.ref a_h, .ref a_o0]) (Qc := fun A => QV D (ty4 cI cC cJ cB) A [(a_h, .inr (6, [.ref a_h_masses, .ref a_h_errors, .ref a_h_variances, .ref a_h_parents, .ref a_h_onPan, .int u.1])), (a_h_masses, .inl (cI, 8, .inl u.2.1)), (a_h_errors, .inl (cI, 8, .inl u.2.2.1)), (a_h_variances, .inl (cI, 8, .inl u.2.2.2.1)), (a_h_parents, .inl (cI, 8, .inl u.2.2.2.2.1)), (a_h_onPan, .inl (cI, 8, .inl u.2.2.2.2.2)), (a_o0, .inr (6, [.ref a_o0_masses, .ref a_o0_errors, .ref a_o0_variances, .ref a_o0_parents, .ref a_o0_onPan, .int v_o0_size])), (a_o0_masses, .inl (cI, 8, .inl v_o0_masses_A)), (a_o0_errors, .inl (cI, 8, .inl v_o0_errors_A)), (a_o0_variances, .inl (cI, 8, .inl v_o0_variances_A)), (a_o0_parents, .inl (cI, 8, .inl v_o0_parents_A)), (a_o0_onPan, .inl (cI, 8, .inl v_o0_onPan_A))]) (by decide) rfl (Nat.le_of_ble_eq_true rfl) ?_
  intro p e s m below meth c A ls hx hb hr hml hown hts hlocks hnm hN hK hP hD hS hA hl
  have h := hu
  clear hu
  unfold f_X6_copyFrom at h
  have hl : lv_has ls 2 [(0, .ref a_h), (1, .ref a_o0)] := hl
  refine lv_aload_n hx hb dX6_copyFrom_0 rfl (lv_at hl 0 rfl) ?_
  refine lv_aload_n hx hb dX6_copyFrom_1 rfl (lv_at hl 1 rfl) ?_
  refine va_get (D := D) (ci := 6) (v := .int v_o0_size) (C := RX6) (T := TX6) (N := 6) hx hb hts in_X6_copyFrom_X6 hown hK hP 6 rfl rfl 5 (by decide) (hts _ q_X6_copyFrom_1) (fun _ h9 => h9) rfl dX6_copyFrom_2 ?_
  refine va_put (D := D) (ci := 6) (v := .int v_o0_size) (ty := .int) (C := RX6) (T := TX6) (N := 6) hx hb hts in_X6_copyFrom_X6 tyX6 tyX6_ok nmX6 hown hK hP hD hS 0 rfl rfl 5 (by decide) (hts _ q_X6_copyFrom_1) (fun _ h9 => h9) rfl (by decide +kernel) rfl rfl (Nat.le_of_ble_eq_true rfl) dX6_copyFrom_5 (fun H locs hP hD hS => ?_)
  have hP : va_P D vwCl [(a_h, .inr (6, [.ref a_h_masses, .ref a_h_errors, .ref a_h_variances, .ref a_h_parents, .ref a_h_onPan, .int v_o0_size])), (a_h_masses, .inl (cI, 8, .inl v_masses_A)), (a_h_errors, .inl (cI, 8, .inl v_errors_A)), (a_h_variances, .inl (cI, 8, .inl v_variances_A)), (a_h_parents, .inl (cI, 8, .inl v_parents_A)), (a_h_onPan, .inl (cI, 8, .inl v_onPan_A)), (a_o0, .inr (6, [.ref a_o0_masses, .ref a_o0_errors, .ref a_o0_variances, .ref a_o0_parents, .ref a_o0_onPan, .int v_o0_size])), (a_o0_masses, .inl (cI, 8, .inl v_o0_masses_A)), (a_o0_errors, .inl (cI, 8, .inl v_o0_errors_A)), (a_o0_variances, .inl (cI, 8, .inl v_o0_variances_A)), (a_o0_parents, .inl (cI, 8, .inl v_o0_parents_A)), (a_o0_onPan, .inl (cI, 8, .inl v_o0_onPan_A))] H := hP
  have hD : va_D A [(a_h, .inr (6, [.ref a_h_masses, .ref a_h_errors, .ref a_h_variances, .ref a_h_parents, .ref a_h_onPan, .int v_o0_size])), (a_h_masses, .inl (cI, 8, .inl v_masses_A)), (a_h_errors, .inl (cI, 8, .inl v_errors_A)), (a_h_variances, .inl (cI, 8, .inl v_variances_A)), (a_h_parents, .inl (cI, 8, .inl v_parents_A)), (a_h_onPan, .inl (cI, 8, .inl v_onPan_A)), (a_o0, .inr (6, [.ref a_o0_masses, .ref a_o0_errors, .ref a_o0_variances, .ref a_o0_parents, .ref a_o0_onPan, .int v_o0_size])), (a_o0_masses, .inl (cI, 8, .inl v_o0_masses_A)), (a_o0_errors, .inl (cI, 8, .inl v_o0_errors_A)), (a_o0_variances, .inl (cI, 8, .inl v_o0_variances_A)), (a_o0_parents, .inl (cI, 8, .inl v_o0_parents_A)), (a_o0_onPan, .inl (cI, 8, .inl v_o0_onPan_A))] := hD
  refine lv_aload_n hx hb dX6_copyFrom_8 rfl (lv_at hl 1 rfl) ?_
  refine va_get (D := D) (ci := 6) (v := .ref a_o0_masses) (C := RX6) (T := TX6) (N := 6) hx hb hts in_X6_copyFrom_X6 hown hK hP 6 rfl rfl 0 (by decide) (hts _ q_X6_copyFrom_2) (fun _ h9 => h9) rfl dX6_copyFrom_9 ?_
  refine lv_iconst (v := (0 : Int32)) hx hb dX6_copyFrom_12 (by decide) ?_
  refine lv_aload_n hx hb dX6_copyFrom_13 rfl (lv_at hl 0 rfl) ?_
  refine va_get (D := D) (ci := 6) (v := .ref a_h_masses) (C := RX6) (T := TX6) (N := 6) hx hb hts in_X6_copyFrom_X6 hown hK hP 0 rfl rfl 0 (by decide) (hts _ q_X6_copyFrom_2) (fun _ h9 => h9) rfl dX6_copyFrom_14 ?_
  refine lv_iconst (v := (0 : Int32)) hx hb dX6_copyFrom_17 (by decide) ?_
  refine lv_bipush (v := (8 : Int32)) hx hb dX6_copyFrom_18 (by decide) ?_
  obtain ⟨hz1, h⟩ := gT_e h
  refine va_copyi (ty := .int) hx hb (hml.trans hl.1.symm) hown (hts _ q_X6_copyFrom_3) (hts _ q_X6_copyFrom_4) (hts _ q_X6_copyFrom_5) (hts _ q_X6_copyFrom_6) hK hP hD hS 7 1 0 0 rfl rfl rfl rfl rfl hz1.1 hz1.2.1 hz1.2.2.1 hz1.2.2.2.1 hz1.2.2.2.2 (fun _ _ => rfl) (by decide) (Nat.le_of_ble_eq_true rfl) dX6_copyFrom_20 (fun H locs hP hD hS => ?_)
  obtain ⟨g2, eg2, h⟩ := nm_x h
  have hP : va_P D vwCl [(a_h, .inr (6, [.ref a_h_masses, .ref a_h_errors, .ref a_h_variances, .ref a_h_parents, .ref a_h_onPan, .int v_o0_size])), (a_h_masses, .inl (cI, 8, .inl g2)), (a_h_errors, .inl (cI, 8, .inl v_errors_A)), (a_h_variances, .inl (cI, 8, .inl v_variances_A)), (a_h_parents, .inl (cI, 8, .inl v_parents_A)), (a_h_onPan, .inl (cI, 8, .inl v_onPan_A)), (a_o0, .inr (6, [.ref a_o0_masses, .ref a_o0_errors, .ref a_o0_variances, .ref a_o0_parents, .ref a_o0_onPan, .int v_o0_size])), (a_o0_masses, .inl (cI, 8, .inl v_o0_masses_A)), (a_o0_errors, .inl (cI, 8, .inl v_o0_errors_A)), (a_o0_variances, .inl (cI, 8, .inl v_o0_variances_A)), (a_o0_parents, .inl (cI, 8, .inl v_o0_parents_A)), (a_o0_onPan, .inl (cI, 8, .inl v_o0_onPan_A))] H := by rw [eg2]; exact hP
  have hD : va_D A [(a_h, .inr (6, [.ref a_h_masses, .ref a_h_errors, .ref a_h_variances, .ref a_h_parents, .ref a_h_onPan, .int v_o0_size])), (a_h_masses, .inl (cI, 8, .inl g2)), (a_h_errors, .inl (cI, 8, .inl v_errors_A)), (a_h_variances, .inl (cI, 8, .inl v_variances_A)), (a_h_parents, .inl (cI, 8, .inl v_parents_A)), (a_h_onPan, .inl (cI, 8, .inl v_onPan_A)), (a_o0, .inr (6, [.ref a_o0_masses, .ref a_o0_errors, .ref a_o0_variances, .ref a_o0_parents, .ref a_o0_onPan, .int v_o0_size])), (a_o0_masses, .inl (cI, 8, .inl v_o0_masses_A)), (a_o0_errors, .inl (cI, 8, .inl v_o0_errors_A)), (a_o0_variances, .inl (cI, 8, .inl v_o0_variances_A)), (a_o0_parents, .inl (cI, 8, .inl v_o0_parents_A)), (a_o0_onPan, .inl (cI, 8, .inl v_o0_onPan_A))] := by rw [eg2]; exact hD
  refine lv_aload_n hx hb dX6_copyFrom_23 rfl (lv_at hl 1 rfl) ?_
  refine va_get (D := D) (ci := 6) (v := .ref a_o0_errors) (C := RX6) (T := TX6) (N := 6) hx hb hts in_X6_copyFrom_X6 hown hK hP 6 rfl rfl 1 (by decide) (hts _ q_X6_copyFrom_7) (fun _ h9 => h9) rfl dX6_copyFrom_24 ?_
  refine lv_iconst (v := (0 : Int32)) hx hb dX6_copyFrom_27 (by decide) ?_
  refine lv_aload_n hx hb dX6_copyFrom_28 rfl (lv_at hl 0 rfl) ?_
  refine va_get (D := D) (ci := 6) (v := .ref a_h_errors) (C := RX6) (T := TX6) (N := 6) hx hb hts in_X6_copyFrom_X6 hown hK hP 0 rfl rfl 1 (by decide) (hts _ q_X6_copyFrom_7) (fun _ h9 => h9) rfl dX6_copyFrom_29 ?_
  refine lv_iconst (v := (0 : Int32)) hx hb dX6_copyFrom_32 (by decide) ?_
  refine lv_bipush (v := (8 : Int32)) hx hb dX6_copyFrom_33 (by decide) ?_
  obtain ⟨hz3, h⟩ := gT_e h
  refine va_copyi (ty := .int) hx hb (hml.trans hl.1.symm) hown (hts _ q_X6_copyFrom_3) (hts _ q_X6_copyFrom_4) (hts _ q_X6_copyFrom_5) (hts _ q_X6_copyFrom_6) hK hP hD hS 8 2 0 0 rfl rfl rfl rfl rfl hz3.1 hz3.2.1 hz3.2.2.1 hz3.2.2.2.1 hz3.2.2.2.2 (fun _ _ => rfl) (by decide) (Nat.le_of_ble_eq_true rfl) dX6_copyFrom_35 (fun H locs hP hD hS => ?_)
  obtain ⟨g4, eg4, h⟩ := nm_x h
  have hP : va_P D vwCl [(a_h, .inr (6, [.ref a_h_masses, .ref a_h_errors, .ref a_h_variances, .ref a_h_parents, .ref a_h_onPan, .int v_o0_size])), (a_h_masses, .inl (cI, 8, .inl g2)), (a_h_errors, .inl (cI, 8, .inl g4)), (a_h_variances, .inl (cI, 8, .inl v_variances_A)), (a_h_parents, .inl (cI, 8, .inl v_parents_A)), (a_h_onPan, .inl (cI, 8, .inl v_onPan_A)), (a_o0, .inr (6, [.ref a_o0_masses, .ref a_o0_errors, .ref a_o0_variances, .ref a_o0_parents, .ref a_o0_onPan, .int v_o0_size])), (a_o0_masses, .inl (cI, 8, .inl v_o0_masses_A)), (a_o0_errors, .inl (cI, 8, .inl v_o0_errors_A)), (a_o0_variances, .inl (cI, 8, .inl v_o0_variances_A)), (a_o0_parents, .inl (cI, 8, .inl v_o0_parents_A)), (a_o0_onPan, .inl (cI, 8, .inl v_o0_onPan_A))] H := by rw [eg4]; exact hP
  have hD : va_D A [(a_h, .inr (6, [.ref a_h_masses, .ref a_h_errors, .ref a_h_variances, .ref a_h_parents, .ref a_h_onPan, .int v_o0_size])), (a_h_masses, .inl (cI, 8, .inl g2)), (a_h_errors, .inl (cI, 8, .inl g4)), (a_h_variances, .inl (cI, 8, .inl v_variances_A)), (a_h_parents, .inl (cI, 8, .inl v_parents_A)), (a_h_onPan, .inl (cI, 8, .inl v_onPan_A)), (a_o0, .inr (6, [.ref a_o0_masses, .ref a_o0_errors, .ref a_o0_variances, .ref a_o0_parents, .ref a_o0_onPan, .int v_o0_size])), (a_o0_masses, .inl (cI, 8, .inl v_o0_masses_A)), (a_o0_errors, .inl (cI, 8, .inl v_o0_errors_A)), (a_o0_variances, .inl (cI, 8, .inl v_o0_variances_A)), (a_o0_parents, .inl (cI, 8, .inl v_o0_parents_A)), (a_o0_onPan, .inl (cI, 8, .inl v_o0_onPan_A))] := by rw [eg4]; exact hD
  refine lv_aload_n hx hb dX6_copyFrom_38 rfl (lv_at hl 1 rfl) ?_
  refine va_get (D := D) (ci := 6) (v := .ref a_o0_variances) (C := RX6) (T := TX6) (N := 6) hx hb hts in_X6_copyFrom_X6 hown hK hP 6 rfl rfl 2 (by decide) (hts _ q_X6_copyFrom_8) (fun _ h9 => h9) rfl dX6_copyFrom_39 ?_
  refine lv_iconst (v := (0 : Int32)) hx hb dX6_copyFrom_42 (by decide) ?_
  refine lv_aload_n hx hb dX6_copyFrom_43 rfl (lv_at hl 0 rfl) ?_
  refine va_get (D := D) (ci := 6) (v := .ref a_h_variances) (C := RX6) (T := TX6) (N := 6) hx hb hts in_X6_copyFrom_X6 hown hK hP 0 rfl rfl 2 (by decide) (hts _ q_X6_copyFrom_8) (fun _ h9 => h9) rfl dX6_copyFrom_44 ?_
  refine lv_iconst (v := (0 : Int32)) hx hb dX6_copyFrom_47 (by decide) ?_
  refine lv_bipush (v := (8 : Int32)) hx hb dX6_copyFrom_48 (by decide) ?_
  obtain ⟨hz5, h⟩ := gT_e h
  refine va_copyi (ty := .int) hx hb (hml.trans hl.1.symm) hown (hts _ q_X6_copyFrom_3) (hts _ q_X6_copyFrom_4) (hts _ q_X6_copyFrom_5) (hts _ q_X6_copyFrom_6) hK hP hD hS 9 3 0 0 rfl rfl rfl rfl rfl hz5.1 hz5.2.1 hz5.2.2.1 hz5.2.2.2.1 hz5.2.2.2.2 (fun _ _ => rfl) (by decide) (Nat.le_of_ble_eq_true rfl) dX6_copyFrom_50 (fun H locs hP hD hS => ?_)
  obtain ⟨g6, eg6, h⟩ := nm_x h
  have hP : va_P D vwCl [(a_h, .inr (6, [.ref a_h_masses, .ref a_h_errors, .ref a_h_variances, .ref a_h_parents, .ref a_h_onPan, .int v_o0_size])), (a_h_masses, .inl (cI, 8, .inl g2)), (a_h_errors, .inl (cI, 8, .inl g4)), (a_h_variances, .inl (cI, 8, .inl g6)), (a_h_parents, .inl (cI, 8, .inl v_parents_A)), (a_h_onPan, .inl (cI, 8, .inl v_onPan_A)), (a_o0, .inr (6, [.ref a_o0_masses, .ref a_o0_errors, .ref a_o0_variances, .ref a_o0_parents, .ref a_o0_onPan, .int v_o0_size])), (a_o0_masses, .inl (cI, 8, .inl v_o0_masses_A)), (a_o0_errors, .inl (cI, 8, .inl v_o0_errors_A)), (a_o0_variances, .inl (cI, 8, .inl v_o0_variances_A)), (a_o0_parents, .inl (cI, 8, .inl v_o0_parents_A)), (a_o0_onPan, .inl (cI, 8, .inl v_o0_onPan_A))] H := by rw [eg6]; exact hP
  have hD : va_D A [(a_h, .inr (6, [.ref a_h_masses, .ref a_h_errors, .ref a_h_variances, .ref a_h_parents, .ref a_h_onPan, .int v_o0_size])), (a_h_masses, .inl (cI, 8, .inl g2)), (a_h_errors, .inl (cI, 8, .inl g4)), (a_h_variances, .inl (cI, 8, .inl g6)), (a_h_parents, .inl (cI, 8, .inl v_parents_A)), (a_h_onPan, .inl (cI, 8, .inl v_onPan_A)), (a_o0, .inr (6, [.ref a_o0_masses, .ref a_o0_errors, .ref a_o0_variances, .ref a_o0_parents, .ref a_o0_onPan, .int v_o0_size])), (a_o0_masses, .inl (cI, 8, .inl v_o0_masses_A)), (a_o0_errors, .inl (cI, 8, .inl v_o0_errors_A)), (a_o0_variances, .inl (cI, 8, .inl v_o0_variances_A)), (a_o0_parents, .inl (cI, 8, .inl v_o0_parents_A)), (a_o0_onPan, .inl (cI, 8, .inl v_o0_onPan_A))] := by rw [eg6]; exact hD
  refine lv_aload_n hx hb dX6_copyFrom_53 rfl (lv_at hl 1 rfl) ?_
  refine va_get (D := D) (ci := 6) (v := .ref a_o0_parents) (C := RX6) (T := TX6) (N := 6) hx hb hts in_X6_copyFrom_X6 hown hK hP 6 rfl rfl 3 (by decide) (hts _ q_X6_copyFrom_9) (fun _ h9 => h9) rfl dX6_copyFrom_54 ?_
  refine lv_iconst (v := (0 : Int32)) hx hb dX6_copyFrom_57 (by decide) ?_
  refine lv_aload_n hx hb dX6_copyFrom_58 rfl (lv_at hl 0 rfl) ?_
  refine va_get (D := D) (ci := 6) (v := .ref a_h_parents) (C := RX6) (T := TX6) (N := 6) hx hb hts in_X6_copyFrom_X6 hown hK hP 0 rfl rfl 3 (by decide) (hts _ q_X6_copyFrom_9) (fun _ h9 => h9) rfl dX6_copyFrom_59 ?_
  refine lv_iconst (v := (0 : Int32)) hx hb dX6_copyFrom_62 (by decide) ?_
  refine lv_bipush (v := (8 : Int32)) hx hb dX6_copyFrom_63 (by decide) ?_
  obtain ⟨hz7, h⟩ := gT_e h
  refine va_copyi (ty := .int) hx hb (hml.trans hl.1.symm) hown (hts _ q_X6_copyFrom_3) (hts _ q_X6_copyFrom_4) (hts _ q_X6_copyFrom_5) (hts _ q_X6_copyFrom_6) hK hP hD hS 10 4 0 0 rfl rfl rfl rfl rfl hz7.1 hz7.2.1 hz7.2.2.1 hz7.2.2.2.1 hz7.2.2.2.2 (fun _ _ => rfl) (by decide) (Nat.le_of_ble_eq_true rfl) dX6_copyFrom_65 (fun H locs hP hD hS => ?_)
  obtain ⟨g8, eg8, h⟩ := nm_x h
  have hP : va_P D vwCl [(a_h, .inr (6, [.ref a_h_masses, .ref a_h_errors, .ref a_h_variances, .ref a_h_parents, .ref a_h_onPan, .int v_o0_size])), (a_h_masses, .inl (cI, 8, .inl g2)), (a_h_errors, .inl (cI, 8, .inl g4)), (a_h_variances, .inl (cI, 8, .inl g6)), (a_h_parents, .inl (cI, 8, .inl g8)), (a_h_onPan, .inl (cI, 8, .inl v_onPan_A)), (a_o0, .inr (6, [.ref a_o0_masses, .ref a_o0_errors, .ref a_o0_variances, .ref a_o0_parents, .ref a_o0_onPan, .int v_o0_size])), (a_o0_masses, .inl (cI, 8, .inl v_o0_masses_A)), (a_o0_errors, .inl (cI, 8, .inl v_o0_errors_A)), (a_o0_variances, .inl (cI, 8, .inl v_o0_variances_A)), (a_o0_parents, .inl (cI, 8, .inl v_o0_parents_A)), (a_o0_onPan, .inl (cI, 8, .inl v_o0_onPan_A))] H := by rw [eg8]; exact hP
  have hD : va_D A [(a_h, .inr (6, [.ref a_h_masses, .ref a_h_errors, .ref a_h_variances, .ref a_h_parents, .ref a_h_onPan, .int v_o0_size])), (a_h_masses, .inl (cI, 8, .inl g2)), (a_h_errors, .inl (cI, 8, .inl g4)), (a_h_variances, .inl (cI, 8, .inl g6)), (a_h_parents, .inl (cI, 8, .inl g8)), (a_h_onPan, .inl (cI, 8, .inl v_onPan_A)), (a_o0, .inr (6, [.ref a_o0_masses, .ref a_o0_errors, .ref a_o0_variances, .ref a_o0_parents, .ref a_o0_onPan, .int v_o0_size])), (a_o0_masses, .inl (cI, 8, .inl v_o0_masses_A)), (a_o0_errors, .inl (cI, 8, .inl v_o0_errors_A)), (a_o0_variances, .inl (cI, 8, .inl v_o0_variances_A)), (a_o0_parents, .inl (cI, 8, .inl v_o0_parents_A)), (a_o0_onPan, .inl (cI, 8, .inl v_o0_onPan_A))] := by rw [eg8]; exact hD
  refine lv_aload_n hx hb dX6_copyFrom_68 rfl (lv_at hl 1 rfl) ?_
  refine va_get (D := D) (ci := 6) (v := .ref a_o0_onPan) (C := RX6) (T := TX6) (N := 6) hx hb hts in_X6_copyFrom_X6 hown hK hP 6 rfl rfl 4 (by decide) (hts _ q_X6_copyFrom_10) (fun _ h9 => h9) rfl dX6_copyFrom_69 ?_
  refine lv_iconst (v := (0 : Int32)) hx hb dX6_copyFrom_72 (by decide) ?_
  refine lv_aload_n hx hb dX6_copyFrom_73 rfl (lv_at hl 0 rfl) ?_
  refine va_get (D := D) (ci := 6) (v := .ref a_h_onPan) (C := RX6) (T := TX6) (N := 6) hx hb hts in_X6_copyFrom_X6 hown hK hP 0 rfl rfl 4 (by decide) (hts _ q_X6_copyFrom_10) (fun _ h9 => h9) rfl dX6_copyFrom_74 ?_
  refine lv_iconst (v := (0 : Int32)) hx hb dX6_copyFrom_77 (by decide) ?_
  refine lv_bipush (v := (8 : Int32)) hx hb dX6_copyFrom_78 (by decide) ?_
  obtain ⟨hz9, h⟩ := gT_e h
  refine va_copyi (ty := .int) hx hb (hml.trans hl.1.symm) hown (hts _ q_X6_copyFrom_3) (hts _ q_X6_copyFrom_4) (hts _ q_X6_copyFrom_5) (hts _ q_X6_copyFrom_6) hK hP hD hS 11 5 0 0 rfl rfl rfl rfl rfl hz9.1 hz9.2.1 hz9.2.2.1 hz9.2.2.2.1 hz9.2.2.2.2 (fun _ _ => rfl) (by decide) (Nat.le_of_ble_eq_true rfl) dX6_copyFrom_80 (fun H locs hP hD hS => ?_)
  obtain ⟨g10, eg10, h⟩ := nm_x h
  have hP : va_P D vwCl [(a_h, .inr (6, [.ref a_h_masses, .ref a_h_errors, .ref a_h_variances, .ref a_h_parents, .ref a_h_onPan, .int v_o0_size])), (a_h_masses, .inl (cI, 8, .inl g2)), (a_h_errors, .inl (cI, 8, .inl g4)), (a_h_variances, .inl (cI, 8, .inl g6)), (a_h_parents, .inl (cI, 8, .inl g8)), (a_h_onPan, .inl (cI, 8, .inl g10)), (a_o0, .inr (6, [.ref a_o0_masses, .ref a_o0_errors, .ref a_o0_variances, .ref a_o0_parents, .ref a_o0_onPan, .int v_o0_size])), (a_o0_masses, .inl (cI, 8, .inl v_o0_masses_A)), (a_o0_errors, .inl (cI, 8, .inl v_o0_errors_A)), (a_o0_variances, .inl (cI, 8, .inl v_o0_variances_A)), (a_o0_parents, .inl (cI, 8, .inl v_o0_parents_A)), (a_o0_onPan, .inl (cI, 8, .inl v_o0_onPan_A))] H := by rw [eg10]; exact hP
  have hD : va_D A [(a_h, .inr (6, [.ref a_h_masses, .ref a_h_errors, .ref a_h_variances, .ref a_h_parents, .ref a_h_onPan, .int v_o0_size])), (a_h_masses, .inl (cI, 8, .inl g2)), (a_h_errors, .inl (cI, 8, .inl g4)), (a_h_variances, .inl (cI, 8, .inl g6)), (a_h_parents, .inl (cI, 8, .inl g8)), (a_h_onPan, .inl (cI, 8, .inl g10)), (a_o0, .inr (6, [.ref a_o0_masses, .ref a_o0_errors, .ref a_o0_variances, .ref a_o0_parents, .ref a_o0_onPan, .int v_o0_size])), (a_o0_masses, .inl (cI, 8, .inl v_o0_masses_A)), (a_o0_errors, .inl (cI, 8, .inl v_o0_errors_A)), (a_o0_variances, .inl (cI, 8, .inl v_o0_variances_A)), (a_o0_parents, .inl (cI, 8, .inl v_o0_parents_A)), (a_o0_onPan, .inl (cI, 8, .inl v_o0_onPan_A))] := by rw [eg10]; exact hD
  obtain rfl := sm_e h
  exact rx_v hx hb hr  hP hK hD hS dX6_copyFrom_83 hlocks
-- X6_numberOnPan
def f_X6_numberOnPan_b4 (v_size : Int32) (v_onPan_A : Nat → Int32) : Nat → Int32 → Int32 → Option (Int32)
  | 0, _, _ => none
  | k + 1, x1, x2 =>
    (if v_size ≤ x2 then some x1
    else gA x2 8 (nm (x1 + (v_onPan_A (Int32.toNatClampNeg x2))) (fun t3 => nm (x2 + (1 : Int32)) (fun t4 => (f_X6_numberOnPan_b4 v_size v_onPan_A k t3 t4)))))
def f_X6_numberOnPan (N : Nat) (v_size : Int32) (v_onPan_A : Nat → Int32) : Option (Int32) :=
  (f_X6_numberOnPan_b4 v_size v_onPan_A N (0 : Int32) (0 : Int32))
theorem q_X6_numberOnPan_1 : (.fieldLink RX6 27 "SpringBalance$Weights" "size" "I" : Cond) ∈ wsX6_numberOnPan := List.mem_of_getElem? (i := 1) (by decide +kernel)
set_option maxRecDepth 20000 in
theorem in_X6_numberOnPan_X6 : ∀ w ∈ u_ws RX6 TX6 6, w ∈ wsX6_numberOnPan := by decide +kernel
theorem q_X6_numberOnPan_2 : (.fieldLink RX6 24 "SpringBalance$Weights" "onPan" "[I" : Cond) ∈ wsX6_numberOnPan := List.mem_of_getElem? (i := 2) (by decide +kernel)
set_option maxHeartbeats 8000000 in
set_option maxRecDepth 100000 in
theorem k_X6_numberOnPan (l : Launch) (D : va_G) (cI cC cJ cB : ClassId) (a_h a_h_masses a_h_errors a_h_variances a_h_parents a_h_onPan : Nat) (v_size : Int32) (v_onPan_A : Nat → Int32) (N : Nat) (sz : Nat) (u : Int32) (hu : f_X6_numberOnPan N v_size v_onPan_A = some u) :
    Met l yX6_numberOnPan wsX6_numberOnPan ({ frames := 0, cells := 0, slots := 0, locals := 0 } : Room) (va_Pc [.ref a_h] (PreW D (ty4 cI cC cJ cB) sz [(a_h, .inr (6, [.ref a_h_masses, .ref a_h_errors, .ref a_h_variances, .ref a_h_parents, .ref a_h_onPan, .int v_size])), (a_h_onPan, .inl (cI, 8, .inl v_onPan_A))]))
      (QI D (ty4 cI cC cJ cB) (va_A [(a_h, .inr (6, [.ref a_h_masses, .ref a_h_errors, .ref a_h_variances, .ref a_h_parents, .ref a_h_onPan, .int v_size])), (a_h_onPan, .inl (cI, 8, .inl v_onPan_A))] sz) [(a_h, .inr (6, [.ref a_h_masses, .ref a_h_errors, .ref a_h_variances, .ref a_h_parents, .ref a_h_onPan, .int v_size])), (a_h_onPan, .inl (cI, 8, .inl v_onPan_A))] u) 0 0 (va_A [(a_h, .inr (6, [.ref a_h_masses, .ref a_h_errors, .ref a_h_variances, .ref a_h_parents, .ref a_h_onPan, .int v_size])), (a_h_onPan, .inl (cI, 8, .inl v_onPan_A))] sz) := by
  refine met_go (y := yX6_numberOnPan) (wsy := wsX6_numberOnPan) (cc := cX6_numberOnPan) (maxL := 3) (ret := (some .int)) (av := [.ref a_h]) (Qc := fun A => QI D (ty4 cI cC cJ cB) A [(a_h, .inr (6, [.ref a_h_masses, .ref a_h_errors, .ref a_h_variances, .ref a_h_parents, .ref a_h_onPan, .int v_size])), (a_h_onPan, .inl (cI, 8, .inl v_onPan_A))] u) (by decide) rfl (Nat.le_of_ble_eq_true rfl) ?_
  intro p e s m below meth c A ls hx hb hr hml hown hts hlocks hnm hN hK hP hD hS hA hl
  have h := hu
  clear hu
  unfold f_X6_numberOnPan at h
  have hl : lv_has ls 3 [(0, .ref a_h)] := hl
  have B4 : ∀ (k : Nat) (x1 : Int32) (x2 : Int32) (H : Heap) (locs : List Loc) (ls : Array Slot), f_X6_numberOnPan_b4 v_size v_onPan_A k x1 x2 = some u → va_P D vwCl [(a_h, .inr (6, [.ref a_h_masses, .ref a_h_errors, .ref a_h_variances, .ref a_h_parents, .ref a_h_onPan, .int v_size])), (a_h_onPan, .inl (cI, 8, .inl v_onPan_A))] H → va_D A [(a_h, .inr (6, [.ref a_h_masses, .ref a_h_errors, .ref a_h_variances, .ref a_h_parents, .ref a_h_onPan, .int v_size])), (a_h_onPan, .inl (cI, 8, .inl v_onPan_A))] → va_S A s.heap H locs → lv_has ls 3 [(0, .ref a_h), (1, .int x1), (2, .int x2)] → W p l e ({ frames := 0, cells := 0, slots := 0, locals := 0 } : Room) s m ([.ref a_h] : List Value).toArray below meth c H locs 0 0 (MQ below (QI D (ty4 cI cC cJ cB) A [(a_h, .inr (6, [.ref a_h_masses, .ref a_h_errors, .ref a_h_variances, .ref a_h_parents, .ref a_h_onPan, .int v_size])), (a_h_onPan, .inl (cI, 8, .inl v_onPan_A))] u) ([.ref a_h] : List Value).toArray s 0 0 A) (F0 m 4 ls []) := by
    intro k
    induction k with
    | zero =>
      intro x1 x2 H locs ls h
      exact nomatch (show (none : Option (Int32)) = some u from h)
    | succ k ih =>
      intro x1 x2 H locs ls h hP hD hS hl
      rw [f_X6_numberOnPan_b4.eq_2] at h
      refine lv_iload_n hx hb dX6_numberOnPan_4 rfl (lv_at hl 2 rfl) ?_
      refine lv_aload_n hx hb dX6_numberOnPan_5 rfl (lv_at hl 0 rfl) ?_
      refine va_get (D := D) (ci := 6) (v := .int v_size) (C := RX6) (T := TX6) (N := 6) hx hb hts in_X6_numberOnPan_X6 hown hK hP 0 rfl rfl 5 (by decide) (hts _ q_X6_numberOnPan_1) (fun _ h9 => h9) rfl dX6_numberOnPan_6 ?_
      refine lv_icmp_ge (tgt := 27) hx hb dX6_numberOnPan_9 (by decide) (fun hc1 => ?_) (fun hc1 => ?_)
      · replace h := it_e hc1 h
        refine lv_iload_n hx hb dX6_numberOnPan_27 rfl (lv_at hl 1 rfl) ?_
        obtain rfl := sm_e h
        exact rx_i hx hb hr  hP hK hD hS dX6_numberOnPan_28 hlocks
      · replace h := if_e hc1 h
        refine lv_iload_n hx hb dX6_numberOnPan_12 rfl (lv_at hl 1 rfl) ?_
        refine lv_aload_n hx hb dX6_numberOnPan_13 rfl (lv_at hl 0 rfl) ?_
        refine va_get (D := D) (ci := 6) (v := .ref a_h_onPan) (C := RX6) (T := TX6) (N := 6) hx hb hts in_X6_numberOnPan_X6 hown hK hP 0 rfl rfl 4 (by decide) (hts _ q_X6_numberOnPan_2) (fun _ h9 => h9) rfl dX6_numberOnPan_14 ?_
        refine lv_iload_n hx hb dX6_numberOnPan_17 rfl (lv_at hl 2 rfl) ?_
        obtain ⟨hi2, h⟩ := gA_e h
        refine wx_iald hx hb hK hP 1 0 rfl rfl (Int32.toNatClampNeg x2) rfl hi2 dX6_numberOnPan_18 ?_
        refine lv_iadd hx hb dX6_numberOnPan_19 ?_
        refine lv_topi (fun t3 et3 => ?_)
        replace h := nm_at h et3
        refine lv_istore_n (lv' := [(1, .int t3), (0, .ref a_h), (2, .int x2)]) hx hb dX6_numberOnPan_20 rfl hl (by decide) rfl (fun ls hl => ?_)
        obtain ⟨t4, et4, h⟩ := nm_x h
        refine lv_iinc (v := t4) (lv' := [(2, .int t4), (1, .int t3), (0, .ref a_h)]) hx hb dX6_numberOnPan_21 hl (k := 2) rfl (by rw [et4]; rfl) (by decide) rfl (fun ls hl => ?_)
        refine lv_goto (tgt := 4) hx hb dX6_numberOnPan_24 (by decide) ?_
        exact ih t3 t4 _ _ _ h hP hD hS (lv_sub hl [2, 1, 0] rfl)
  refine lv_iconst (v := (0 : Int32)) hx hb dX6_numberOnPan_0 (by decide) ?_
  refine lv_istore_n (lv' := [(1, .int (0 : Int32)), (0, .ref a_h)]) hx hb dX6_numberOnPan_1 rfl hl (by decide) rfl (fun ls hl => ?_)
  refine lv_iconst (v := (0 : Int32)) hx hb dX6_numberOnPan_2 (by decide) ?_
  refine lv_istore_n (lv' := [(2, .int (0 : Int32)), (1, .int (0 : Int32)), (0, .ref a_h)]) hx hb dX6_numberOnPan_3 rfl hl (by decide) rfl (fun ls hl => ?_)
  exact B4 N (0 : Int32) (0 : Int32) _ _ _ h hP hD hS (lv_sub hl [2, 1, 0] rfl)
-- X6_massOnPan
def f_X6_massOnPan_b4 (v_size : Int32) (v_masses_A : Nat → Int32) (v_onPan_A : Nat → Int32) : Nat → Int32 → Int32 → Option (Int32)
  | 0, _, _ => none
  | k + 1, x1, x2 =>
    (if v_size ≤ x2 then some x1
    else gA x2 8 (gA x2 8 (nm (x1 + ((v_onPan_A (Int32.toNatClampNeg x2)) * (v_masses_A (Int32.toNatClampNeg x2)))) (fun t4 => nm (x2 + (1 : Int32)) (fun t5 => (f_X6_massOnPan_b4 v_size v_masses_A v_onPan_A k t4 t5))))))
def f_X6_massOnPan (N : Nat) (v_size : Int32) (v_masses_A : Nat → Int32) (v_onPan_A : Nat → Int32) : Option (Int32) :=
  (f_X6_massOnPan_b4 v_size v_masses_A v_onPan_A N (0 : Int32) (0 : Int32))
theorem q_X6_massOnPan_1 : (.fieldLink RX6 27 "SpringBalance$Weights" "size" "I" : Cond) ∈ wsX6_massOnPan := List.mem_of_getElem? (i := 1) (by decide +kernel)
set_option maxRecDepth 20000 in
theorem in_X6_massOnPan_X6 : ∀ w ∈ u_ws RX6 TX6 6, w ∈ wsX6_massOnPan := by decide +kernel
theorem q_X6_massOnPan_2 : (.fieldLink RX6 24 "SpringBalance$Weights" "onPan" "[I" : Cond) ∈ wsX6_massOnPan := List.mem_of_getElem? (i := 2) (by decide +kernel)
theorem q_X6_massOnPan_3 : (.fieldLink RX6 9 "SpringBalance$Weights" "masses" "[I" : Cond) ∈ wsX6_massOnPan := List.mem_of_getElem? (i := 3) (by decide +kernel)
set_option maxHeartbeats 8000000 in
set_option maxRecDepth 100000 in
theorem k_X6_massOnPan (l : Launch) (D : va_G) (cI cC cJ cB : ClassId) (a_h a_h_masses a_h_errors a_h_variances a_h_parents a_h_onPan : Nat) (v_size : Int32) (v_masses_A : Nat → Int32) (v_onPan_A : Nat → Int32) (N : Nat) (sz : Nat) (u : Int32) (hu : f_X6_massOnPan N v_size v_masses_A v_onPan_A = some u) :
    Met l yX6_massOnPan wsX6_massOnPan ({ frames := 0, cells := 0, slots := 0, locals := 0 } : Room) (va_Pc [.ref a_h] (PreW D (ty4 cI cC cJ cB) sz [(a_h, .inr (6, [.ref a_h_masses, .ref a_h_errors, .ref a_h_variances, .ref a_h_parents, .ref a_h_onPan, .int v_size])), (a_h_masses, .inl (cI, 8, .inl v_masses_A)), (a_h_onPan, .inl (cI, 8, .inl v_onPan_A))]))
      (QI D (ty4 cI cC cJ cB) (va_A [(a_h, .inr (6, [.ref a_h_masses, .ref a_h_errors, .ref a_h_variances, .ref a_h_parents, .ref a_h_onPan, .int v_size])), (a_h_masses, .inl (cI, 8, .inl v_masses_A)), (a_h_onPan, .inl (cI, 8, .inl v_onPan_A))] sz) [(a_h, .inr (6, [.ref a_h_masses, .ref a_h_errors, .ref a_h_variances, .ref a_h_parents, .ref a_h_onPan, .int v_size])), (a_h_masses, .inl (cI, 8, .inl v_masses_A)), (a_h_onPan, .inl (cI, 8, .inl v_onPan_A))] u) 0 0 (va_A [(a_h, .inr (6, [.ref a_h_masses, .ref a_h_errors, .ref a_h_variances, .ref a_h_parents, .ref a_h_onPan, .int v_size])), (a_h_masses, .inl (cI, 8, .inl v_masses_A)), (a_h_onPan, .inl (cI, 8, .inl v_onPan_A))] sz) := by
  refine met_go (y := yX6_massOnPan) (wsy := wsX6_massOnPan) (cc := cX6_massOnPan) (maxL := 3) (ret := (some .int)) (av := [.ref a_h]) (Qc := fun A => QI D (ty4 cI cC cJ cB) A [(a_h, .inr (6, [.ref a_h_masses, .ref a_h_errors, .ref a_h_variances, .ref a_h_parents, .ref a_h_onPan, .int v_size])), (a_h_masses, .inl (cI, 8, .inl v_masses_A)), (a_h_onPan, .inl (cI, 8, .inl v_onPan_A))] u) (by decide) rfl (Nat.le_of_ble_eq_true rfl) ?_
  intro p e s m below meth c A ls hx hb hr hml hown hts hlocks hnm hN hK hP hD hS hA hl
  have h := hu
  clear hu
  unfold f_X6_massOnPan at h
  have hl : lv_has ls 3 [(0, .ref a_h)] := hl
  have B4 : ∀ (k : Nat) (x1 : Int32) (x2 : Int32) (H : Heap) (locs : List Loc) (ls : Array Slot), f_X6_massOnPan_b4 v_size v_masses_A v_onPan_A k x1 x2 = some u → va_P D vwCl [(a_h, .inr (6, [.ref a_h_masses, .ref a_h_errors, .ref a_h_variances, .ref a_h_parents, .ref a_h_onPan, .int v_size])), (a_h_masses, .inl (cI, 8, .inl v_masses_A)), (a_h_onPan, .inl (cI, 8, .inl v_onPan_A))] H → va_D A [(a_h, .inr (6, [.ref a_h_masses, .ref a_h_errors, .ref a_h_variances, .ref a_h_parents, .ref a_h_onPan, .int v_size])), (a_h_masses, .inl (cI, 8, .inl v_masses_A)), (a_h_onPan, .inl (cI, 8, .inl v_onPan_A))] → va_S A s.heap H locs → lv_has ls 3 [(0, .ref a_h), (1, .int x1), (2, .int x2)] → W p l e ({ frames := 0, cells := 0, slots := 0, locals := 0 } : Room) s m ([.ref a_h] : List Value).toArray below meth c H locs 0 0 (MQ below (QI D (ty4 cI cC cJ cB) A [(a_h, .inr (6, [.ref a_h_masses, .ref a_h_errors, .ref a_h_variances, .ref a_h_parents, .ref a_h_onPan, .int v_size])), (a_h_masses, .inl (cI, 8, .inl v_masses_A)), (a_h_onPan, .inl (cI, 8, .inl v_onPan_A))] u) ([.ref a_h] : List Value).toArray s 0 0 A) (F0 m 4 ls []) := by
    intro k
    induction k with
    | zero =>
      intro x1 x2 H locs ls h
      exact nomatch (show (none : Option (Int32)) = some u from h)
    | succ k ih =>
      intro x1 x2 H locs ls h hP hD hS hl
      rw [f_X6_massOnPan_b4.eq_2] at h
      refine lv_iload_n hx hb dX6_massOnPan_4 rfl (lv_at hl 2 rfl) ?_
      refine lv_aload_n hx hb dX6_massOnPan_5 rfl (lv_at hl 0 rfl) ?_
      refine va_get (D := D) (ci := 6) (v := .int v_size) (C := RX6) (T := TX6) (N := 6) hx hb hts in_X6_massOnPan_X6 hown hK hP 0 rfl rfl 5 (by decide) (hts _ q_X6_massOnPan_1) (fun _ h9 => h9) rfl dX6_massOnPan_6 ?_
      refine lv_icmp_ge (tgt := 34) hx hb dX6_massOnPan_9 (by decide) (fun hc1 => ?_) (fun hc1 => ?_)
      · replace h := it_e hc1 h
        refine lv_iload_n hx hb dX6_massOnPan_34 rfl (lv_at hl 1 rfl) ?_
        obtain rfl := sm_e h
        exact rx_i hx hb hr  hP hK hD hS dX6_massOnPan_35 hlocks
      · replace h := if_e hc1 h
        refine lv_iload_n hx hb dX6_massOnPan_12 rfl (lv_at hl 1 rfl) ?_
        refine lv_aload_n hx hb dX6_massOnPan_13 rfl (lv_at hl 0 rfl) ?_
        refine va_get (D := D) (ci := 6) (v := .ref a_h_onPan) (C := RX6) (T := TX6) (N := 6) hx hb hts in_X6_massOnPan_X6 hown hK hP 0 rfl rfl 4 (by decide) (hts _ q_X6_massOnPan_2) (fun _ h9 => h9) rfl dX6_massOnPan_14 ?_
        refine lv_iload_n hx hb dX6_massOnPan_17 rfl (lv_at hl 2 rfl) ?_
        obtain ⟨hi2, h⟩ := gA_e h
        refine wx_iald hx hb hK hP 2 0 rfl rfl (Int32.toNatClampNeg x2) rfl hi2 dX6_massOnPan_18 ?_
        refine lv_aload_n hx hb dX6_massOnPan_19 rfl (lv_at hl 0 rfl) ?_
        refine va_get (D := D) (ci := 6) (v := .ref a_h_masses) (C := RX6) (T := TX6) (N := 6) hx hb hts in_X6_massOnPan_X6 hown hK hP 0 rfl rfl 0 (by decide) (hts _ q_X6_massOnPan_3) (fun _ h9 => h9) rfl dX6_massOnPan_20 ?_
        refine lv_iload_n hx hb dX6_massOnPan_23 rfl (lv_at hl 2 rfl) ?_
        obtain ⟨hi3, h⟩ := gA_e h
        refine wx_iald hx hb hK hP 1 0 rfl rfl (Int32.toNatClampNeg x2) rfl hi3 dX6_massOnPan_24 ?_
        refine lv_imul hx hb dX6_massOnPan_25 ?_
        refine lv_iadd hx hb dX6_massOnPan_26 ?_
        refine lv_topi (fun t4 et4 => ?_)
        replace h := nm_at h et4
        refine lv_istore_n (lv' := [(1, .int t4), (0, .ref a_h), (2, .int x2)]) hx hb dX6_massOnPan_27 rfl hl (by decide) rfl (fun ls hl => ?_)
        obtain ⟨t5, et5, h⟩ := nm_x h
        refine lv_iinc (v := t5) (lv' := [(2, .int t5), (1, .int t4), (0, .ref a_h)]) hx hb dX6_massOnPan_28 hl (k := 2) rfl (by rw [et5]; rfl) (by decide) rfl (fun ls hl => ?_)
        refine lv_goto (tgt := 4) hx hb dX6_massOnPan_31 (by decide) ?_
        exact ih t4 t5 _ _ _ h hP hD hS (lv_sub hl [2, 1, 0] rfl)
  refine lv_iconst (v := (0 : Int32)) hx hb dX6_massOnPan_0 (by decide) ?_
  refine lv_istore_n (lv' := [(1, .int (0 : Int32)), (0, .ref a_h)]) hx hb dX6_massOnPan_1 rfl hl (by decide) rfl (fun ls hl => ?_)
  refine lv_iconst (v := (0 : Int32)) hx hb dX6_massOnPan_2 (by decide) ?_
  refine lv_istore_n (lv' := [(2, .int (0 : Int32)), (1, .int (0 : Int32)), (0, .ref a_h)]) hx hb dX6_massOnPan_3 rfl hl (by decide) rfl (fun ls hl => ?_)
  exact B4 N (0 : Int32) (0 : Int32) _ _ _ h hP hD hS (lv_sub hl [2, 1, 0] rfl)
