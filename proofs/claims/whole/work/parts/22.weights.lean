-- X6_copyFrom
def f_X6_copyFrom (v_masses_A : Nat → Int32) (v_errors_A : Nat → Int32) (v_variances_A : Nat → Int32) (v_parents_A : Nat → Int32) (v_onPan_A : Nat → Int32) (v_o0_size : Int32) (v_o0_masses_A : Nat → Int32) (v_o0_errors_A : Nat → Int32) (v_o0_variances_A : Nat → Int32) (v_o0_parents_A : Nat → Int32) (v_o0_onPan_A : Nat → Int32) : Option (Int32 × (Nat → Int32) × (Nat → Int32) × (Nat → Int32) × (Nat → Int32) × (Nat → Int32)) :=
  gT (¬ (0 : Int32) < 0 ∧ ¬ (0 : Int32) < 0 ∧ ¬ (8 : Int32) < 0 ∧ Int32.toNatClampNeg (0 : Int32) + Int32.toNatClampNeg (8 : Int32) ≤ 8 ∧ Int32.toNatClampNeg (0 : Int32) + Int32.toNatClampNeg (8 : Int32) ≤ 8) (nm (va_cpy v_o0_masses_A v_masses_A (Int32.toNatClampNeg (0 : Int32)) (Int32.toNatClampNeg (0 : Int32)) (Int32.toNatClampNeg (8 : Int32))) (fun g2 => gT (¬ (0 : Int32) < 0 ∧ ¬ (0 : Int32) < 0 ∧ ¬ (8 : Int32) < 0 ∧ Int32.toNatClampNeg (0 : Int32) + Int32.toNatClampNeg (8 : Int32) ≤ 8 ∧ Int32.toNatClampNeg (0 : Int32) + Int32.toNatClampNeg (8 : Int32) ≤ 8) (nm (va_cpy v_o0_errors_A v_errors_A (Int32.toNatClampNeg (0 : Int32)) (Int32.toNatClampNeg (0 : Int32)) (Int32.toNatClampNeg (8 : Int32))) (fun g4 => gT (¬ (0 : Int32) < 0 ∧ ¬ (0 : Int32) < 0 ∧ ¬ (8 : Int32) < 0 ∧ Int32.toNatClampNeg (0 : Int32) + Int32.toNatClampNeg (8 : Int32) ≤ 8 ∧ Int32.toNatClampNeg (0 : Int32) + Int32.toNatClampNeg (8 : Int32) ≤ 8) (nm (va_cpy v_o0_variances_A v_variances_A (Int32.toNatClampNeg (0 : Int32)) (Int32.toNatClampNeg (0 : Int32)) (Int32.toNatClampNeg (8 : Int32))) (fun g6 => gT (¬ (0 : Int32) < 0 ∧ ¬ (0 : Int32) < 0 ∧ ¬ (8 : Int32) < 0 ∧ Int32.toNatClampNeg (0 : Int32) + Int32.toNatClampNeg (8 : Int32) ≤ 8 ∧ Int32.toNatClampNeg (0 : Int32) + Int32.toNatClampNeg (8 : Int32) ≤ 8) (nm (va_cpy v_o0_parents_A v_parents_A (Int32.toNatClampNeg (0 : Int32)) (Int32.toNatClampNeg (0 : Int32)) (Int32.toNatClampNeg (8 : Int32))) (fun g8 => gT (¬ (0 : Int32) < 0 ∧ ¬ (0 : Int32) < 0 ∧ ¬ (8 : Int32) < 0 ∧ Int32.toNatClampNeg (0 : Int32) + Int32.toNatClampNeg (8 : Int32) ≤ 8 ∧ Int32.toNatClampNeg (0 : Int32) + Int32.toNatClampNeg (8 : Int32) ≤ 8) (nm (va_cpy v_o0_onPan_A v_onPan_A (Int32.toNatClampNeg (0 : Int32)) (Int32.toNatClampNeg (0 : Int32)) (Int32.toNatClampNeg (8 : Int32))) (fun g10 => some (v_o0_size, g2, g4, g6, g8, g10)))))))))))
theorem q_X6_copyFrom_1 : (.fieldLink RX6 27 "SpringBalance$Weights" "size" "I" : Cond) ∈ wsX6_copyFrom := List.mem_of_getElem? (i := 1) (by decide +kernel)
set_option maxRecDepth 20000 in
theorem in_X6_copyFrom_X6 : ∀ w ∈ u_ws RX6 TX6 6, w ∈ wsX6_copyFrom := by decide +kernel
theorem q_X6_copyFrom_2 : (.fieldLink RX6 9 "SpringBalance$Weights" "masses" "[I" : Cond) ∈ wsX6_copyFrom := List.mem_of_getElem? (i := 2) (by decide +kernel)
theorem q_X6_copyFrom_3 : (.methodLink RX6 31 arraycopyName : Cond) ∈ wsX6_copyFrom := List.mem_of_getElem? (i := 3) (by decide +kernel)
theorem q_X6_copyFrom_4 : (.native arraycopyName : Cond) ∈ wsX6_copyFrom := List.mem_of_getElem? (i := 4) (by decide +kernel)
theorem q_X6_copyFrom_5 : (.static arraycopyName : Cond) ∈ wsX6_copyFrom := List.mem_of_getElem? (i := 5) (by decide +kernel)
theorem q_X6_copyFrom_6 : (.initialized "java/lang/System" : Cond) ∈ wsX6_copyFrom := List.mem_of_getElem? (i := 6) (by decide +kernel)
theorem q_X6_copyFrom_7 : (.fieldLink RX6 15 "SpringBalance$Weights" "errors" "[I" : Cond) ∈ wsX6_copyFrom := List.mem_of_getElem? (i := 7) (by decide +kernel)
theorem q_X6_copyFrom_8 : (.fieldLink RX6 18 "SpringBalance$Weights" "variances" "[I" : Cond) ∈ wsX6_copyFrom := List.mem_of_getElem? (i := 8) (by decide +kernel)
theorem q_X6_copyFrom_9 : (.fieldLink RX6 21 "SpringBalance$Weights" "parents" "[I" : Cond) ∈ wsX6_copyFrom := List.mem_of_getElem? (i := 9) (by decide +kernel)
theorem q_X6_copyFrom_10 : (.fieldLink RX6 24 "SpringBalance$Weights" "onPan" "[I" : Cond) ∈ wsX6_copyFrom := List.mem_of_getElem? (i := 10) (by decide +kernel)
set_option maxHeartbeats 8000000 in
set_option maxRecDepth 100000 in
theorem k_X6_copyFrom (l : Launch) (D : va_G) (cI cC cJ cB : ClassId) (a_h a_h_masses a_h_errors a_h_variances a_h_parents a_h_onPan a_o0 a_o0_masses a_o0_errors a_o0_variances a_o0_parents a_o0_onPan : Nat) (v_size : Int32) (v_masses_A : Nat → Int32) (v_errors_A : Nat → Int32) (v_variances_A : Nat → Int32) (v_parents_A : Nat → Int32) (v_onPan_A : Nat → Int32) (v_o0_size : Int32) (v_o0_masses_A : Nat → Int32) (v_o0_errors_A : Nat → Int32) (v_o0_variances_A : Nat → Int32) (v_o0_parents_A : Nat → Int32) (v_o0_onPan_A : Nat → Int32) (N : Nat) (sz : Nat) (u : Int32 × (Nat → Int32) × (Nat → Int32) × (Nat → Int32) × (Nat → Int32) × (Nat → Int32)) (hu : f_X6_copyFrom v_masses_A v_errors_A v_variances_A v_parents_A v_onPan_A v_o0_size v_o0_masses_A v_o0_errors_A v_o0_variances_A v_o0_parents_A v_o0_onPan_A = some u) :
    Met l yX6_copyFrom wsX6_copyFrom ({ frames := 1, cells := 0, slots := 0, locals := 40 } : Room) (va_Pc [.ref a_h, .ref a_o0] (PreW D (ty4 cI cC cJ cB) sz [(a_h, .inr (6, [.ref a_h_masses, .ref a_h_errors, .ref a_h_variances, .ref a_h_parents, .ref a_h_onPan, .int v_size])), (a_h_masses, .inl (cI, 8, .inl v_masses_A)), (a_h_errors, .inl (cI, 8, .inl v_errors_A)), (a_h_variances, .inl (cI, 8, .inl v_variances_A)), (a_h_parents, .inl (cI, 8, .inl v_parents_A)), (a_h_onPan, .inl (cI, 8, .inl v_onPan_A)), (a_o0, .inr (6, [.ref a_o0_masses, .ref a_o0_errors, .ref a_o0_variances, .ref a_o0_parents, .ref a_o0_onPan, .int v_o0_size])), (a_o0_masses, .inl (cI, 8, .inl v_o0_masses_A)), (a_o0_errors, .inl (cI, 8, .inl v_o0_errors_A)), (a_o0_variances, .inl (cI, 8, .inl v_o0_variances_A)), (a_o0_parents, .inl (cI, 8, .inl v_o0_parents_A)), (a_o0_onPan, .inl (cI, 8, .inl v_o0_onPan_A))]))
      (QV D (ty4 cI cC cJ cB) (va_A [(a_h, .inr (6, [.ref a_h_masses, .ref a_h_errors, .ref a_h_variances, .ref a_h_parents, .ref a_h_onPan, .int v_size])), (a_h_masses, .inl (cI, 8, .inl v_masses_A)), (a_h_errors, .inl (cI, 8, .inl v_errors_A)), (a_h_variances, .inl (cI, 8, .inl v_variances_A)), (a_h_parents, .inl (cI, 8, .inl v_parents_A)), (a_h_onPan, .inl (cI, 8, .inl v_onPan_A)), (a_o0, .inr (6, [.ref a_o0_masses, .ref a_o0_errors, .ref a_o0_variances, .ref a_o0_parents, .ref a_o0_onPan, .int v_o0_size])), (a_o0_masses, .inl (cI, 8, .inl v_o0_masses_A)), (a_o0_errors, .inl (cI, 8, .inl v_o0_errors_A)), (a_o0_variances, .inl (cI, 8, .inl v_o0_variances_A)), (a_o0_parents, .inl (cI, 8, .inl v_o0_parents_A)), (a_o0_onPan, .inl (cI, 8, .inl v_o0_onPan_A))] sz) [(a_h, .inr (6, [.ref a_h_masses, .ref a_h_errors, .ref a_h_variances, .ref a_h_parents, .ref a_h_onPan, .int u.1])), (a_h_masses, .inl (cI, 8, .inl u.2.1)), (a_h_errors, .inl (cI, 8, .inl u.2.2.1)), (a_h_variances, .inl (cI, 8, .inl u.2.2.2.1)), (a_h_parents, .inl (cI, 8, .inl u.2.2.2.2.1)), (a_h_onPan, .inl (cI, 8, .inl u.2.2.2.2.2)), (a_o0, .inr (6, [.ref a_o0_masses, .ref a_o0_errors, .ref a_o0_variances, .ref a_o0_parents, .ref a_o0_onPan, .int v_o0_size])), (a_o0_masses, .inl (cI, 8, .inl v_o0_masses_A)), (a_o0_errors, .inl (cI, 8, .inl v_o0_errors_A)), (a_o0_variances, .inl (cI, 8, .inl v_o0_variances_A)), (a_o0_parents, .inl (cI, 8, .inl v_o0_parents_A)), (a_o0_onPan, .inl (cI, 8, .inl v_o0_onPan_A))]) 0 0 (va_A [(a_h, .inr (6, [.ref a_h_masses, .ref a_h_errors, .ref a_h_variances, .ref a_h_parents, .ref a_h_onPan, .int v_size])), (a_h_masses, .inl (cI, 8, .inl v_masses_A)), (a_h_errors, .inl (cI, 8, .inl v_errors_A)), (a_h_variances, .inl (cI, 8, .inl v_variances_A)), (a_h_parents, .inl (cI, 8, .inl v_parents_A)), (a_h_onPan, .inl (cI, 8, .inl v_onPan_A)), (a_o0, .inr (6, [.ref a_o0_masses, .ref a_o0_errors, .ref a_o0_variances, .ref a_o0_parents, .ref a_o0_onPan, .int v_o0_size])), (a_o0_masses, .inl (cI, 8, .inl v_o0_masses_A)), (a_o0_errors, .inl (cI, 8, .inl v_o0_errors_A)), (a_o0_variances, .inl (cI, 8, .inl v_o0_variances_A)), (a_o0_parents, .inl (cI, 8, .inl v_o0_parents_A)), (a_o0_onPan, .inl (cI, 8, .inl v_o0_onPan_A))] sz) := by
  refine met_go (y := yX6_copyFrom) (wsy := wsX6_copyFrom) (cc := cX6_copyFrom) (maxL := 2) (ret := none) (av := [.ref a_h, .ref a_o0]) (Qc := fun A => QV D (ty4 cI cC cJ cB) A [(a_h, .inr (6, [.ref a_h_masses, .ref a_h_errors, .ref a_h_variances, .ref a_h_parents, .ref a_h_onPan, .int u.1])), (a_h_masses, .inl (cI, 8, .inl u.2.1)), (a_h_errors, .inl (cI, 8, .inl u.2.2.1)), (a_h_variances, .inl (cI, 8, .inl u.2.2.2.1)), (a_h_parents, .inl (cI, 8, .inl u.2.2.2.2.1)), (a_h_onPan, .inl (cI, 8, .inl u.2.2.2.2.2)), (a_o0, .inr (6, [.ref a_o0_masses, .ref a_o0_errors, .ref a_o0_variances, .ref a_o0_parents, .ref a_o0_onPan, .int v_o0_size])), (a_o0_masses, .inl (cI, 8, .inl v_o0_masses_A)), (a_o0_errors, .inl (cI, 8, .inl v_o0_errors_A)), (a_o0_variances, .inl (cI, 8, .inl v_o0_variances_A)), (a_o0_parents, .inl (cI, 8, .inl v_o0_parents_A)), (a_o0_onPan, .inl (cI, 8, .inl v_o0_onPan_A))]) (by decide) rfl (Nat.le_of_ble_eq_true rfl) ?_
  intro p e s m below meth c A ls hx hb hr hml hown hts hlocks hnm hN hK hP hD hS hA hl
  have h := hu
  clear hu
  unfold f_X6_copyFrom at h
  have hl : lv_has ls 2 [(0, .ref a_h), (1, .ref a_o0)] := hl
  refine lv_aload_n hx hb dX6_copyFrom_0 rfl (lv_at hl 0 rfl) ?_
  refine lv_aload_n hx hb dX6_copyFrom_1 rfl (lv_at hl 1 rfl) ?_
  refine va_get (D := D) (ci := 6) (v := .int v_o0_size) (C := RX6) (T := TX6) (N := 6) hx hb hts in_X6_copyFrom_X6 hown hK hP 6 rfl rfl 5 (by decide) (hts _ q_X6_copyFrom_1) (fun _ h9 => h9) rfl dX6_copyFrom_2 ?_
  refine va_put (D := D) (ci := 6) (v := .int v_o0_size) (ty := .int) (C := RX6) (T := TX6) (N := 6) hx hb hts in_X6_copyFrom_X6 tyX6 tyX6_ok nmX6 hown hK hP hD hS 0 rfl rfl 5 (by decide) (hts _ q_X6_copyFrom_1) (fun _ h9 => h9) rfl (by decide +kernel) rfl rfl (Nat.le_of_ble_eq_true rfl) dX6_copyFrom_5 (fun H locs hP hD hS => ?_)
  have hP : va_P D vwCl [(a_h, .inr (6, [.ref a_h_masses, .ref a_h_errors, .ref a_h_variances, .ref a_h_parents, .ref a_h_onPan, .int v_o0_size])), (a_h_masses, .inl (cI, 8, .inl v_masses_A)), (a_h_errors, .inl (cI, 8, .inl v_errors_A)), (a_h_variances, .inl (cI, 8, .inl v_variances_A)), (a_h_parents, .inl (cI, 8, .inl v_parents_A)), (a_h_onPan, .inl (cI, 8, .inl v_onPan_A)), (a_o0, .inr (6, [.ref a_o0_masses, .ref a_o0_errors, .ref a_o0_variances, .ref a_o0_parents, .ref a_o0_onPan, .int v_o0_size])), (a_o0_masses, .inl (cI, 8, .inl v_o0_masses_A)), (a_o0_errors, .inl (cI, 8, .inl v_o0_errors_A)), (a_o0_variances, .inl (cI, 8, .inl v_o0_variances_A)), (a_o0_parents, .inl (cI, 8, .inl v_o0_parents_A)), (a_o0_onPan, .inl (cI, 8, .inl v_o0_onPan_A))] H := hP
  have hD : va_D A [(a_h, .inr (6, [.ref a_h_masses, .ref a_h_errors, .ref a_h_variances, .ref a_h_parents, .ref a_h_onPan, .int v_o0_size])), (a_h_masses, .inl (cI, 8, .inl v_masses_A)), (a_h_errors, .inl (cI, 8, .inl v_errors_A)), (a_h_variances, .inl (cI, 8, .inl v_variances_A)), (a_h_parents, .inl (cI, 8, .inl v_parents_A)), (a_h_onPan, .inl (cI, 8, .inl v_onPan_A)), (a_o0, .inr (6, [.ref a_o0_masses, .ref a_o0_errors, .ref a_o0_variances, .ref a_o0_parents, .ref a_o0_onPan, .int v_o0_size])), (a_o0_masses, .inl (cI, 8, .inl v_o0_masses_A)), (a_o0_errors, .inl (cI, 8, .inl v_o0_errors_A)), (a_o0_variances, .inl (cI, 8, .inl v_o0_variances_A)), (a_o0_parents, .inl (cI, 8, .inl v_o0_parents_A)), (a_o0_onPan, .inl (cI, 8, .inl v_o0_onPan_A))] := hD
  refine lv_aload_n hx hb dX6_copyFrom_8 rfl (lv_at hl 1 rfl) ?_
  refine va_get (D := D) (ci := 6) (v := .ref a_o0_masses) (C := RX6) (T := TX6) (N := 6) hx hb hts in_X6_copyFrom_X6 hown hK hP 6 rfl rfl 0 (by decide) (hts _ q_X6_copyFrom_2) (fun _ h9 => h9) rfl dX6_copyFrom_9 ?_
  refine lv_iconst (v := (0 : Int32)) hx hb dX6_copyFrom_12 (by decide) ?_
  refine lv_aload_n hx hb dX6_copyFrom_13 rfl (lv_at hl 0 rfl) ?_
  refine va_get (D := D) (ci := 6) (v := .ref a_h_masses) (C := RX6) (T := TX6) (N := 6) hx hb hts in_X6_copyFrom_X6 hown hK hP 0 rfl rfl 0 (by decide) (hts _ q_X6_copyFrom_2) (fun _ h9 => h9) rfl dX6_copyFrom_14 ?_
  refine lv_iconst (v := (0 : Int32)) hx hb dX6_copyFrom_17 (by decide) ?_
  refine lv_bipush (v := (8 : Int32)) hx hb dX6_copyFrom_18 (by decide) ?_
  obtain ⟨hz1, h⟩ := gT_e h
  refine va_copyi (ty := .int) hx hb (hml.trans hl.1.symm) hown (hts _ q_X6_copyFrom_3) (hts _ q_X6_copyFrom_4) (hts _ q_X6_copyFrom_5) (hts _ q_X6_copyFrom_6) hK hP hD hS 7 1 0 0 rfl rfl rfl rfl rfl hz1.1 hz1.2.1 hz1.2.2.1 hz1.2.2.2.1 hz1.2.2.2.2 (fun _ _ => rfl) (by decide) (Nat.le_of_ble_eq_true rfl) dX6_copyFrom_20 (fun H locs hP hD hS => ?_)
  obtain ⟨g2, eg2, h⟩ := nm_x h
  have hP : va_P D vwCl [(a_h, .inr (6, [.ref a_h_masses, .ref a_h_errors, .ref a_h_variances, .ref a_h_parents, .ref a_h_onPan, .int v_o0_size])), (a_h_masses, .inl (cI, 8, .inl g2)), (a_h_errors, .inl (cI, 8, .inl v_errors_A)), (a_h_variances, .inl (cI, 8, .inl v_variances_A)), (a_h_parents, .inl (cI, 8, .inl v_parents_A)), (a_h_onPan, .inl (cI, 8, .inl v_onPan_A)), (a_o0, .inr (6, [.ref a_o0_masses, .ref a_o0_errors, .ref a_o0_variances, .ref a_o0_parents, .ref a_o0_onPan, .int v_o0_size])), (a_o0_masses, .inl (cI, 8, .inl v_o0_masses_A)), (a_o0_errors, .inl (cI, 8, .inl v_o0_errors_A)), (a_o0_variances, .inl (cI, 8, .inl v_o0_variances_A)), (a_o0_parents, .inl (cI, 8, .inl v_o0_parents_A)), (a_o0_onPan, .inl (cI, 8, .inl v_o0_onPan_A))] H := by rw [eg2]; exact hP
  have hD : va_D A [(a_h, .inr (6, [.ref a_h_masses, .ref a_h_errors, .ref a_h_variances, .ref a_h_parents, .ref a_h_onPan, .int v_o0_size])), (a_h_masses, .inl (cI, 8, .inl g2)), (a_h_errors, .inl (cI, 8, .inl v_errors_A)), (a_h_variances, .inl (cI, 8, .inl v_variances_A)), (a_h_parents, .inl (cI, 8, .inl v_parents_A)), (a_h_onPan, .inl (cI, 8, .inl v_onPan_A)), (a_o0, .inr (6, [.ref a_o0_masses, .ref a_o0_errors, .ref a_o0_variances, .ref a_o0_parents, .ref a_o0_onPan, .int v_o0_size])), (a_o0_masses, .inl (cI, 8, .inl v_o0_masses_A)), (a_o0_errors, .inl (cI, 8, .inl v_o0_errors_A)), (a_o0_variances, .inl (cI, 8, .inl v_o0_variances_A)), (a_o0_parents, .inl (cI, 8, .inl v_o0_parents_A)), (a_o0_onPan, .inl (cI, 8, .inl v_o0_onPan_A))] := by rw [eg2]; exact hD
  refine lv_aload_n hx hb dX6_copyFrom_23 rfl (lv_at hl 1 rfl) ?_
  refine va_get (D := D) (ci := 6) (v := .ref a_o0_errors) (C := RX6) (T := TX6) (N := 6) hx hb hts in_X6_copyFrom_X6 hown hK hP 6 rfl rfl 1 (by decide) (hts _ q_X6_copyFrom_7) (fun _ h9 => h9) rfl dX6_copyFrom_24 ?_
  refine lv_iconst (v := (0 : Int32)) hx hb dX6_copyFrom_27 (by decide) ?_
  refine lv_aload_n hx hb dX6_copyFrom_28 rfl (lv_at hl 0 rfl) ?_
  refine va_get (D := D) (ci := 6) (v := .ref a_h_errors) (C := RX6) (T := TX6) (N := 6) hx hb hts in_X6_copyFrom_X6 hown hK hP 0 rfl rfl 1 (by decide) (hts _ q_X6_copyFrom_7) (fun _ h9 => h9) rfl dX6_copyFrom_29 ?_
  refine lv_iconst (v := (0 : Int32)) hx hb dX6_copyFrom_32 (by decide) ?_
  refine lv_bipush (v := (8 : Int32)) hx hb dX6_copyFrom_33 (by decide) ?_
  obtain ⟨hz3, h⟩ := gT_e h
  refine va_copyi (ty := .int) hx hb (hml.trans hl.1.symm) hown (hts _ q_X6_copyFrom_3) (hts _ q_X6_copyFrom_4) (hts _ q_X6_copyFrom_5) (hts _ q_X6_copyFrom_6) hK hP hD hS 8 2 0 0 rfl rfl rfl rfl rfl hz3.1 hz3.2.1 hz3.2.2.1 hz3.2.2.2.1 hz3.2.2.2.2 (fun _ _ => rfl) (by decide) (Nat.le_of_ble_eq_true rfl) dX6_copyFrom_35 (fun H locs hP hD hS => ?_)
  obtain ⟨g4, eg4, h⟩ := nm_x h
  have hP : va_P D vwCl [(a_h, .inr (6, [.ref a_h_masses, .ref a_h_errors, .ref a_h_variances, .ref a_h_parents, .ref a_h_onPan, .int v_o0_size])), (a_h_masses, .inl (cI, 8, .inl g2)), (a_h_errors, .inl (cI, 8, .inl g4)), (a_h_variances, .inl (cI, 8, .inl v_variances_A)), (a_h_parents, .inl (cI, 8, .inl v_parents_A)), (a_h_onPan, .inl (cI, 8, .inl v_onPan_A)), (a_o0, .inr (6, [.ref a_o0_masses, .ref a_o0_errors, .ref a_o0_variances, .ref a_o0_parents, .ref a_o0_onPan, .int v_o0_size])), (a_o0_masses, .inl (cI, 8, .inl v_o0_masses_A)), (a_o0_errors, .inl (cI, 8, .inl v_o0_errors_A)), (a_o0_variances, .inl (cI, 8, .inl v_o0_variances_A)), (a_o0_parents, .inl (cI, 8, .inl v_o0_parents_A)), (a_o0_onPan, .inl (cI, 8, .inl v_o0_onPan_A))] H := by rw [eg4]; exact hP
  have hD : va_D A [(a_h, .inr (6, [.ref a_h_masses, .ref a_h_errors, .ref a_h_variances, .ref a_h_parents, .ref a_h_onPan, .int v_o0_size])), (a_h_masses, .inl (cI, 8, .inl g2)), (a_h_errors, .inl (cI, 8, .inl g4)), (a_h_variances, .inl (cI, 8, .inl v_variances_A)), (a_h_parents, .inl (cI, 8, .inl v_parents_A)), (a_h_onPan, .inl (cI, 8, .inl v_onPan_A)), (a_o0, .inr (6, [.ref a_o0_masses, .ref a_o0_errors, .ref a_o0_variances, .ref a_o0_parents, .ref a_o0_onPan, .int v_o0_size])), (a_o0_masses, .inl (cI, 8, .inl v_o0_masses_A)), (a_o0_errors, .inl (cI, 8, .inl v_o0_errors_A)), (a_o0_variances, .inl (cI, 8, .inl v_o0_variances_A)), (a_o0_parents, .inl (cI, 8, .inl v_o0_parents_A)), (a_o0_onPan, .inl (cI, 8, .inl v_o0_onPan_A))] := by rw [eg4]; exact hD
  refine lv_aload_n hx hb dX6_copyFrom_38 rfl (lv_at hl 1 rfl) ?_
  refine va_get (D := D) (ci := 6) (v := .ref a_o0_variances) (C := RX6) (T := TX6) (N := 6) hx hb hts in_X6_copyFrom_X6 hown hK hP 6 rfl rfl 2 (by decide) (hts _ q_X6_copyFrom_8) (fun _ h9 => h9) rfl dX6_copyFrom_39 ?_
  refine lv_iconst (v := (0 : Int32)) hx hb dX6_copyFrom_42 (by decide) ?_
  refine lv_aload_n hx hb dX6_copyFrom_43 rfl (lv_at hl 0 rfl) ?_
  refine va_get (D := D) (ci := 6) (v := .ref a_h_variances) (C := RX6) (T := TX6) (N := 6) hx hb hts in_X6_copyFrom_X6 hown hK hP 0 rfl rfl 2 (by decide) (hts _ q_X6_copyFrom_8) (fun _ h9 => h9) rfl dX6_copyFrom_44 ?_
  refine lv_iconst (v := (0 : Int32)) hx hb dX6_copyFrom_47 (by decide) ?_
  refine lv_bipush (v := (8 : Int32)) hx hb dX6_copyFrom_48 (by decide) ?_
  obtain ⟨hz5, h⟩ := gT_e h
  refine va_copyi (ty := .int) hx hb (hml.trans hl.1.symm) hown (hts _ q_X6_copyFrom_3) (hts _ q_X6_copyFrom_4) (hts _ q_X6_copyFrom_5) (hts _ q_X6_copyFrom_6) hK hP hD hS 9 3 0 0 rfl rfl rfl rfl rfl hz5.1 hz5.2.1 hz5.2.2.1 hz5.2.2.2.1 hz5.2.2.2.2 (fun _ _ => rfl) (by decide) (Nat.le_of_ble_eq_true rfl) dX6_copyFrom_50 (fun H locs hP hD hS => ?_)
  obtain ⟨g6, eg6, h⟩ := nm_x h
  have hP : va_P D vwCl [(a_h, .inr (6, [.ref a_h_masses, .ref a_h_errors, .ref a_h_variances, .ref a_h_parents, .ref a_h_onPan, .int v_o0_size])), (a_h_masses, .inl (cI, 8, .inl g2)), (a_h_errors, .inl (cI, 8, .inl g4)), (a_h_variances, .inl (cI, 8, .inl g6)), (a_h_parents, .inl (cI, 8, .inl v_parents_A)), (a_h_onPan, .inl (cI, 8, .inl v_onPan_A)), (a_o0, .inr (6, [.ref a_o0_masses, .ref a_o0_errors, .ref a_o0_variances, .ref a_o0_parents, .ref a_o0_onPan, .int v_o0_size])), (a_o0_masses, .inl (cI, 8, .inl v_o0_masses_A)), (a_o0_errors, .inl (cI, 8, .inl v_o0_errors_A)), (a_o0_variances, .inl (cI, 8, .inl v_o0_variances_A)), (a_o0_parents, .inl (cI, 8, .inl v_o0_parents_A)), (a_o0_onPan, .inl (cI, 8, .inl v_o0_onPan_A))] H := by rw [eg6]; exact hP
  have hD : va_D A [(a_h, .inr (6, [.ref a_h_masses, .ref a_h_errors, .ref a_h_variances, .ref a_h_parents, .ref a_h_onPan, .int v_o0_size])), (a_h_masses, .inl (cI, 8, .inl g2)), (a_h_errors, .inl (cI, 8, .inl g4)), (a_h_variances, .inl (cI, 8, .inl g6)), (a_h_parents, .inl (cI, 8, .inl v_parents_A)), (a_h_onPan, .inl (cI, 8, .inl v_onPan_A)), (a_o0, .inr (6, [.ref a_o0_masses, .ref a_o0_errors, .ref a_o0_variances, .ref a_o0_parents, .ref a_o0_onPan, .int v_o0_size])), (a_o0_masses, .inl (cI, 8, .inl v_o0_masses_A)), (a_o0_errors, .inl (cI, 8, .inl v_o0_errors_A)), (a_o0_variances, .inl (cI, 8, .inl v_o0_variances_A)), (a_o0_parents, .inl (cI, 8, .inl v_o0_parents_A)), (a_o0_onPan, .inl (cI, 8, .inl v_o0_onPan_A))] := by rw [eg6]; exact hD
  refine lv_aload_n hx hb dX6_copyFrom_53 rfl (lv_at hl 1 rfl) ?_
  refine va_get (D := D) (ci := 6) (v := .ref a_o0_parents) (C := RX6) (T := TX6) (N := 6) hx hb hts in_X6_copyFrom_X6 hown hK hP 6 rfl rfl 3 (by decide) (hts _ q_X6_copyFrom_9) (fun _ h9 => h9) rfl dX6_copyFrom_54 ?_
  refine lv_iconst (v := (0 : Int32)) hx hb dX6_copyFrom_57 (by decide) ?_
  refine lv_aload_n hx hb dX6_copyFrom_58 rfl (lv_at hl 0 rfl) ?_
  refine va_get (D := D) (ci := 6) (v := .ref a_h_parents) (C := RX6) (T := TX6) (N := 6) hx hb hts in_X6_copyFrom_X6 hown hK hP 0 rfl rfl 3 (by decide) (hts _ q_X6_copyFrom_9) (fun _ h9 => h9) rfl dX6_copyFrom_59 ?_
  refine lv_iconst (v := (0 : Int32)) hx hb dX6_copyFrom_62 (by decide) ?_
  refine lv_bipush (v := (8 : Int32)) hx hb dX6_copyFrom_63 (by decide) ?_
  obtain ⟨hz7, h⟩ := gT_e h
  refine va_copyi (ty := .int) hx hb (hml.trans hl.1.symm) hown (hts _ q_X6_copyFrom_3) (hts _ q_X6_copyFrom_4) (hts _ q_X6_copyFrom_5) (hts _ q_X6_copyFrom_6) hK hP hD hS 10 4 0 0 rfl rfl rfl rfl rfl hz7.1 hz7.2.1 hz7.2.2.1 hz7.2.2.2.1 hz7.2.2.2.2 (fun _ _ => rfl) (by decide) (Nat.le_of_ble_eq_true rfl) dX6_copyFrom_65 (fun H locs hP hD hS => ?_)
  obtain ⟨g8, eg8, h⟩ := nm_x h
  have hP : va_P D vwCl [(a_h, .inr (6, [.ref a_h_masses, .ref a_h_errors, .ref a_h_variances, .ref a_h_parents, .ref a_h_onPan, .int v_o0_size])), (a_h_masses, .inl (cI, 8, .inl g2)), (a_h_errors, .inl (cI, 8, .inl g4)), (a_h_variances, .inl (cI, 8, .inl g6)), (a_h_parents, .inl (cI, 8, .inl g8)), (a_h_onPan, .inl (cI, 8, .inl v_onPan_A)), (a_o0, .inr (6, [.ref a_o0_masses, .ref a_o0_errors, .ref a_o0_variances, .ref a_o0_parents, .ref a_o0_onPan, .int v_o0_size])), (a_o0_masses, .inl (cI, 8, .inl v_o0_masses_A)), (a_o0_errors, .inl (cI, 8, .inl v_o0_errors_A)), (a_o0_variances, .inl (cI, 8, .inl v_o0_variances_A)), (a_o0_parents, .inl (cI, 8, .inl v_o0_parents_A)), (a_o0_onPan, .inl (cI, 8, .inl v_o0_onPan_A))] H := by rw [eg8]; exact hP
  have hD : va_D A [(a_h, .inr (6, [.ref a_h_masses, .ref a_h_errors, .ref a_h_variances, .ref a_h_parents, .ref a_h_onPan, .int v_o0_size])), (a_h_masses, .inl (cI, 8, .inl g2)), (a_h_errors, .inl (cI, 8, .inl g4)), (a_h_variances, .inl (cI, 8, .inl g6)), (a_h_parents, .inl (cI, 8, .inl g8)), (a_h_onPan, .inl (cI, 8, .inl v_onPan_A)), (a_o0, .inr (6, [.ref a_o0_masses, .ref a_o0_errors, .ref a_o0_variances, .ref a_o0_parents, .ref a_o0_onPan, .int v_o0_size])), (a_o0_masses, .inl (cI, 8, .inl v_o0_masses_A)), (a_o0_errors, .inl (cI, 8, .inl v_o0_errors_A)), (a_o0_variances, .inl (cI, 8, .inl v_o0_variances_A)), (a_o0_parents, .inl (cI, 8, .inl v_o0_parents_A)), (a_o0_onPan, .inl (cI, 8, .inl v_o0_onPan_A))] := by rw [eg8]; exact hD
  refine lv_aload_n hx hb dX6_copyFrom_68 rfl (lv_at hl 1 rfl) ?_
  refine va_get (D := D) (ci := 6) (v := .ref a_o0_onPan) (C := RX6) (T := TX6) (N := 6) hx hb hts in_X6_copyFrom_X6 hown hK hP 6 rfl rfl 4 (by decide) (hts _ q_X6_copyFrom_10) (fun _ h9 => h9) rfl dX6_copyFrom_69 ?_
  refine lv_iconst (v := (0 : Int32)) hx hb dX6_copyFrom_72 (by decide) ?_
  refine lv_aload_n hx hb dX6_copyFrom_73 rfl (lv_at hl 0 rfl) ?_
  refine va_get (D := D) (ci := 6) (v := .ref a_h_onPan) (C := RX6) (T := TX6) (N := 6) hx hb hts in_X6_copyFrom_X6 hown hK hP 0 rfl rfl 4 (by decide) (hts _ q_X6_copyFrom_10) (fun _ h9 => h9) rfl dX6_copyFrom_74 ?_
  refine lv_iconst (v := (0 : Int32)) hx hb dX6_copyFrom_77 (by decide) ?_
  refine lv_bipush (v := (8 : Int32)) hx hb dX6_copyFrom_78 (by decide) ?_
  obtain ⟨hz9, h⟩ := gT_e h
  refine va_copyi (ty := .int) hx hb (hml.trans hl.1.symm) hown (hts _ q_X6_copyFrom_3) (hts _ q_X6_copyFrom_4) (hts _ q_X6_copyFrom_5) (hts _ q_X6_copyFrom_6) hK hP hD hS 11 5 0 0 rfl rfl rfl rfl rfl hz9.1 hz9.2.1 hz9.2.2.1 hz9.2.2.2.1 hz9.2.2.2.2 (fun _ _ => rfl) (by decide) (Nat.le_of_ble_eq_true rfl) dX6_copyFrom_80 (fun H locs hP hD hS => ?_)
  obtain ⟨g10, eg10, h⟩ := nm_x h
  have hP : va_P D vwCl [(a_h, .inr (6, [.ref a_h_masses, .ref a_h_errors, .ref a_h_variances, .ref a_h_parents, .ref a_h_onPan, .int v_o0_size])), (a_h_masses, .inl (cI, 8, .inl g2)), (a_h_errors, .inl (cI, 8, .inl g4)), (a_h_variances, .inl (cI, 8, .inl g6)), (a_h_parents, .inl (cI, 8, .inl g8)), (a_h_onPan, .inl (cI, 8, .inl g10)), (a_o0, .inr (6, [.ref a_o0_masses, .ref a_o0_errors, .ref a_o0_variances, .ref a_o0_parents, .ref a_o0_onPan, .int v_o0_size])), (a_o0_masses, .inl (cI, 8, .inl v_o0_masses_A)), (a_o0_errors, .inl (cI, 8, .inl v_o0_errors_A)), (a_o0_variances, .inl (cI, 8, .inl v_o0_variances_A)), (a_o0_parents, .inl (cI, 8, .inl v_o0_parents_A)), (a_o0_onPan, .inl (cI, 8, .inl v_o0_onPan_A))] H := by rw [eg10]; exact hP
  have hD : va_D A [(a_h, .inr (6, [.ref a_h_masses, .ref a_h_errors, .ref a_h_variances, .ref a_h_parents, .ref a_h_onPan, .int v_o0_size])), (a_h_masses, .inl (cI, 8, .inl g2)), (a_h_errors, .inl (cI, 8, .inl g4)), (a_h_variances, .inl (cI, 8, .inl g6)), (a_h_parents, .inl (cI, 8, .inl g8)), (a_h_onPan, .inl (cI, 8, .inl g10)), (a_o0, .inr (6, [.ref a_o0_masses, .ref a_o0_errors, .ref a_o0_variances, .ref a_o0_parents, .ref a_o0_onPan, .int v_o0_size])), (a_o0_masses, .inl (cI, 8, .inl v_o0_masses_A)), (a_o0_errors, .inl (cI, 8, .inl v_o0_errors_A)), (a_o0_variances, .inl (cI, 8, .inl v_o0_variances_A)), (a_o0_parents, .inl (cI, 8, .inl v_o0_parents_A)), (a_o0_onPan, .inl (cI, 8, .inl v_o0_onPan_A))] := by rw [eg10]; exact hD
  obtain rfl := sm_e h
  exact rx_v hx hb hr  hP hK hD hS dX6_copyFrom_83 hlocks
-- X6_has
def f_X6_has (v_size : Int32) (p0 : Int32) : Option (Int32) :=
  (if p0 < 0 then some (0 : Int32)
    else (if v_size ≤ p0 then some (0 : Int32)
    else some (1 : Int32)))
theorem q_X6_has_1 : (.fieldLink RX6 27 "SpringBalance$Weights" "size" "I" : Cond) ∈ wsX6_has := List.mem_of_getElem? (i := 1) (by decide +kernel)
set_option maxRecDepth 20000 in
theorem in_X6_has_X6 : ∀ w ∈ u_ws RX6 TX6 6, w ∈ wsX6_has := by decide +kernel
set_option maxHeartbeats 8000000 in
set_option maxRecDepth 100000 in
theorem k_X6_has (l : Launch) (D : va_G) (cI cC cJ cB : ClassId) (a_h a_h_masses a_h_errors a_h_variances a_h_parents a_h_onPan : Nat) (v_size : Int32) (N : Nat) (p0 : Int32) (sz : Nat) (u : Int32) (hu : f_X6_has v_size p0 = some u) :
    Met l yX6_has wsX6_has ({ frames := 0, cells := 0, slots := 0, locals := 0 } : Room) (va_Pc [.ref a_h, .int p0] (PreW D (ty4 cI cC cJ cB) sz [(a_h, .inr (6, [.ref a_h_masses, .ref a_h_errors, .ref a_h_variances, .ref a_h_parents, .ref a_h_onPan, .int v_size]))]))
      (QI D (ty4 cI cC cJ cB) (va_A [(a_h, .inr (6, [.ref a_h_masses, .ref a_h_errors, .ref a_h_variances, .ref a_h_parents, .ref a_h_onPan, .int v_size]))] sz) [(a_h, .inr (6, [.ref a_h_masses, .ref a_h_errors, .ref a_h_variances, .ref a_h_parents, .ref a_h_onPan, .int v_size]))] u) 0 0 (va_A [(a_h, .inr (6, [.ref a_h_masses, .ref a_h_errors, .ref a_h_variances, .ref a_h_parents, .ref a_h_onPan, .int v_size]))] sz) := by
  refine met_go (y := yX6_has) (wsy := wsX6_has) (cc := cX6_has) (maxL := 2) (ret := (some .boolean)) (av := [.ref a_h, .int p0]) (Qc := fun A => QI D (ty4 cI cC cJ cB) A [(a_h, .inr (6, [.ref a_h_masses, .ref a_h_errors, .ref a_h_variances, .ref a_h_parents, .ref a_h_onPan, .int v_size]))] u) (by decide) rfl (Nat.le_of_ble_eq_true rfl) ?_
  intro p e s m below meth c A ls hx hb hr hml hown hts hlocks hnm hN hK hP hD hS hA hl
  have h := hu
  clear hu
  unfold f_X6_has at h
  have hl : lv_has ls 2 [(0, .ref a_h), (1, .int p0)] := hl
  refine lv_iload_n hx hb dX6_has_0 rfl (lv_at hl 1 rfl) ?_
  refine lv_if_lt (tgt := 16) hx hb dX6_has_1 (by decide) (fun hc1 => ?_) (fun hc1 => ?_)
  · replace h := it_e hc1 h
    refine lv_iconst (v := (0 : Int32)) hx hb dX6_has_16 (by decide) ?_
    obtain rfl := sm_e h
    exact rx_z hx hb hr rfl hP hK hD hS dX6_has_17 hlocks
  · replace h := if_e hc1 h
    refine lv_iload_n hx hb dX6_has_4 rfl (lv_at hl 1 rfl) ?_
    refine lv_aload_n hx hb dX6_has_5 rfl (lv_at hl 0 rfl) ?_
    refine va_get (D := D) (ci := 6) (v := .int v_size) (C := RX6) (T := TX6) (N := 6) hx hb hts in_X6_has_X6 hown hK hP 0 rfl rfl 5 (by decide) (hts _ q_X6_has_1) (fun _ h9 => h9) rfl dX6_has_6 ?_
    refine lv_icmp_ge (tgt := 16) hx hb dX6_has_9 (by decide) (fun hc2 => ?_) (fun hc2 => ?_)
    · replace h := it_e hc2 h
      refine lv_iconst (v := (0 : Int32)) hx hb dX6_has_16 (by decide) ?_
      obtain rfl := sm_e h
      exact rx_z hx hb hr rfl hP hK hD hS dX6_has_17 hlocks
    · replace h := if_e hc2 h
      refine lv_iconst (v := (1 : Int32)) hx hb dX6_has_12 (by decide) ?_
      refine lv_goto (tgt := 17) hx hb dX6_has_13 (by decide) ?_
      obtain rfl := sm_e h
      exact rx_z hx hb hr rfl hP hK hD hS dX6_has_17 hlocks
-- X6_append
def f_X6_append (v_size : Int32) (v_masses_A : Nat → Int32) (v_errors_A : Nat → Int32) (v_variances_A : Nat → Int32) (v_parents_A : Nat → Int32) (v_onPan_A : Nat → Int32) (p0 : Int32) (p1 : Int32) (p2 : Int32) (p3 : Int32) : Option (Int32 × (Nat → Int32) × (Nat → Int32) × (Nat → Int32) × (Nat → Int32) × (Nat → Int32)) :=
  (if (8 : Int32) ≤ v_size then some (v_size, v_masses_A, v_errors_A, v_variances_A, v_parents_A, v_onPan_A)
    else gA v_size 8 (nm (upd v_masses_A (Int32.toNatClampNeg v_size) p0) (fun g3 => gA v_size 8 (nm (upd v_errors_A (Int32.toNatClampNeg v_size) p1) (fun g5 => gA v_size 8 (nm (upd v_variances_A (Int32.toNatClampNeg v_size) p2) (fun g7 => gA v_size 8 (nm (upd v_parents_A (Int32.toNatClampNeg v_size) p3) (fun g9 => gA v_size 8 (nm (upd v_onPan_A (Int32.toNatClampNeg v_size) (0 : Int32)) (fun g11 => nm (v_size + (1 : Int32)) (fun t12 => some (t12, g3, g5, g7, g9, g11)))))))))))))
theorem q_X6_append_1 : (.fieldLink RX6 27 "SpringBalance$Weights" "size" "I" : Cond) ∈ wsX6_append := List.mem_of_getElem? (i := 1) (by decide +kernel)
set_option maxRecDepth 20000 in
theorem in_X6_append_X6 : ∀ w ∈ u_ws RX6 TX6 6, w ∈ wsX6_append := by decide +kernel
theorem q_X6_append_2 : (.fieldLink RX6 9 "SpringBalance$Weights" "masses" "[I" : Cond) ∈ wsX6_append := List.mem_of_getElem? (i := 2) (by decide +kernel)
theorem q_X6_append_3 : (.fieldLink RX6 15 "SpringBalance$Weights" "errors" "[I" : Cond) ∈ wsX6_append := List.mem_of_getElem? (i := 3) (by decide +kernel)
theorem q_X6_append_4 : (.fieldLink RX6 18 "SpringBalance$Weights" "variances" "[I" : Cond) ∈ wsX6_append := List.mem_of_getElem? (i := 4) (by decide +kernel)
theorem q_X6_append_5 : (.fieldLink RX6 21 "SpringBalance$Weights" "parents" "[I" : Cond) ∈ wsX6_append := List.mem_of_getElem? (i := 5) (by decide +kernel)
theorem q_X6_append_6 : (.fieldLink RX6 24 "SpringBalance$Weights" "onPan" "[I" : Cond) ∈ wsX6_append := List.mem_of_getElem? (i := 6) (by decide +kernel)
set_option maxHeartbeats 8000000 in
set_option maxRecDepth 100000 in
theorem k_X6_append (l : Launch) (D : va_G) (cI cC cJ cB : ClassId) (a_h a_h_masses a_h_errors a_h_variances a_h_parents a_h_onPan : Nat) (v_size : Int32) (v_masses_A : Nat → Int32) (v_errors_A : Nat → Int32) (v_variances_A : Nat → Int32) (v_parents_A : Nat → Int32) (v_onPan_A : Nat → Int32) (N : Nat) (p0 : Int32) (p1 : Int32) (p2 : Int32) (p3 : Int32) (sz : Nat) (u : Int32 × (Nat → Int32) × (Nat → Int32) × (Nat → Int32) × (Nat → Int32) × (Nat → Int32)) (hu : f_X6_append v_size v_masses_A v_errors_A v_variances_A v_parents_A v_onPan_A p0 p1 p2 p3 = some u) :
    Met l yX6_append wsX6_append ({ frames := 0, cells := 0, slots := 0, locals := 0 } : Room) (va_Pc [.ref a_h, .int p0, .int p1, .int p2, .int p3] (PreW D (ty4 cI cC cJ cB) sz [(a_h, .inr (6, [.ref a_h_masses, .ref a_h_errors, .ref a_h_variances, .ref a_h_parents, .ref a_h_onPan, .int v_size])), (a_h_masses, .inl (cI, 8, .inl v_masses_A)), (a_h_errors, .inl (cI, 8, .inl v_errors_A)), (a_h_variances, .inl (cI, 8, .inl v_variances_A)), (a_h_parents, .inl (cI, 8, .inl v_parents_A)), (a_h_onPan, .inl (cI, 8, .inl v_onPan_A))]))
      (QV D (ty4 cI cC cJ cB) (va_A [(a_h, .inr (6, [.ref a_h_masses, .ref a_h_errors, .ref a_h_variances, .ref a_h_parents, .ref a_h_onPan, .int v_size])), (a_h_masses, .inl (cI, 8, .inl v_masses_A)), (a_h_errors, .inl (cI, 8, .inl v_errors_A)), (a_h_variances, .inl (cI, 8, .inl v_variances_A)), (a_h_parents, .inl (cI, 8, .inl v_parents_A)), (a_h_onPan, .inl (cI, 8, .inl v_onPan_A))] sz) [(a_h, .inr (6, [.ref a_h_masses, .ref a_h_errors, .ref a_h_variances, .ref a_h_parents, .ref a_h_onPan, .int u.1])), (a_h_masses, .inl (cI, 8, .inl u.2.1)), (a_h_errors, .inl (cI, 8, .inl u.2.2.1)), (a_h_variances, .inl (cI, 8, .inl u.2.2.2.1)), (a_h_parents, .inl (cI, 8, .inl u.2.2.2.2.1)), (a_h_onPan, .inl (cI, 8, .inl u.2.2.2.2.2))]) 0 0 (va_A [(a_h, .inr (6, [.ref a_h_masses, .ref a_h_errors, .ref a_h_variances, .ref a_h_parents, .ref a_h_onPan, .int v_size])), (a_h_masses, .inl (cI, 8, .inl v_masses_A)), (a_h_errors, .inl (cI, 8, .inl v_errors_A)), (a_h_variances, .inl (cI, 8, .inl v_variances_A)), (a_h_parents, .inl (cI, 8, .inl v_parents_A)), (a_h_onPan, .inl (cI, 8, .inl v_onPan_A))] sz) := by
  refine met_go (y := yX6_append) (wsy := wsX6_append) (cc := cX6_append) (maxL := 5) (ret := none) (av := [.ref a_h, .int p0, .int p1, .int p2, .int p3]) (Qc := fun A => QV D (ty4 cI cC cJ cB) A [(a_h, .inr (6, [.ref a_h_masses, .ref a_h_errors, .ref a_h_variances, .ref a_h_parents, .ref a_h_onPan, .int u.1])), (a_h_masses, .inl (cI, 8, .inl u.2.1)), (a_h_errors, .inl (cI, 8, .inl u.2.2.1)), (a_h_variances, .inl (cI, 8, .inl u.2.2.2.1)), (a_h_parents, .inl (cI, 8, .inl u.2.2.2.2.1)), (a_h_onPan, .inl (cI, 8, .inl u.2.2.2.2.2))]) (by decide) rfl (Nat.le_of_ble_eq_true rfl) ?_
  intro p e s m below meth c A ls hx hb hr hml hown hts hlocks hnm hN hK hP hD hS hA hl
  have h := hu
  clear hu
  unfold f_X6_append at h
  have hl : lv_has ls 5 [(0, .ref a_h), (1, .int p0), (2, .int p1), (3, .int p2), (4, .int p3)] := hl
  refine lv_aload_n hx hb dX6_append_0 rfl (lv_at hl 0 rfl) ?_
  refine va_get (D := D) (ci := 6) (v := .int v_size) (C := RX6) (T := TX6) (N := 6) hx hb hts in_X6_append_X6 hown hK hP 0 rfl rfl 5 (by decide) (hts _ q_X6_append_1) (fun _ h9 => h9) rfl dX6_append_1 ?_
  refine lv_bipush (v := (8 : Int32)) hx hb dX6_append_4 (by decide) ?_
  refine lv_icmp_ge (tgt := 70) hx hb dX6_append_6 (by decide) (fun hc1 => ?_) (fun hc1 => ?_)
  · replace h := it_e hc1 h
    obtain rfl := sm_e h
    exact rx_v hx hb hr  hP hK hD hS dX6_append_70 hlocks
  · replace h := if_e hc1 h
    refine lv_aload_n hx hb dX6_append_9 rfl (lv_at hl 0 rfl) ?_
    refine va_get (D := D) (ci := 6) (v := .ref a_h_masses) (C := RX6) (T := TX6) (N := 6) hx hb hts in_X6_append_X6 hown hK hP 0 rfl rfl 0 (by decide) (hts _ q_X6_append_2) (fun _ h9 => h9) rfl dX6_append_10 ?_
    refine lv_aload_n hx hb dX6_append_13 rfl (lv_at hl 0 rfl) ?_
    refine va_get (D := D) (ci := 6) (v := .int v_size) (C := RX6) (T := TX6) (N := 6) hx hb hts in_X6_append_X6 hown hK hP 0 rfl rfl 5 (by decide) (hts _ q_X6_append_1) (fun _ h9 => h9) rfl dX6_append_14 ?_
    refine lv_iload_n hx hb dX6_append_17 rfl (lv_at hl 1 rfl) ?_
    obtain ⟨hi2, h⟩ := gA_e h
    refine wx_iast hx hb hK hP hD hS 1 0 rfl rfl (Int32.toNatClampNeg v_size) rfl hi2 dX6_append_18 rfl (fun H locs hP hD hS => ?_)
    obtain ⟨g3, eg3, h⟩ := nm_x h
    have hP : va_P D vwCl [(a_h, .inr (6, [.ref a_h_masses, .ref a_h_errors, .ref a_h_variances, .ref a_h_parents, .ref a_h_onPan, .int v_size])), (a_h_masses, .inl (cI, 8, .inl g3)), (a_h_errors, .inl (cI, 8, .inl v_errors_A)), (a_h_variances, .inl (cI, 8, .inl v_variances_A)), (a_h_parents, .inl (cI, 8, .inl v_parents_A)), (a_h_onPan, .inl (cI, 8, .inl v_onPan_A))] H := by rw [eg3]; exact hP
    have hD : va_D A [(a_h, .inr (6, [.ref a_h_masses, .ref a_h_errors, .ref a_h_variances, .ref a_h_parents, .ref a_h_onPan, .int v_size])), (a_h_masses, .inl (cI, 8, .inl g3)), (a_h_errors, .inl (cI, 8, .inl v_errors_A)), (a_h_variances, .inl (cI, 8, .inl v_variances_A)), (a_h_parents, .inl (cI, 8, .inl v_parents_A)), (a_h_onPan, .inl (cI, 8, .inl v_onPan_A))] := by rw [eg3]; exact hD
    refine lv_aload_n hx hb dX6_append_19 rfl (lv_at hl 0 rfl) ?_
    refine va_get (D := D) (ci := 6) (v := .ref a_h_errors) (C := RX6) (T := TX6) (N := 6) hx hb hts in_X6_append_X6 hown hK hP 0 rfl rfl 1 (by decide) (hts _ q_X6_append_3) (fun _ h9 => h9) rfl dX6_append_20 ?_
    refine lv_aload_n hx hb dX6_append_23 rfl (lv_at hl 0 rfl) ?_
    refine va_get (D := D) (ci := 6) (v := .int v_size) (C := RX6) (T := TX6) (N := 6) hx hb hts in_X6_append_X6 hown hK hP 0 rfl rfl 5 (by decide) (hts _ q_X6_append_1) (fun _ h9 => h9) rfl dX6_append_24 ?_
    refine lv_iload_n hx hb dX6_append_27 rfl (lv_at hl 2 rfl) ?_
    obtain ⟨hi4, h⟩ := gA_e h
    refine wx_iast hx hb hK hP hD hS 2 0 rfl rfl (Int32.toNatClampNeg v_size) rfl hi4 dX6_append_28 rfl (fun H locs hP hD hS => ?_)
    obtain ⟨g5, eg5, h⟩ := nm_x h
    have hP : va_P D vwCl [(a_h, .inr (6, [.ref a_h_masses, .ref a_h_errors, .ref a_h_variances, .ref a_h_parents, .ref a_h_onPan, .int v_size])), (a_h_masses, .inl (cI, 8, .inl g3)), (a_h_errors, .inl (cI, 8, .inl g5)), (a_h_variances, .inl (cI, 8, .inl v_variances_A)), (a_h_parents, .inl (cI, 8, .inl v_parents_A)), (a_h_onPan, .inl (cI, 8, .inl v_onPan_A))] H := by rw [eg5]; exact hP
    have hD : va_D A [(a_h, .inr (6, [.ref a_h_masses, .ref a_h_errors, .ref a_h_variances, .ref a_h_parents, .ref a_h_onPan, .int v_size])), (a_h_masses, .inl (cI, 8, .inl g3)), (a_h_errors, .inl (cI, 8, .inl g5)), (a_h_variances, .inl (cI, 8, .inl v_variances_A)), (a_h_parents, .inl (cI, 8, .inl v_parents_A)), (a_h_onPan, .inl (cI, 8, .inl v_onPan_A))] := by rw [eg5]; exact hD
    refine lv_aload_n hx hb dX6_append_29 rfl (lv_at hl 0 rfl) ?_
    refine va_get (D := D) (ci := 6) (v := .ref a_h_variances) (C := RX6) (T := TX6) (N := 6) hx hb hts in_X6_append_X6 hown hK hP 0 rfl rfl 2 (by decide) (hts _ q_X6_append_4) (fun _ h9 => h9) rfl dX6_append_30 ?_
    refine lv_aload_n hx hb dX6_append_33 rfl (lv_at hl 0 rfl) ?_
    refine va_get (D := D) (ci := 6) (v := .int v_size) (C := RX6) (T := TX6) (N := 6) hx hb hts in_X6_append_X6 hown hK hP 0 rfl rfl 5 (by decide) (hts _ q_X6_append_1) (fun _ h9 => h9) rfl dX6_append_34 ?_
    refine lv_iload_n hx hb dX6_append_37 rfl (lv_at hl 3 rfl) ?_
    obtain ⟨hi6, h⟩ := gA_e h
    refine wx_iast hx hb hK hP hD hS 3 0 rfl rfl (Int32.toNatClampNeg v_size) rfl hi6 dX6_append_38 rfl (fun H locs hP hD hS => ?_)
    obtain ⟨g7, eg7, h⟩ := nm_x h
    have hP : va_P D vwCl [(a_h, .inr (6, [.ref a_h_masses, .ref a_h_errors, .ref a_h_variances, .ref a_h_parents, .ref a_h_onPan, .int v_size])), (a_h_masses, .inl (cI, 8, .inl g3)), (a_h_errors, .inl (cI, 8, .inl g5)), (a_h_variances, .inl (cI, 8, .inl g7)), (a_h_parents, .inl (cI, 8, .inl v_parents_A)), (a_h_onPan, .inl (cI, 8, .inl v_onPan_A))] H := by rw [eg7]; exact hP
    have hD : va_D A [(a_h, .inr (6, [.ref a_h_masses, .ref a_h_errors, .ref a_h_variances, .ref a_h_parents, .ref a_h_onPan, .int v_size])), (a_h_masses, .inl (cI, 8, .inl g3)), (a_h_errors, .inl (cI, 8, .inl g5)), (a_h_variances, .inl (cI, 8, .inl g7)), (a_h_parents, .inl (cI, 8, .inl v_parents_A)), (a_h_onPan, .inl (cI, 8, .inl v_onPan_A))] := by rw [eg7]; exact hD
    refine lv_aload_n hx hb dX6_append_39 rfl (lv_at hl 0 rfl) ?_
    refine va_get (D := D) (ci := 6) (v := .ref a_h_parents) (C := RX6) (T := TX6) (N := 6) hx hb hts in_X6_append_X6 hown hK hP 0 rfl rfl 3 (by decide) (hts _ q_X6_append_5) (fun _ h9 => h9) rfl dX6_append_40 ?_
    refine lv_aload_n hx hb dX6_append_43 rfl (lv_at hl 0 rfl) ?_
    refine va_get (D := D) (ci := 6) (v := .int v_size) (C := RX6) (T := TX6) (N := 6) hx hb hts in_X6_append_X6 hown hK hP 0 rfl rfl 5 (by decide) (hts _ q_X6_append_1) (fun _ h9 => h9) rfl dX6_append_44 ?_
    refine lv_iload hx hb dX6_append_47 (lv_at hl 4 rfl) ?_
    obtain ⟨hi8, h⟩ := gA_e h
    refine wx_iast hx hb hK hP hD hS 4 0 rfl rfl (Int32.toNatClampNeg v_size) rfl hi8 dX6_append_49 rfl (fun H locs hP hD hS => ?_)
    obtain ⟨g9, eg9, h⟩ := nm_x h
    have hP : va_P D vwCl [(a_h, .inr (6, [.ref a_h_masses, .ref a_h_errors, .ref a_h_variances, .ref a_h_parents, .ref a_h_onPan, .int v_size])), (a_h_masses, .inl (cI, 8, .inl g3)), (a_h_errors, .inl (cI, 8, .inl g5)), (a_h_variances, .inl (cI, 8, .inl g7)), (a_h_parents, .inl (cI, 8, .inl g9)), (a_h_onPan, .inl (cI, 8, .inl v_onPan_A))] H := by rw [eg9]; exact hP
    have hD : va_D A [(a_h, .inr (6, [.ref a_h_masses, .ref a_h_errors, .ref a_h_variances, .ref a_h_parents, .ref a_h_onPan, .int v_size])), (a_h_masses, .inl (cI, 8, .inl g3)), (a_h_errors, .inl (cI, 8, .inl g5)), (a_h_variances, .inl (cI, 8, .inl g7)), (a_h_parents, .inl (cI, 8, .inl g9)), (a_h_onPan, .inl (cI, 8, .inl v_onPan_A))] := by rw [eg9]; exact hD
    refine lv_aload_n hx hb dX6_append_50 rfl (lv_at hl 0 rfl) ?_
    refine va_get (D := D) (ci := 6) (v := .ref a_h_onPan) (C := RX6) (T := TX6) (N := 6) hx hb hts in_X6_append_X6 hown hK hP 0 rfl rfl 4 (by decide) (hts _ q_X6_append_6) (fun _ h9 => h9) rfl dX6_append_51 ?_
    refine lv_aload_n hx hb dX6_append_54 rfl (lv_at hl 0 rfl) ?_
    refine va_get (D := D) (ci := 6) (v := .int v_size) (C := RX6) (T := TX6) (N := 6) hx hb hts in_X6_append_X6 hown hK hP 0 rfl rfl 5 (by decide) (hts _ q_X6_append_1) (fun _ h9 => h9) rfl dX6_append_55 ?_
    refine lv_iconst (v := (0 : Int32)) hx hb dX6_append_58 (by decide) ?_
    obtain ⟨hi10, h⟩ := gA_e h
    refine wx_iast hx hb hK hP hD hS 5 0 rfl rfl (Int32.toNatClampNeg v_size) rfl hi10 dX6_append_59 rfl (fun H locs hP hD hS => ?_)
    obtain ⟨g11, eg11, h⟩ := nm_x h
    have hP : va_P D vwCl [(a_h, .inr (6, [.ref a_h_masses, .ref a_h_errors, .ref a_h_variances, .ref a_h_parents, .ref a_h_onPan, .int v_size])), (a_h_masses, .inl (cI, 8, .inl g3)), (a_h_errors, .inl (cI, 8, .inl g5)), (a_h_variances, .inl (cI, 8, .inl g7)), (a_h_parents, .inl (cI, 8, .inl g9)), (a_h_onPan, .inl (cI, 8, .inl g11))] H := by rw [eg11]; exact hP
    have hD : va_D A [(a_h, .inr (6, [.ref a_h_masses, .ref a_h_errors, .ref a_h_variances, .ref a_h_parents, .ref a_h_onPan, .int v_size])), (a_h_masses, .inl (cI, 8, .inl g3)), (a_h_errors, .inl (cI, 8, .inl g5)), (a_h_variances, .inl (cI, 8, .inl g7)), (a_h_parents, .inl (cI, 8, .inl g9)), (a_h_onPan, .inl (cI, 8, .inl g11))] := by rw [eg11]; exact hD
    refine lv_aload_n hx hb dX6_append_60 rfl (lv_at hl 0 rfl) ?_
    refine lv_dup hx hb dX6_append_61 rfl ?_
    refine va_get (D := D) (ci := 6) (v := .int v_size) (C := RX6) (T := TX6) (N := 6) hx hb hts in_X6_append_X6 hown hK hP 0 rfl rfl 5 (by decide) (hts _ q_X6_append_1) (fun _ h9 => h9) rfl dX6_append_62 ?_
    refine lv_iconst (v := (1 : Int32)) hx hb dX6_append_65 (by decide) ?_
    refine lv_iadd hx hb dX6_append_66 ?_
    refine lv_topi (fun t12 et12 => ?_)
    replace h := nm_at h et12
    refine va_put (D := D) (ci := 6) (v := .int t12) (ty := .int) (C := RX6) (T := TX6) (N := 6) hx hb hts in_X6_append_X6 tyX6 tyX6_ok nmX6 hown hK hP hD hS 0 rfl rfl 5 (by decide) (hts _ q_X6_append_1) (fun _ h9 => h9) rfl (by decide +kernel) rfl rfl (Nat.le_of_ble_eq_true rfl) dX6_append_67 (fun H locs hP hD hS => ?_)
    have hP : va_P D vwCl [(a_h, .inr (6, [.ref a_h_masses, .ref a_h_errors, .ref a_h_variances, .ref a_h_parents, .ref a_h_onPan, .int t12])), (a_h_masses, .inl (cI, 8, .inl g3)), (a_h_errors, .inl (cI, 8, .inl g5)), (a_h_variances, .inl (cI, 8, .inl g7)), (a_h_parents, .inl (cI, 8, .inl g9)), (a_h_onPan, .inl (cI, 8, .inl g11))] H := hP
    have hD : va_D A [(a_h, .inr (6, [.ref a_h_masses, .ref a_h_errors, .ref a_h_variances, .ref a_h_parents, .ref a_h_onPan, .int t12])), (a_h_masses, .inl (cI, 8, .inl g3)), (a_h_errors, .inl (cI, 8, .inl g5)), (a_h_variances, .inl (cI, 8, .inl g7)), (a_h_parents, .inl (cI, 8, .inl g9)), (a_h_onPan, .inl (cI, 8, .inl g11))] := hD
    obtain rfl := sm_e h
    exact rx_v hx hb hr  hP hK hD hS dX6_append_70 hlocks
-- X6_closeGap
def f_X6_closeGap_b2 (n_r0 : Nat) (v_size : Int32) : Nat → Int32 → (Nat → Int32) → Option ((Nat → Int32))
  | 0, _, _ => none
  | k + 1, x3, m_r0_A =>
    (if v_size ≤ (x3 + (1 : Int32)) then some m_r0_A
    else (if (Int32.ofNat n_r0) ≤ (x3 + (1 : Int32)) then some m_r0_A
    else gA (x3 + (1 : Int32)) n_r0 (nm (m_r0_A (Int32.toNatClampNeg (x3 + (1 : Int32)))) (fun t4 => gA x3 n_r0 (nm (upd m_r0_A (Int32.toNatClampNeg x3) t4) (fun g6 => nm (x3 + (1 : Int32)) (fun t7 => (f_X6_closeGap_b2 n_r0 v_size k t7 g6))))))))
def f_X6_closeGap (N : Nat) (n_r0 : Nat) (v_size : Int32) (v_r0_A : Nat → Int32) (p1 : Int32) : Option ((Nat → Int32)) :=
  (f_X6_closeGap_b2 n_r0 v_size N p1 v_r0_A)
theorem q_X6_closeGap_1 : (.fieldLink RX6 27 "SpringBalance$Weights" "size" "I" : Cond) ∈ wsX6_closeGap := List.mem_of_getElem? (i := 1) (by decide +kernel)
set_option maxRecDepth 20000 in
theorem in_X6_closeGap_X6 : ∀ w ∈ u_ws RX6 TX6 6, w ∈ wsX6_closeGap := by decide +kernel
set_option maxHeartbeats 8000000 in
set_option maxRecDepth 100000 in
theorem k_X6_closeGap (l : Launch) (D : va_G) (cI cC cJ cB : ClassId) (a_h a_h_masses a_h_errors a_h_variances a_h_parents a_h_onPan a_r0 : Nat) (n_r0 : Nat) (v_size : Int32) (v_r0_A : Nat → Int32) (N : Nat) (p1 : Int32) (sz : Nat) (u : (Nat → Int32)) (hu : f_X6_closeGap N n_r0 v_size v_r0_A p1 = some u) :
    Met l yX6_closeGap wsX6_closeGap ({ frames := 0, cells := 0, slots := 0, locals := 0 } : Room) (va_Pc [.ref a_h, .ref a_r0, .int p1] (PreW D (ty4 cI cC cJ cB) sz [(a_h, .inr (6, [.ref a_h_masses, .ref a_h_errors, .ref a_h_variances, .ref a_h_parents, .ref a_h_onPan, .int v_size])), (a_r0, .inl (cI, n_r0, .inl v_r0_A))]))
      (QV D (ty4 cI cC cJ cB) (va_A [(a_h, .inr (6, [.ref a_h_masses, .ref a_h_errors, .ref a_h_variances, .ref a_h_parents, .ref a_h_onPan, .int v_size])), (a_r0, .inl (cI, n_r0, .inl v_r0_A))] sz) [(a_h, .inr (6, [.ref a_h_masses, .ref a_h_errors, .ref a_h_variances, .ref a_h_parents, .ref a_h_onPan, .int v_size])), (a_r0, .inl (cI, n_r0, .inl u))]) 0 0 (va_A [(a_h, .inr (6, [.ref a_h_masses, .ref a_h_errors, .ref a_h_variances, .ref a_h_parents, .ref a_h_onPan, .int v_size])), (a_r0, .inl (cI, n_r0, .inl v_r0_A))] sz) := by
  refine met_go (y := yX6_closeGap) (wsy := wsX6_closeGap) (cc := cX6_closeGap) (maxL := 4) (ret := none) (av := [.ref a_h, .ref a_r0, .int p1]) (Qc := fun A => QV D (ty4 cI cC cJ cB) A [(a_h, .inr (6, [.ref a_h_masses, .ref a_h_errors, .ref a_h_variances, .ref a_h_parents, .ref a_h_onPan, .int v_size])), (a_r0, .inl (cI, n_r0, .inl u))]) (by decide) rfl (Nat.le_of_ble_eq_true rfl) ?_
  intro p e s m below meth c A ls hx hb hr hml hown hts hlocks hnm hN hK hP hD hS hA hl
  have h := hu
  clear hu
  unfold f_X6_closeGap at h
  have hl : lv_has ls 4 [(0, .ref a_h), (1, .ref a_r0), (2, .int p1)] := hl
  have B2 : ∀ (k : Nat) (x3 : Int32) (m_r0_A : Nat → Int32) (H : Heap) (locs : List Loc) (ls : Array Slot), f_X6_closeGap_b2 n_r0 v_size k x3 m_r0_A = some u → va_P D vwCl [(a_h, .inr (6, [.ref a_h_masses, .ref a_h_errors, .ref a_h_variances, .ref a_h_parents, .ref a_h_onPan, .int v_size])), (a_r0, .inl (cI, n_r0, .inl m_r0_A))] H → va_D A [(a_h, .inr (6, [.ref a_h_masses, .ref a_h_errors, .ref a_h_variances, .ref a_h_parents, .ref a_h_onPan, .int v_size])), (a_r0, .inl (cI, n_r0, .inl m_r0_A))] → va_S A s.heap H locs → lv_has ls 4 [(0, .ref a_h), (1, .ref a_r0), (2, .int p1), (3, .int x3)] → W p l e ({ frames := 0, cells := 0, slots := 0, locals := 0 } : Room) s m ([.ref a_h, .ref a_r0, .int p1] : List Value).toArray below meth c H locs 0 0 (MQ below (QV D (ty4 cI cC cJ cB) A [(a_h, .inr (6, [.ref a_h_masses, .ref a_h_errors, .ref a_h_variances, .ref a_h_parents, .ref a_h_onPan, .int v_size])), (a_r0, .inl (cI, n_r0, .inl u))]) ([.ref a_h, .ref a_r0, .int p1] : List Value).toArray s 0 0 A) (F0 m 2 ls []) := by
    intro k
    induction k with
    | zero =>
      intro x3 m_r0_A H locs ls h
      exact nomatch (show (none : Option ((Nat → Int32))) = some u from h)
    | succ k ih =>
      intro x3 m_r0_A H locs ls h hP hD hS hl
      rw [f_X6_closeGap_b2.eq_2] at h
      refine lv_iload_n hx hb dX6_closeGap_2 rfl (lv_at hl 3 rfl) ?_
      refine lv_iconst (v := (1 : Int32)) hx hb dX6_closeGap_3 (by decide) ?_
      refine lv_iadd hx hb dX6_closeGap_4 ?_
      refine lv_aload_n hx hb dX6_closeGap_5 rfl (lv_at hl 0 rfl) ?_
      refine va_get (D := D) (ci := 6) (v := .int v_size) (C := RX6) (T := TX6) (N := 6) hx hb hts in_X6_closeGap_X6 hown hK hP 0 rfl rfl 5 (by decide) (hts _ q_X6_closeGap_1) (fun _ h9 => h9) rfl dX6_closeGap_6 ?_
      refine lv_icmp_ge (tgt := 34) hx hb dX6_closeGap_9 (by decide) (fun hc1 => ?_) (fun hc1 => ?_)
      · replace h := it_e hc1 h
        obtain rfl := sm_e h
        exact rx_v hx hb hr  hP hK hD hS dX6_closeGap_34 hlocks
      · replace h := if_e hc1 h
        refine lv_iload_n hx hb dX6_closeGap_12 rfl (lv_at hl 3 rfl) ?_
        refine lv_iconst (v := (1 : Int32)) hx hb dX6_closeGap_13 (by decide) ?_
        refine lv_iadd hx hb dX6_closeGap_14 ?_
        refine lv_aload_n hx hb dX6_closeGap_15 rfl (lv_at hl 1 rfl) ?_
        refine va_alen (ty := .int) (v := (Int32.ofNat n_r0)) hx hb hK hP 1 0 rfl rfl rfl dX6_closeGap_16 ?_
        refine lv_icmp_ge (tgt := 34) hx hb dX6_closeGap_17 (by decide) (fun hc2 => ?_) (fun hc2 => ?_)
        · replace h := it_e hc2 h
          obtain rfl := sm_e h
          exact rx_v hx hb hr  hP hK hD hS dX6_closeGap_34 hlocks
        · replace h := if_e hc2 h
          refine lv_aload_n hx hb dX6_closeGap_20 rfl (lv_at hl 1 rfl) ?_
          refine lv_iload_n hx hb dX6_closeGap_21 rfl (lv_at hl 3 rfl) ?_
          refine lv_aload_n hx hb dX6_closeGap_22 rfl (lv_at hl 1 rfl) ?_
          refine lv_iload_n hx hb dX6_closeGap_23 rfl (lv_at hl 3 rfl) ?_
          refine lv_iconst (v := (1 : Int32)) hx hb dX6_closeGap_24 (by decide) ?_
          refine lv_iadd hx hb dX6_closeGap_25 ?_
          obtain ⟨hi3, h⟩ := gA_e h
          refine wx_iald hx hb hK hP 1 0 rfl rfl (Int32.toNatClampNeg (x3 + (1 : Int32))) rfl hi3 dX6_closeGap_26 ?_
          refine lv_topi (fun t4 et4 => ?_)
          replace h := nm_at h et4
          obtain ⟨hi5, h⟩ := gA_e h
          refine wx_iast hx hb hK hP hD hS 1 0 rfl rfl (Int32.toNatClampNeg x3) rfl hi5 dX6_closeGap_27 rfl (fun H locs hP hD hS => ?_)
          obtain ⟨g6, eg6, h⟩ := nm_x h
          have hP : va_P D vwCl [(a_h, .inr (6, [.ref a_h_masses, .ref a_h_errors, .ref a_h_variances, .ref a_h_parents, .ref a_h_onPan, .int v_size])), (a_r0, .inl (cI, n_r0, .inl g6))] H := by rw [eg6]; exact hP
          have hD : va_D A [(a_h, .inr (6, [.ref a_h_masses, .ref a_h_errors, .ref a_h_variances, .ref a_h_parents, .ref a_h_onPan, .int v_size])), (a_r0, .inl (cI, n_r0, .inl g6))] := by rw [eg6]; exact hD
          obtain ⟨t7, et7, h⟩ := nm_x h
          refine lv_iinc (v := t7) (lv' := [(3, .int t7), (0, .ref a_h), (1, .ref a_r0), (2, .int p1)]) hx hb dX6_closeGap_28 hl (k := 3) rfl (by rw [et7]; rfl) (by decide) rfl (fun ls hl => ?_)
          refine lv_goto (tgt := 2) hx hb dX6_closeGap_31 (by decide) ?_
          exact ih t7 g6 _ _ _ h hP hD hS (lv_sub hl [1, 2, 3, 0] rfl)
  refine lv_iload_n hx hb dX6_closeGap_0 rfl (lv_at hl 2 rfl) ?_
  refine lv_istore_n (lv' := [(3, .int p1), (0, .ref a_h), (1, .ref a_r0), (2, .int p1)]) hx hb dX6_closeGap_1 rfl hl (by decide) rfl (fun ls hl => ?_)
  exact B2 N p1 v_r0_A _ _ _ h hP hD hS (lv_sub hl [1, 2, 3, 0] rfl)
-- X6_removeAt
def f_X6_removeAt_b66 (p0 : Int32) (m_size : Int32) (m_masses_A : Nat → Int32) (m_errors_A : Nat → Int32) (m_variances_A : Nat → Int32) (m_onPan_A : Nat → Int32) : Nat → Int32 → (Nat → Int32) → Option (Int32 × (Nat → Int32) × (Nat → Int32) × (Nat → Int32) × (Nat → Int32) × (Nat → Int32))
  | 0, _, _ => none
  | k + 1, x2, m_parents_A =>
    (if m_size ≤ x2 then some (m_size, m_masses_A, m_errors_A, m_variances_A, m_parents_A, m_onPan_A)
    else gA x2 8 ((if (m_parents_A (Int32.toNatClampNeg x2)) ≤ p0 then nm (x2 + (1 : Int32)) (fun t12 => (f_X6_removeAt_b66 p0 m_size m_masses_A m_errors_A m_variances_A m_onPan_A k t12 m_parents_A))
    else gA x2 8 (nm ((m_parents_A (Int32.toNatClampNeg x2)) - (1 : Int32)) (fun t14 => gA x2 8 (nm (upd m_parents_A (Int32.toNatClampNeg x2) t14) (fun g16 => nm (x2 + (1 : Int32)) (fun t17 => (f_X6_removeAt_b66 p0 m_size m_masses_A m_errors_A m_variances_A m_onPan_A k t17 g16)))))))))
def f_X6_removeAt (N : Nat) (v_size : Int32) (v_masses_A : Nat → Int32) (v_errors_A : Nat → Int32) (v_variances_A : Nat → Int32) (v_parents_A : Nat → Int32) (v_onPan_A : Nat → Int32) (p0 : Int32) : Option (Int32 × (Nat → Int32) × (Nat → Int32) × (Nat → Int32) × (Nat → Int32) × (Nat → Int32)) :=
  Option.bind (f_X6_has v_size p0) (fun u1 => (if ¬ u1 = 0 then Option.bind (f_X6_closeGap N 8 v_size v_masses_A p0) (fun u3 => Option.bind (f_X6_closeGap N 8 v_size v_errors_A p0) (fun u4 => Option.bind (f_X6_closeGap N 8 v_size v_variances_A p0) (fun u5 => Option.bind (f_X6_closeGap N 8 v_size v_parents_A p0) (fun u6 => Option.bind (f_X6_closeGap N 8 v_size v_onPan_A p0) (fun u7 => nm (v_size - (1 : Int32)) (fun t8 => (f_X6_removeAt_b66 p0 t8 u3 u4 u5 u7 N (0 : Int32) u6)))))))
    else some (v_size, v_masses_A, v_errors_A, v_variances_A, v_parents_A, v_onPan_A)))
theorem q_X6_removeAt_1 : (.fieldLink RX6 9 "SpringBalance$Weights" "masses" "[I" : Cond) ∈ wsX6_removeAt := List.mem_of_getElem? (i := 1) (by decide +kernel)
set_option maxRecDepth 20000 in
theorem in_X6_removeAt_X6 : ∀ w ∈ u_ws RX6 TX6 6, w ∈ wsX6_removeAt := by decide +kernel
theorem q_X6_removeAt_2 : (.fieldLink RX6 15 "SpringBalance$Weights" "errors" "[I" : Cond) ∈ wsX6_removeAt := List.mem_of_getElem? (i := 2) (by decide +kernel)
theorem q_X6_removeAt_3 : (.fieldLink RX6 18 "SpringBalance$Weights" "variances" "[I" : Cond) ∈ wsX6_removeAt := List.mem_of_getElem? (i := 3) (by decide +kernel)
theorem q_X6_removeAt_4 : (.fieldLink RX6 21 "SpringBalance$Weights" "parents" "[I" : Cond) ∈ wsX6_removeAt := List.mem_of_getElem? (i := 4) (by decide +kernel)
theorem q_X6_removeAt_5 : (.fieldLink RX6 24 "SpringBalance$Weights" "onPan" "[I" : Cond) ∈ wsX6_removeAt := List.mem_of_getElem? (i := 5) (by decide +kernel)
theorem q_X6_removeAt_6 : (.fieldLink RX6 27 "SpringBalance$Weights" "size" "I" : Cond) ∈ wsX6_removeAt := List.mem_of_getElem? (i := 6) (by decide +kernel)
set_option maxHeartbeats 8000000 in
set_option maxRecDepth 100000 in
theorem k_X6_removeAt (l : Launch) (D : va_G) (cI cC cJ cB : ClassId) (a_h a_h_masses a_h_errors a_h_variances a_h_parents a_h_onPan : Nat) (v_size : Int32) (v_masses_A : Nat → Int32) (v_errors_A : Nat → Int32) (v_variances_A : Nat → Int32) (v_parents_A : Nat → Int32) (v_onPan_A : Nat → Int32) (N : Nat) (p0 : Int32) (sz : Nat) (u : Int32 × (Nat → Int32) × (Nat → Int32) × (Nat → Int32) × (Nat → Int32) × (Nat → Int32)) (hu : f_X6_removeAt N v_size v_masses_A v_errors_A v_variances_A v_parents_A v_onPan_A p0 = some u) :
    Met l yX6_removeAt wsX6_removeAt ({ frames := 1, cells := 0, slots := 0, locals := 23 } : Room) (va_Pc [.ref a_h, .int p0] (PreW D (ty4 cI cC cJ cB) sz [(a_h, .inr (6, [.ref a_h_masses, .ref a_h_errors, .ref a_h_variances, .ref a_h_parents, .ref a_h_onPan, .int v_size])), (a_h_masses, .inl (cI, 8, .inl v_masses_A)), (a_h_errors, .inl (cI, 8, .inl v_errors_A)), (a_h_variances, .inl (cI, 8, .inl v_variances_A)), (a_h_parents, .inl (cI, 8, .inl v_parents_A)), (a_h_onPan, .inl (cI, 8, .inl v_onPan_A))]))
      (QV D (ty4 cI cC cJ cB) (va_A [(a_h, .inr (6, [.ref a_h_masses, .ref a_h_errors, .ref a_h_variances, .ref a_h_parents, .ref a_h_onPan, .int v_size])), (a_h_masses, .inl (cI, 8, .inl v_masses_A)), (a_h_errors, .inl (cI, 8, .inl v_errors_A)), (a_h_variances, .inl (cI, 8, .inl v_variances_A)), (a_h_parents, .inl (cI, 8, .inl v_parents_A)), (a_h_onPan, .inl (cI, 8, .inl v_onPan_A))] sz) [(a_h, .inr (6, [.ref a_h_masses, .ref a_h_errors, .ref a_h_variances, .ref a_h_parents, .ref a_h_onPan, .int u.1])), (a_h_masses, .inl (cI, 8, .inl u.2.1)), (a_h_errors, .inl (cI, 8, .inl u.2.2.1)), (a_h_variances, .inl (cI, 8, .inl u.2.2.2.1)), (a_h_parents, .inl (cI, 8, .inl u.2.2.2.2.1)), (a_h_onPan, .inl (cI, 8, .inl u.2.2.2.2.2))]) 0 0 (va_A [(a_h, .inr (6, [.ref a_h_masses, .ref a_h_errors, .ref a_h_variances, .ref a_h_parents, .ref a_h_onPan, .int v_size])), (a_h_masses, .inl (cI, 8, .inl v_masses_A)), (a_h_errors, .inl (cI, 8, .inl v_errors_A)), (a_h_variances, .inl (cI, 8, .inl v_variances_A)), (a_h_parents, .inl (cI, 8, .inl v_parents_A)), (a_h_onPan, .inl (cI, 8, .inl v_onPan_A))] sz) := by
  refine met_go (y := yX6_removeAt) (wsy := wsX6_removeAt) (cc := cX6_removeAt) (maxL := 3) (ret := none) (av := [.ref a_h, .int p0]) (Qc := fun A => QV D (ty4 cI cC cJ cB) A [(a_h, .inr (6, [.ref a_h_masses, .ref a_h_errors, .ref a_h_variances, .ref a_h_parents, .ref a_h_onPan, .int u.1])), (a_h_masses, .inl (cI, 8, .inl u.2.1)), (a_h_errors, .inl (cI, 8, .inl u.2.2.1)), (a_h_variances, .inl (cI, 8, .inl u.2.2.2.1)), (a_h_parents, .inl (cI, 8, .inl u.2.2.2.2.1)), (a_h_onPan, .inl (cI, 8, .inl u.2.2.2.2.2))]) (by decide) rfl (Nat.le_of_ble_eq_true rfl) ?_
  intro p e s m below meth c A ls hx hb hr hml hown hts hlocks hnm hN hK hP hD hS hA hl
  have h := hu
  clear hu
  unfold f_X6_removeAt at h
  have hl : lv_has ls 3 [(0, .ref a_h), (1, .int p0)] := hl
  have B66 : ∀ (k : Nat) (x2 : Int32) (m_size : Int32) (m_masses_A : Nat → Int32) (m_errors_A : Nat → Int32) (m_variances_A : Nat → Int32) (m_parents_A : Nat → Int32) (m_onPan_A : Nat → Int32) (H : Heap) (locs : List Loc) (ls : Array Slot), f_X6_removeAt_b66 p0 m_size m_masses_A m_errors_A m_variances_A m_onPan_A k x2 m_parents_A = some u → va_P D vwCl [(a_h, .inr (6, [.ref a_h_masses, .ref a_h_errors, .ref a_h_variances, .ref a_h_parents, .ref a_h_onPan, .int m_size])), (a_h_masses, .inl (cI, 8, .inl m_masses_A)), (a_h_errors, .inl (cI, 8, .inl m_errors_A)), (a_h_variances, .inl (cI, 8, .inl m_variances_A)), (a_h_parents, .inl (cI, 8, .inl m_parents_A)), (a_h_onPan, .inl (cI, 8, .inl m_onPan_A))] H → va_D A [(a_h, .inr (6, [.ref a_h_masses, .ref a_h_errors, .ref a_h_variances, .ref a_h_parents, .ref a_h_onPan, .int m_size])), (a_h_masses, .inl (cI, 8, .inl m_masses_A)), (a_h_errors, .inl (cI, 8, .inl m_errors_A)), (a_h_variances, .inl (cI, 8, .inl m_variances_A)), (a_h_parents, .inl (cI, 8, .inl m_parents_A)), (a_h_onPan, .inl (cI, 8, .inl m_onPan_A))] → va_S A s.heap H locs → lv_has ls 3 [(0, .ref a_h), (1, .int p0), (2, .int x2)] → W p l e ({ frames := 1, cells := 0, slots := 0, locals := 23 } : Room) s m ([.ref a_h, .int p0] : List Value).toArray below meth c H locs 0 0 (MQ below (QV D (ty4 cI cC cJ cB) A [(a_h, .inr (6, [.ref a_h_masses, .ref a_h_errors, .ref a_h_variances, .ref a_h_parents, .ref a_h_onPan, .int u.1])), (a_h_masses, .inl (cI, 8, .inl u.2.1)), (a_h_errors, .inl (cI, 8, .inl u.2.2.1)), (a_h_variances, .inl (cI, 8, .inl u.2.2.2.1)), (a_h_parents, .inl (cI, 8, .inl u.2.2.2.2.1)), (a_h_onPan, .inl (cI, 8, .inl u.2.2.2.2.2))]) ([.ref a_h, .int p0] : List Value).toArray s 0 0 A) (F0 m 66 ls []) := by
    intro k
    induction k with
    | zero =>
      intro x2 m_size m_masses_A m_errors_A m_variances_A m_parents_A m_onPan_A H locs ls h
      exact nomatch (show (none : Option (Int32 × (Nat → Int32) × (Nat → Int32) × (Nat → Int32) × (Nat → Int32) × (Nat → Int32))) = some u from h)
    | succ k ih =>
      intro x2 m_size m_masses_A m_errors_A m_variances_A m_parents_A m_onPan_A H locs ls h hP hD hS hl
      rw [f_X6_removeAt_b66.eq_2] at h
      refine lv_iload_n hx hb dX6_removeAt_66 rfl (lv_at hl 2 rfl) ?_
      refine lv_aload_n hx hb dX6_removeAt_67 rfl (lv_at hl 0 rfl) ?_
      refine va_get (D := D) (ci := 6) (v := .int m_size) (C := RX6) (T := TX6) (N := 6) hx hb hts in_X6_removeAt_X6 hown hK hP 0 rfl rfl 5 (by decide) (hts _ q_X6_removeAt_6) (fun _ h9 => h9) rfl dX6_removeAt_68 ?_
      refine lv_icmp_ge (tgt := 100) hx hb dX6_removeAt_71 (by decide) (fun hc9 => ?_) (fun hc9 => ?_)
      · replace h := it_e hc9 h
        obtain rfl := sm_e h
        exact rx_v hx hb hr  hP hK hD hS dX6_removeAt_100 hlocks
      · replace h := if_e hc9 h
        refine lv_aload_n hx hb dX6_removeAt_74 rfl (lv_at hl 0 rfl) ?_
        refine va_get (D := D) (ci := 6) (v := .ref a_h_parents) (C := RX6) (T := TX6) (N := 6) hx hb hts in_X6_removeAt_X6 hown hK hP 0 rfl rfl 3 (by decide) (hts _ q_X6_removeAt_4) (fun _ h9 => h9) rfl dX6_removeAt_75 ?_
        refine lv_iload_n hx hb dX6_removeAt_78 rfl (lv_at hl 2 rfl) ?_
        obtain ⟨hi10, h⟩ := gA_e h
        refine wx_iald hx hb hK hP 4 0 rfl rfl (Int32.toNatClampNeg x2) rfl hi10 dX6_removeAt_79 ?_
        refine lv_iload_n hx hb dX6_removeAt_80 rfl (lv_at hl 1 rfl) ?_
        refine lv_icmp_le (tgt := 94) hx hb dX6_removeAt_81 (by decide) (fun hc11 => ?_) (fun hc11 => ?_)
        · replace h := it_e hc11 h
          obtain ⟨t12, et12, h⟩ := nm_x h
          refine lv_iinc (v := t12) (lv' := [(2, .int t12), (0, .ref a_h), (1, .int p0)]) hx hb dX6_removeAt_94 hl (k := 2) rfl (by rw [et12]; rfl) (by decide) rfl (fun ls hl => ?_)
          refine lv_goto (tgt := 66) hx hb dX6_removeAt_97 (by decide) ?_
          exact ih t12 m_size m_masses_A m_errors_A m_variances_A m_parents_A m_onPan_A _ _ _ h hP hD hS (lv_sub hl [1, 2, 0] rfl)
        · replace h := if_e hc11 h
          refine lv_aload_n hx hb dX6_removeAt_84 rfl (lv_at hl 0 rfl) ?_
          refine va_get (D := D) (ci := 6) (v := .ref a_h_parents) (C := RX6) (T := TX6) (N := 6) hx hb hts in_X6_removeAt_X6 hown hK hP 0 rfl rfl 3 (by decide) (hts _ q_X6_removeAt_4) (fun _ h9 => h9) rfl dX6_removeAt_85 ?_
          refine lv_iload_n hx hb dX6_removeAt_88 rfl (lv_at hl 2 rfl) ?_
          refine lv_dup2_11 hx hb dX6_removeAt_89 rfl rfl ?_
          obtain ⟨hi13, h⟩ := gA_e h
          refine wx_iald hx hb hK hP 4 0 rfl rfl (Int32.toNatClampNeg x2) rfl hi13 dX6_removeAt_90 ?_
          refine lv_iconst (v := (1 : Int32)) hx hb dX6_removeAt_91 (by decide) ?_
          refine lv_isub hx hb dX6_removeAt_92 ?_
          refine lv_topi (fun t14 et14 => ?_)
          replace h := nm_at h et14
          obtain ⟨hi15, h⟩ := gA_e h
          refine wx_iast hx hb hK hP hD hS 4 0 rfl rfl (Int32.toNatClampNeg x2) rfl hi15 dX6_removeAt_93 rfl (fun H locs hP hD hS => ?_)
          obtain ⟨g16, eg16, h⟩ := nm_x h
          have hP : va_P D vwCl [(a_h, .inr (6, [.ref a_h_masses, .ref a_h_errors, .ref a_h_variances, .ref a_h_parents, .ref a_h_onPan, .int m_size])), (a_h_masses, .inl (cI, 8, .inl m_masses_A)), (a_h_errors, .inl (cI, 8, .inl m_errors_A)), (a_h_variances, .inl (cI, 8, .inl m_variances_A)), (a_h_parents, .inl (cI, 8, .inl g16)), (a_h_onPan, .inl (cI, 8, .inl m_onPan_A))] H := by rw [eg16]; exact hP
          have hD : va_D A [(a_h, .inr (6, [.ref a_h_masses, .ref a_h_errors, .ref a_h_variances, .ref a_h_parents, .ref a_h_onPan, .int m_size])), (a_h_masses, .inl (cI, 8, .inl m_masses_A)), (a_h_errors, .inl (cI, 8, .inl m_errors_A)), (a_h_variances, .inl (cI, 8, .inl m_variances_A)), (a_h_parents, .inl (cI, 8, .inl g16)), (a_h_onPan, .inl (cI, 8, .inl m_onPan_A))] := by rw [eg16]; exact hD
          obtain ⟨t17, et17, h⟩ := nm_x h
          refine lv_iinc (v := t17) (lv' := [(2, .int t17), (0, .ref a_h), (1, .int p0)]) hx hb dX6_removeAt_94 hl (k := 2) rfl (by rw [et17]; rfl) (by decide) rfl (fun ls hl => ?_)
          refine lv_goto (tgt := 66) hx hb dX6_removeAt_97 (by decide) ?_
          exact ih t17 m_size m_masses_A m_errors_A m_variances_A g16 m_onPan_A _ _ _ h hP hD hS (lv_sub hl [1, 2, 0] rfl)
  refine lv_aload_n hx hb dX6_removeAt_0 rfl (lv_at hl 0 rfl) ?_
  refine lv_iload_n hx hb dX6_removeAt_1 rfl (lv_at hl 1 rfl) ?_
  obtain ⟨u1, hu1, h⟩ := bd_e h
  refine kx_i (mc := 0) (ms := 0) (wr := [(a_h_masses, .inl (cI, 8, .inl v_masses_A)), (a_h_errors, .inl (cI, 8, .inl v_errors_A)), (a_h_variances, .inl (cI, 8, .inl v_variances_A)), (a_h_parents, .inl (cI, 8, .inl v_parents_A)), (a_h_onPan, .inl (cI, 8, .inl v_onPan_A))]) (ws2 := [(a_h, .inr (6, [.ref a_h_masses, .ref a_h_errors, .ref a_h_variances, .ref a_h_parents, .ref a_h_onPan, .int v_size])), (a_h_masses, .inl (cI, 8, .inl v_masses_A)), (a_h_errors, .inl (cI, 8, .inl v_errors_A)), (a_h_variances, .inl (cI, 8, .inl v_variances_A)), (a_h_parents, .inl (cI, 8, .inl v_parents_A)), (a_h_onPan, .inl (cI, 8, .inl v_onPan_A))]) (va_runV (As := [.int p0]) (rest := []) ⟨hx, hb, hml, hown, hts⟩ (k_X6_has l D cI cC cJ cB a_h a_h_masses a_h_errors a_h_variances a_h_parents a_h_onPan v_size N p0 s.heap.size _ hu1) (cwV 1 hts gX6_removeAt_X6_has rfl rfl rfl (by decide +kernel) ⟨Nat.le_of_ble_eq_true rfl, Nat.le_of_ble_eq_true rfl⟩) (pv_V hP hD hK hN [0] rfl rfl (ci := 6) rfl 0 rfl) rfl rfl hl.1 rfl (lv_room (Nat.le_of_ble_eq_true rfl)) dX6_removeAt_2 ⟨Nat.zero_le _, Nat.zero_le _⟩) hP hD hS hA [0] [1, 2, 3, 4, 5] [5, 0, 1, 2, 3, 4] rfl rfl rfl rfl rfl rfl (fun H locs hP hD hS => ?_)
  refine lv_if_ne (tgt := 9) hx hb dX6_removeAt_5 (by decide) (fun hc2 => ?_) (fun hc2 => ?_)
  · replace h := it_e hc2 h
    refine lv_aload_n hx hb dX6_removeAt_9 rfl (lv_at hl 0 rfl) ?_
    refine lv_aload_n hx hb dX6_removeAt_10 rfl (lv_at hl 0 rfl) ?_
    refine va_get (D := D) (ci := 6) (v := .ref a_h_masses) (C := RX6) (T := TX6) (N := 6) hx hb hts in_X6_removeAt_X6 hown hK hP 0 rfl rfl 0 (by decide) (hts _ q_X6_removeAt_1) (fun _ h9 => h9) rfl dX6_removeAt_11 ?_
    refine lv_iload_n hx hb dX6_removeAt_14 rfl (lv_at hl 1 rfl) ?_
    obtain ⟨u3, hu3, h⟩ := bd_e h
    refine kx_v (mc := 0) (ms := 0) (wr := [(a_h_errors, .inl (cI, 8, .inl v_errors_A)), (a_h_variances, .inl (cI, 8, .inl v_variances_A)), (a_h_parents, .inl (cI, 8, .inl v_parents_A)), (a_h_onPan, .inl (cI, 8, .inl v_onPan_A))]) (ws2 := [(a_h, .inr (6, [.ref a_h_masses, .ref a_h_errors, .ref a_h_variances, .ref a_h_parents, .ref a_h_onPan, .int v_size])), (a_h_masses, .inl (cI, 8, .inl u3)), (a_h_errors, .inl (cI, 8, .inl v_errors_A)), (a_h_variances, .inl (cI, 8, .inl v_variances_A)), (a_h_parents, .inl (cI, 8, .inl v_parents_A)), (a_h_onPan, .inl (cI, 8, .inl v_onPan_A))]) (va_runV (As := [.ref a_h_masses, .int p0]) (rest := []) ⟨hx, hb, hml, hown, hts⟩ (k_X6_closeGap l D cI cC cJ cB a_h a_h_masses a_h_errors a_h_variances a_h_parents a_h_onPan a_h_masses 8 v_size v_masses_A N p0 H.size _ hu3) (cwV 2 hts gX6_removeAt_X6_closeGap rfl rfl rfl (by decide +kernel) ⟨Nat.le_of_ble_eq_true rfl, Nat.le_of_ble_eq_true rfl⟩) (pv_V hP hD hK hN [0, 1] rfl rfl (ci := 6) rfl 0 rfl) rfl rfl hl.1 rfl (lv_room (Nat.le_of_ble_eq_true rfl)) dX6_removeAt_15 ⟨Nat.zero_le _, Nat.zero_le _⟩) hP hD hS hA [0, 1] [2, 3, 4, 5] [4, 5, 0, 1, 2, 3] rfl rfl rfl rfl rfl rfl (fun H locs hP hD hS => ?_)
    refine lv_aload_n hx hb dX6_removeAt_18 rfl (lv_at hl 0 rfl) ?_
    refine lv_aload_n hx hb dX6_removeAt_19 rfl (lv_at hl 0 rfl) ?_
    refine va_get (D := D) (ci := 6) (v := .ref a_h_errors) (C := RX6) (T := TX6) (N := 6) hx hb hts in_X6_removeAt_X6 hown hK hP 0 rfl rfl 1 (by decide) (hts _ q_X6_removeAt_2) (fun _ h9 => h9) rfl dX6_removeAt_20 ?_
    refine lv_iload_n hx hb dX6_removeAt_23 rfl (lv_at hl 1 rfl) ?_
    obtain ⟨u4, hu4, h⟩ := bd_e h
    refine kx_v (mc := 0) (ms := 0) (wr := [(a_h_masses, .inl (cI, 8, .inl u3)), (a_h_variances, .inl (cI, 8, .inl v_variances_A)), (a_h_parents, .inl (cI, 8, .inl v_parents_A)), (a_h_onPan, .inl (cI, 8, .inl v_onPan_A))]) (ws2 := [(a_h, .inr (6, [.ref a_h_masses, .ref a_h_errors, .ref a_h_variances, .ref a_h_parents, .ref a_h_onPan, .int v_size])), (a_h_masses, .inl (cI, 8, .inl u3)), (a_h_errors, .inl (cI, 8, .inl u4)), (a_h_variances, .inl (cI, 8, .inl v_variances_A)), (a_h_parents, .inl (cI, 8, .inl v_parents_A)), (a_h_onPan, .inl (cI, 8, .inl v_onPan_A))]) (va_runV (As := [.ref a_h_errors, .int p0]) (rest := []) ⟨hx, hb, hml, hown, hts⟩ (k_X6_closeGap l D cI cC cJ cB a_h a_h_masses a_h_errors a_h_variances a_h_parents a_h_onPan a_h_errors 8 v_size v_errors_A N p0 H.size _ hu4) (cwV 2 hts gX6_removeAt_X6_closeGap rfl rfl rfl (by decide +kernel) ⟨Nat.le_of_ble_eq_true rfl, Nat.le_of_ble_eq_true rfl⟩) (pv_V hP hD hK hN [0, 2] rfl rfl (ci := 6) rfl 0 rfl) rfl rfl hl.1 rfl (lv_room (Nat.le_of_ble_eq_true rfl)) dX6_removeAt_24 ⟨Nat.zero_le _, Nat.zero_le _⟩) hP hD hS hA [0, 2] [1, 3, 4, 5] [4, 0, 5, 1, 2, 3] rfl rfl rfl rfl rfl rfl (fun H locs hP hD hS => ?_)
    refine lv_aload_n hx hb dX6_removeAt_27 rfl (lv_at hl 0 rfl) ?_
    refine lv_aload_n hx hb dX6_removeAt_28 rfl (lv_at hl 0 rfl) ?_
    refine va_get (D := D) (ci := 6) (v := .ref a_h_variances) (C := RX6) (T := TX6) (N := 6) hx hb hts in_X6_removeAt_X6 hown hK hP 0 rfl rfl 2 (by decide) (hts _ q_X6_removeAt_3) (fun _ h9 => h9) rfl dX6_removeAt_29 ?_
    refine lv_iload_n hx hb dX6_removeAt_32 rfl (lv_at hl 1 rfl) ?_
    obtain ⟨u5, hu5, h⟩ := bd_e h
    refine kx_v (mc := 0) (ms := 0) (wr := [(a_h_masses, .inl (cI, 8, .inl u3)), (a_h_errors, .inl (cI, 8, .inl u4)), (a_h_parents, .inl (cI, 8, .inl v_parents_A)), (a_h_onPan, .inl (cI, 8, .inl v_onPan_A))]) (ws2 := [(a_h, .inr (6, [.ref a_h_masses, .ref a_h_errors, .ref a_h_variances, .ref a_h_parents, .ref a_h_onPan, .int v_size])), (a_h_masses, .inl (cI, 8, .inl u3)), (a_h_errors, .inl (cI, 8, .inl u4)), (a_h_variances, .inl (cI, 8, .inl u5)), (a_h_parents, .inl (cI, 8, .inl v_parents_A)), (a_h_onPan, .inl (cI, 8, .inl v_onPan_A))]) (va_runV (As := [.ref a_h_variances, .int p0]) (rest := []) ⟨hx, hb, hml, hown, hts⟩ (k_X6_closeGap l D cI cC cJ cB a_h a_h_masses a_h_errors a_h_variances a_h_parents a_h_onPan a_h_variances 8 v_size v_variances_A N p0 H.size _ hu5) (cwV 2 hts gX6_removeAt_X6_closeGap rfl rfl rfl (by decide +kernel) ⟨Nat.le_of_ble_eq_true rfl, Nat.le_of_ble_eq_true rfl⟩) (pv_V hP hD hK hN [0, 3] rfl rfl (ci := 6) rfl 0 rfl) rfl rfl hl.1 rfl (lv_room (Nat.le_of_ble_eq_true rfl)) dX6_removeAt_33 ⟨Nat.zero_le _, Nat.zero_le _⟩) hP hD hS hA [0, 3] [1, 2, 4, 5] [4, 0, 1, 5, 2, 3] rfl rfl rfl rfl rfl rfl (fun H locs hP hD hS => ?_)
    refine lv_aload_n hx hb dX6_removeAt_36 rfl (lv_at hl 0 rfl) ?_
    refine lv_aload_n hx hb dX6_removeAt_37 rfl (lv_at hl 0 rfl) ?_
    refine va_get (D := D) (ci := 6) (v := .ref a_h_parents) (C := RX6) (T := TX6) (N := 6) hx hb hts in_X6_removeAt_X6 hown hK hP 0 rfl rfl 3 (by decide) (hts _ q_X6_removeAt_4) (fun _ h9 => h9) rfl dX6_removeAt_38 ?_
    refine lv_iload_n hx hb dX6_removeAt_41 rfl (lv_at hl 1 rfl) ?_
    obtain ⟨u6, hu6, h⟩ := bd_e h
    refine kx_v (mc := 0) (ms := 0) (wr := [(a_h_masses, .inl (cI, 8, .inl u3)), (a_h_errors, .inl (cI, 8, .inl u4)), (a_h_variances, .inl (cI, 8, .inl u5)), (a_h_onPan, .inl (cI, 8, .inl v_onPan_A))]) (ws2 := [(a_h, .inr (6, [.ref a_h_masses, .ref a_h_errors, .ref a_h_variances, .ref a_h_parents, .ref a_h_onPan, .int v_size])), (a_h_masses, .inl (cI, 8, .inl u3)), (a_h_errors, .inl (cI, 8, .inl u4)), (a_h_variances, .inl (cI, 8, .inl u5)), (a_h_parents, .inl (cI, 8, .inl u6)), (a_h_onPan, .inl (cI, 8, .inl v_onPan_A))]) (va_runV (As := [.ref a_h_parents, .int p0]) (rest := []) ⟨hx, hb, hml, hown, hts⟩ (k_X6_closeGap l D cI cC cJ cB a_h a_h_masses a_h_errors a_h_variances a_h_parents a_h_onPan a_h_parents 8 v_size v_parents_A N p0 H.size _ hu6) (cwV 2 hts gX6_removeAt_X6_closeGap rfl rfl rfl (by decide +kernel) ⟨Nat.le_of_ble_eq_true rfl, Nat.le_of_ble_eq_true rfl⟩) (pv_V hP hD hK hN [0, 4] rfl rfl (ci := 6) rfl 0 rfl) rfl rfl hl.1 rfl (lv_room (Nat.le_of_ble_eq_true rfl)) dX6_removeAt_42 ⟨Nat.zero_le _, Nat.zero_le _⟩) hP hD hS hA [0, 4] [1, 2, 3, 5] [4, 0, 1, 2, 5, 3] rfl rfl rfl rfl rfl rfl (fun H locs hP hD hS => ?_)
    refine lv_aload_n hx hb dX6_removeAt_45 rfl (lv_at hl 0 rfl) ?_
    refine lv_aload_n hx hb dX6_removeAt_46 rfl (lv_at hl 0 rfl) ?_
    refine va_get (D := D) (ci := 6) (v := .ref a_h_onPan) (C := RX6) (T := TX6) (N := 6) hx hb hts in_X6_removeAt_X6 hown hK hP 0 rfl rfl 4 (by decide) (hts _ q_X6_removeAt_5) (fun _ h9 => h9) rfl dX6_removeAt_47 ?_
    refine lv_iload_n hx hb dX6_removeAt_50 rfl (lv_at hl 1 rfl) ?_
    obtain ⟨u7, hu7, h⟩ := bd_e h
    refine kx_v (mc := 0) (ms := 0) (wr := [(a_h_masses, .inl (cI, 8, .inl u3)), (a_h_errors, .inl (cI, 8, .inl u4)), (a_h_variances, .inl (cI, 8, .inl u5)), (a_h_parents, .inl (cI, 8, .inl u6))]) (ws2 := [(a_h, .inr (6, [.ref a_h_masses, .ref a_h_errors, .ref a_h_variances, .ref a_h_parents, .ref a_h_onPan, .int v_size])), (a_h_masses, .inl (cI, 8, .inl u3)), (a_h_errors, .inl (cI, 8, .inl u4)), (a_h_variances, .inl (cI, 8, .inl u5)), (a_h_parents, .inl (cI, 8, .inl u6)), (a_h_onPan, .inl (cI, 8, .inl u7))]) (va_runV (As := [.ref a_h_onPan, .int p0]) (rest := []) ⟨hx, hb, hml, hown, hts⟩ (k_X6_closeGap l D cI cC cJ cB a_h a_h_masses a_h_errors a_h_variances a_h_parents a_h_onPan a_h_onPan 8 v_size v_onPan_A N p0 H.size _ hu7) (cwV 2 hts gX6_removeAt_X6_closeGap rfl rfl rfl (by decide +kernel) ⟨Nat.le_of_ble_eq_true rfl, Nat.le_of_ble_eq_true rfl⟩) (pv_V hP hD hK hN [0, 5] rfl rfl (ci := 6) rfl 0 rfl) rfl rfl hl.1 rfl (lv_room (Nat.le_of_ble_eq_true rfl)) dX6_removeAt_51 ⟨Nat.zero_le _, Nat.zero_le _⟩) hP hD hS hA [0, 5] [1, 2, 3, 4] [4, 0, 1, 2, 3, 5] rfl rfl rfl rfl rfl rfl (fun H locs hP hD hS => ?_)
    refine lv_aload_n hx hb dX6_removeAt_54 rfl (lv_at hl 0 rfl) ?_
    refine lv_dup hx hb dX6_removeAt_55 rfl ?_
    refine va_get (D := D) (ci := 6) (v := .int v_size) (C := RX6) (T := TX6) (N := 6) hx hb hts in_X6_removeAt_X6 hown hK hP 0 rfl rfl 5 (by decide) (hts _ q_X6_removeAt_6) (fun _ h9 => h9) rfl dX6_removeAt_56 ?_
    refine lv_iconst (v := (1 : Int32)) hx hb dX6_removeAt_59 (by decide) ?_
    refine lv_isub hx hb dX6_removeAt_60 ?_
    refine lv_topi (fun t8 et8 => ?_)
    replace h := nm_at h et8
    refine va_put (D := D) (ci := 6) (v := .int t8) (ty := .int) (C := RX6) (T := TX6) (N := 6) hx hb hts in_X6_removeAt_X6 tyX6 tyX6_ok nmX6 hown hK hP hD hS 0 rfl rfl 5 (by decide) (hts _ q_X6_removeAt_6) (fun _ h9 => h9) rfl (by decide +kernel) rfl rfl (Nat.le_of_ble_eq_true rfl) dX6_removeAt_61 (fun H locs hP hD hS => ?_)
    have hP : va_P D vwCl [(a_h, .inr (6, [.ref a_h_masses, .ref a_h_errors, .ref a_h_variances, .ref a_h_parents, .ref a_h_onPan, .int t8])), (a_h_masses, .inl (cI, 8, .inl u3)), (a_h_errors, .inl (cI, 8, .inl u4)), (a_h_variances, .inl (cI, 8, .inl u5)), (a_h_parents, .inl (cI, 8, .inl u6)), (a_h_onPan, .inl (cI, 8, .inl u7))] H := hP
    have hD : va_D A [(a_h, .inr (6, [.ref a_h_masses, .ref a_h_errors, .ref a_h_variances, .ref a_h_parents, .ref a_h_onPan, .int t8])), (a_h_masses, .inl (cI, 8, .inl u3)), (a_h_errors, .inl (cI, 8, .inl u4)), (a_h_variances, .inl (cI, 8, .inl u5)), (a_h_parents, .inl (cI, 8, .inl u6)), (a_h_onPan, .inl (cI, 8, .inl u7))] := hD
    refine lv_iconst (v := (0 : Int32)) hx hb dX6_removeAt_64 (by decide) ?_
    refine lv_istore_n (lv' := [(2, .int (0 : Int32)), (0, .ref a_h), (1, .int p0)]) hx hb dX6_removeAt_65 rfl hl (by decide) rfl (fun ls hl => ?_)
    exact B66 N (0 : Int32) t8 u3 u4 u5 u6 u7 _ _ _ h hP hD hS (lv_sub hl [1, 2, 0] rfl)
  · replace h := in_e hc2 h
    obtain rfl := sm_e h
    exact rx_v hx hb hr  hP hK hD hS dX6_removeAt_8 hlocks
-- X6_mass
def f_X6_mass (v_size : Int32) (v_masses_A : Nat → Int32) (p0 : Int32) : Option (Int32) :=
  Option.bind (f_X6_has v_size p0) (fun u1 => (if u1 = 0 then some (0 : Int32)
    else gA p0 8 (some (v_masses_A (Int32.toNatClampNeg p0)))))
theorem q_X6_mass_1 : (.fieldLink RX6 9 "SpringBalance$Weights" "masses" "[I" : Cond) ∈ wsX6_mass := List.mem_of_getElem? (i := 1) (by decide +kernel)
set_option maxRecDepth 20000 in
theorem in_X6_mass_X6 : ∀ w ∈ u_ws RX6 TX6 6, w ∈ wsX6_mass := by decide +kernel
set_option maxHeartbeats 8000000 in
set_option maxRecDepth 100000 in
theorem k_X6_mass (l : Launch) (D : va_G) (cI cC cJ cB : ClassId) (a_h a_h_masses a_h_errors a_h_variances a_h_parents a_h_onPan : Nat) (v_size : Int32) (v_masses_A : Nat → Int32) (N : Nat) (p0 : Int32) (sz : Nat) (u : Int32) (hu : f_X6_mass v_size v_masses_A p0 = some u) :
    Met l yX6_mass wsX6_mass ({ frames := 1, cells := 0, slots := 0, locals := 21 } : Room) (va_Pc [.ref a_h, .int p0] (PreW D (ty4 cI cC cJ cB) sz [(a_h, .inr (6, [.ref a_h_masses, .ref a_h_errors, .ref a_h_variances, .ref a_h_parents, .ref a_h_onPan, .int v_size])), (a_h_masses, .inl (cI, 8, .inl v_masses_A))]))
      (QI D (ty4 cI cC cJ cB) (va_A [(a_h, .inr (6, [.ref a_h_masses, .ref a_h_errors, .ref a_h_variances, .ref a_h_parents, .ref a_h_onPan, .int v_size])), (a_h_masses, .inl (cI, 8, .inl v_masses_A))] sz) [(a_h, .inr (6, [.ref a_h_masses, .ref a_h_errors, .ref a_h_variances, .ref a_h_parents, .ref a_h_onPan, .int v_size])), (a_h_masses, .inl (cI, 8, .inl v_masses_A))] u) 0 0 (va_A [(a_h, .inr (6, [.ref a_h_masses, .ref a_h_errors, .ref a_h_variances, .ref a_h_parents, .ref a_h_onPan, .int v_size])), (a_h_masses, .inl (cI, 8, .inl v_masses_A))] sz) := by
  refine met_go (y := yX6_mass) (wsy := wsX6_mass) (cc := cX6_mass) (maxL := 2) (ret := (some .int)) (av := [.ref a_h, .int p0]) (Qc := fun A => QI D (ty4 cI cC cJ cB) A [(a_h, .inr (6, [.ref a_h_masses, .ref a_h_errors, .ref a_h_variances, .ref a_h_parents, .ref a_h_onPan, .int v_size])), (a_h_masses, .inl (cI, 8, .inl v_masses_A))] u) (by decide) rfl (Nat.le_of_ble_eq_true rfl) ?_
  intro p e s m below meth c A ls hx hb hr hml hown hts hlocks hnm hN hK hP hD hS hA hl
  have h := hu
  clear hu
  unfold f_X6_mass at h
  have hl : lv_has ls 2 [(0, .ref a_h), (1, .int p0)] := hl
  refine lv_aload_n hx hb dX6_mass_0 rfl (lv_at hl 0 rfl) ?_
  refine lv_iload_n hx hb dX6_mass_1 rfl (lv_at hl 1 rfl) ?_
  obtain ⟨u1, hu1, h⟩ := bd_e h
  refine kx_i (mc := 0) (ms := 0) (wr := [(a_h_masses, .inl (cI, 8, .inl v_masses_A))]) (ws2 := [(a_h, .inr (6, [.ref a_h_masses, .ref a_h_errors, .ref a_h_variances, .ref a_h_parents, .ref a_h_onPan, .int v_size])), (a_h_masses, .inl (cI, 8, .inl v_masses_A))]) (va_runV (As := [.int p0]) (rest := []) ⟨hx, hb, hml, hown, hts⟩ (k_X6_has l D cI cC cJ cB a_h a_h_masses a_h_errors a_h_variances a_h_parents a_h_onPan v_size N p0 s.heap.size _ hu1) (cwV 1 hts gX6_mass_X6_has rfl rfl rfl (by decide +kernel) ⟨Nat.le_of_ble_eq_true rfl, Nat.le_of_ble_eq_true rfl⟩) (pv_V hP hD hK hN [0] rfl rfl (ci := 6) rfl 0 rfl) rfl rfl hl.1 rfl (lv_room (Nat.le_of_ble_eq_true rfl)) dX6_mass_2 ⟨Nat.zero_le _, Nat.zero_le _⟩) hP hD hS hA [0] [1] [1, 0] rfl rfl rfl rfl rfl rfl (fun H locs hP hD hS => ?_)
  refine lv_if_eq (tgt := 17) hx hb dX6_mass_5 (by decide) (fun hc2 => ?_) (fun hc2 => ?_)
  · replace h := it_e hc2 h
    refine lv_iconst (v := (0 : Int32)) hx hb dX6_mass_17 (by decide) ?_
    obtain rfl := sm_e h
    exact rx_i hx hb hr  hP hK hD hS dX6_mass_18 hlocks
  · replace h := if_e hc2 h
    refine lv_aload_n hx hb dX6_mass_8 rfl (lv_at hl 0 rfl) ?_
    refine va_get (D := D) (ci := 6) (v := .ref a_h_masses) (C := RX6) (T := TX6) (N := 6) hx hb hts in_X6_mass_X6 hown hK hP 0 rfl rfl 0 (by decide) (hts _ q_X6_mass_1) (fun _ h9 => h9) rfl dX6_mass_9 ?_
    refine lv_iload_n hx hb dX6_mass_12 rfl (lv_at hl 1 rfl) ?_
    obtain ⟨hi3, h⟩ := gA_e h
    refine wx_iald hx hb hK hP 1 0 rfl rfl (Int32.toNatClampNeg p0) rfl hi3 dX6_mass_13 ?_
    refine lv_goto (tgt := 18) hx hb dX6_mass_14 (by decide) ?_
    obtain rfl := sm_e h
    exact rx_i hx hb hr  hP hK hD hS dX6_mass_18 hlocks
-- X6_told
def f_X6_told (v_size : Int32) (v_masses_A : Nat → Int32) (v_errors_A : Nat → Int32) (p0 : Int32) : Option (Int32) :=
  Option.bind (f_X6_has v_size p0) (fun u1 => (if u1 = 0 then some (0 : Int32)
    else gA p0 8 (gA p0 8 (some ((v_masses_A (Int32.toNatClampNeg p0)) + (v_errors_A (Int32.toNatClampNeg p0)))))))
theorem q_X6_told_1 : (.fieldLink RX6 9 "SpringBalance$Weights" "masses" "[I" : Cond) ∈ wsX6_told := List.mem_of_getElem? (i := 1) (by decide +kernel)
set_option maxRecDepth 20000 in
theorem in_X6_told_X6 : ∀ w ∈ u_ws RX6 TX6 6, w ∈ wsX6_told := by decide +kernel
theorem q_X6_told_2 : (.fieldLink RX6 15 "SpringBalance$Weights" "errors" "[I" : Cond) ∈ wsX6_told := List.mem_of_getElem? (i := 2) (by decide +kernel)
set_option maxHeartbeats 8000000 in
set_option maxRecDepth 100000 in
theorem k_X6_told (l : Launch) (D : va_G) (cI cC cJ cB : ClassId) (a_h a_h_masses a_h_errors a_h_variances a_h_parents a_h_onPan : Nat) (v_size : Int32) (v_masses_A : Nat → Int32) (v_errors_A : Nat → Int32) (N : Nat) (p0 : Int32) (sz : Nat) (u : Int32) (hu : f_X6_told v_size v_masses_A v_errors_A p0 = some u) :
    Met l yX6_told wsX6_told ({ frames := 1, cells := 0, slots := 0, locals := 21 } : Room) (va_Pc [.ref a_h, .int p0] (PreW D (ty4 cI cC cJ cB) sz [(a_h, .inr (6, [.ref a_h_masses, .ref a_h_errors, .ref a_h_variances, .ref a_h_parents, .ref a_h_onPan, .int v_size])), (a_h_masses, .inl (cI, 8, .inl v_masses_A)), (a_h_errors, .inl (cI, 8, .inl v_errors_A))]))
      (QI D (ty4 cI cC cJ cB) (va_A [(a_h, .inr (6, [.ref a_h_masses, .ref a_h_errors, .ref a_h_variances, .ref a_h_parents, .ref a_h_onPan, .int v_size])), (a_h_masses, .inl (cI, 8, .inl v_masses_A)), (a_h_errors, .inl (cI, 8, .inl v_errors_A))] sz) [(a_h, .inr (6, [.ref a_h_masses, .ref a_h_errors, .ref a_h_variances, .ref a_h_parents, .ref a_h_onPan, .int v_size])), (a_h_masses, .inl (cI, 8, .inl v_masses_A)), (a_h_errors, .inl (cI, 8, .inl v_errors_A))] u) 0 0 (va_A [(a_h, .inr (6, [.ref a_h_masses, .ref a_h_errors, .ref a_h_variances, .ref a_h_parents, .ref a_h_onPan, .int v_size])), (a_h_masses, .inl (cI, 8, .inl v_masses_A)), (a_h_errors, .inl (cI, 8, .inl v_errors_A))] sz) := by
  refine met_go (y := yX6_told) (wsy := wsX6_told) (cc := cX6_told) (maxL := 2) (ret := (some .int)) (av := [.ref a_h, .int p0]) (Qc := fun A => QI D (ty4 cI cC cJ cB) A [(a_h, .inr (6, [.ref a_h_masses, .ref a_h_errors, .ref a_h_variances, .ref a_h_parents, .ref a_h_onPan, .int v_size])), (a_h_masses, .inl (cI, 8, .inl v_masses_A)), (a_h_errors, .inl (cI, 8, .inl v_errors_A))] u) (by decide) rfl (Nat.le_of_ble_eq_true rfl) ?_
  intro p e s m below meth c A ls hx hb hr hml hown hts hlocks hnm hN hK hP hD hS hA hl
  have h := hu
  clear hu
  unfold f_X6_told at h
  have hl : lv_has ls 2 [(0, .ref a_h), (1, .int p0)] := hl
  refine lv_aload_n hx hb dX6_told_0 rfl (lv_at hl 0 rfl) ?_
  refine lv_iload_n hx hb dX6_told_1 rfl (lv_at hl 1 rfl) ?_
  obtain ⟨u1, hu1, h⟩ := bd_e h
  refine kx_i (mc := 0) (ms := 0) (wr := [(a_h_masses, .inl (cI, 8, .inl v_masses_A)), (a_h_errors, .inl (cI, 8, .inl v_errors_A))]) (ws2 := [(a_h, .inr (6, [.ref a_h_masses, .ref a_h_errors, .ref a_h_variances, .ref a_h_parents, .ref a_h_onPan, .int v_size])), (a_h_masses, .inl (cI, 8, .inl v_masses_A)), (a_h_errors, .inl (cI, 8, .inl v_errors_A))]) (va_runV (As := [.int p0]) (rest := []) ⟨hx, hb, hml, hown, hts⟩ (k_X6_has l D cI cC cJ cB a_h a_h_masses a_h_errors a_h_variances a_h_parents a_h_onPan v_size N p0 s.heap.size _ hu1) (cwV 1 hts gX6_told_X6_has rfl rfl rfl (by decide +kernel) ⟨Nat.le_of_ble_eq_true rfl, Nat.le_of_ble_eq_true rfl⟩) (pv_V hP hD hK hN [0] rfl rfl (ci := 6) rfl 0 rfl) rfl rfl hl.1 rfl (lv_room (Nat.le_of_ble_eq_true rfl)) dX6_told_2 ⟨Nat.zero_le _, Nat.zero_le _⟩) hP hD hS hA [0] [1, 2] [2, 0, 1] rfl rfl rfl rfl rfl rfl (fun H locs hP hD hS => ?_)
  refine lv_if_eq (tgt := 24) hx hb dX6_told_5 (by decide) (fun hc2 => ?_) (fun hc2 => ?_)
  · replace h := it_e hc2 h
    refine lv_iconst (v := (0 : Int32)) hx hb dX6_told_24 (by decide) ?_
    obtain rfl := sm_e h
    exact rx_i hx hb hr  hP hK hD hS dX6_told_25 hlocks
  · replace h := if_e hc2 h
    refine lv_aload_n hx hb dX6_told_8 rfl (lv_at hl 0 rfl) ?_
    refine va_get (D := D) (ci := 6) (v := .ref a_h_masses) (C := RX6) (T := TX6) (N := 6) hx hb hts in_X6_told_X6 hown hK hP 0 rfl rfl 0 (by decide) (hts _ q_X6_told_1) (fun _ h9 => h9) rfl dX6_told_9 ?_
    refine lv_iload_n hx hb dX6_told_12 rfl (lv_at hl 1 rfl) ?_
    obtain ⟨hi3, h⟩ := gA_e h
    refine wx_iald hx hb hK hP 1 0 rfl rfl (Int32.toNatClampNeg p0) rfl hi3 dX6_told_13 ?_
    refine lv_aload_n hx hb dX6_told_14 rfl (lv_at hl 0 rfl) ?_
    refine va_get (D := D) (ci := 6) (v := .ref a_h_errors) (C := RX6) (T := TX6) (N := 6) hx hb hts in_X6_told_X6 hown hK hP 0 rfl rfl 1 (by decide) (hts _ q_X6_told_2) (fun _ h9 => h9) rfl dX6_told_15 ?_
    refine lv_iload_n hx hb dX6_told_18 rfl (lv_at hl 1 rfl) ?_
    obtain ⟨hi4, h⟩ := gA_e h
    refine wx_iald hx hb hK hP 2 0 rfl rfl (Int32.toNatClampNeg p0) rfl hi4 dX6_told_19 ?_
    refine lv_iadd hx hb dX6_told_20 ?_
    refine lv_goto (tgt := 25) hx hb dX6_told_21 (by decide) ?_
    obtain rfl := sm_e h
    exact rx_i hx hb hr  hP hK hD hS dX6_told_25 hlocks
-- X6_isOnPan
def f_X6_isOnPan (v_size : Int32) (v_onPan_A : Nat → Int32) (p0 : Int32) : Option (Int32) :=
  Option.bind (f_X6_has v_size p0) (fun u1 => (if u1 = 0 then some (0 : Int32)
    else gA p0 8 ((if (v_onPan_A (Int32.toNatClampNeg p0)) = 0 then some (0 : Int32)
    else some (1 : Int32)))))
theorem q_X6_isOnPan_1 : (.fieldLink RX6 24 "SpringBalance$Weights" "onPan" "[I" : Cond) ∈ wsX6_isOnPan := List.mem_of_getElem? (i := 1) (by decide +kernel)
set_option maxRecDepth 20000 in
theorem in_X6_isOnPan_X6 : ∀ w ∈ u_ws RX6 TX6 6, w ∈ wsX6_isOnPan := by decide +kernel
set_option maxHeartbeats 8000000 in
set_option maxRecDepth 100000 in
theorem k_X6_isOnPan (l : Launch) (D : va_G) (cI cC cJ cB : ClassId) (a_h a_h_masses a_h_errors a_h_variances a_h_parents a_h_onPan : Nat) (v_size : Int32) (v_onPan_A : Nat → Int32) (N : Nat) (p0 : Int32) (sz : Nat) (u : Int32) (hu : f_X6_isOnPan v_size v_onPan_A p0 = some u) :
    Met l yX6_isOnPan wsX6_isOnPan ({ frames := 1, cells := 0, slots := 0, locals := 21 } : Room) (va_Pc [.ref a_h, .int p0] (PreW D (ty4 cI cC cJ cB) sz [(a_h, .inr (6, [.ref a_h_masses, .ref a_h_errors, .ref a_h_variances, .ref a_h_parents, .ref a_h_onPan, .int v_size])), (a_h_onPan, .inl (cI, 8, .inl v_onPan_A))]))
      (QI D (ty4 cI cC cJ cB) (va_A [(a_h, .inr (6, [.ref a_h_masses, .ref a_h_errors, .ref a_h_variances, .ref a_h_parents, .ref a_h_onPan, .int v_size])), (a_h_onPan, .inl (cI, 8, .inl v_onPan_A))] sz) [(a_h, .inr (6, [.ref a_h_masses, .ref a_h_errors, .ref a_h_variances, .ref a_h_parents, .ref a_h_onPan, .int v_size])), (a_h_onPan, .inl (cI, 8, .inl v_onPan_A))] u) 0 0 (va_A [(a_h, .inr (6, [.ref a_h_masses, .ref a_h_errors, .ref a_h_variances, .ref a_h_parents, .ref a_h_onPan, .int v_size])), (a_h_onPan, .inl (cI, 8, .inl v_onPan_A))] sz) := by
  refine met_go (y := yX6_isOnPan) (wsy := wsX6_isOnPan) (cc := cX6_isOnPan) (maxL := 2) (ret := (some .boolean)) (av := [.ref a_h, .int p0]) (Qc := fun A => QI D (ty4 cI cC cJ cB) A [(a_h, .inr (6, [.ref a_h_masses, .ref a_h_errors, .ref a_h_variances, .ref a_h_parents, .ref a_h_onPan, .int v_size])), (a_h_onPan, .inl (cI, 8, .inl v_onPan_A))] u) (by decide) rfl (Nat.le_of_ble_eq_true rfl) ?_
  intro p e s m below meth c A ls hx hb hr hml hown hts hlocks hnm hN hK hP hD hS hA hl
  have h := hu
  clear hu
  unfold f_X6_isOnPan at h
  have hl : lv_has ls 2 [(0, .ref a_h), (1, .int p0)] := hl
  refine lv_aload_n hx hb dX6_isOnPan_0 rfl (lv_at hl 0 rfl) ?_
  refine lv_iload_n hx hb dX6_isOnPan_1 rfl (lv_at hl 1 rfl) ?_
  obtain ⟨u1, hu1, h⟩ := bd_e h
  refine kx_i (mc := 0) (ms := 0) (wr := [(a_h_onPan, .inl (cI, 8, .inl v_onPan_A))]) (ws2 := [(a_h, .inr (6, [.ref a_h_masses, .ref a_h_errors, .ref a_h_variances, .ref a_h_parents, .ref a_h_onPan, .int v_size])), (a_h_onPan, .inl (cI, 8, .inl v_onPan_A))]) (va_runV (As := [.int p0]) (rest := []) ⟨hx, hb, hml, hown, hts⟩ (k_X6_has l D cI cC cJ cB a_h a_h_masses a_h_errors a_h_variances a_h_parents a_h_onPan v_size N p0 s.heap.size _ hu1) (cwV 1 hts gX6_isOnPan_X6_has rfl rfl rfl (by decide +kernel) ⟨Nat.le_of_ble_eq_true rfl, Nat.le_of_ble_eq_true rfl⟩) (pv_V hP hD hK hN [0] rfl rfl (ci := 6) rfl 0 rfl) rfl rfl hl.1 rfl (lv_room (Nat.le_of_ble_eq_true rfl)) dX6_isOnPan_2 ⟨Nat.zero_le _, Nat.zero_le _⟩) hP hD hS hA [0] [1] [1, 0] rfl rfl rfl rfl rfl rfl (fun H locs hP hD hS => ?_)
  refine lv_if_eq (tgt := 21) hx hb dX6_isOnPan_5 (by decide) (fun hc2 => ?_) (fun hc2 => ?_)
  · replace h := it_e hc2 h
    refine lv_iconst (v := (0 : Int32)) hx hb dX6_isOnPan_21 (by decide) ?_
    obtain rfl := sm_e h
    exact rx_z hx hb hr rfl hP hK hD hS dX6_isOnPan_22 hlocks
  · replace h := if_e hc2 h
    refine lv_aload_n hx hb dX6_isOnPan_8 rfl (lv_at hl 0 rfl) ?_
    refine va_get (D := D) (ci := 6) (v := .ref a_h_onPan) (C := RX6) (T := TX6) (N := 6) hx hb hts in_X6_isOnPan_X6 hown hK hP 0 rfl rfl 4 (by decide) (hts _ q_X6_isOnPan_1) (fun _ h9 => h9) rfl dX6_isOnPan_9 ?_
    refine lv_iload_n hx hb dX6_isOnPan_12 rfl (lv_at hl 1 rfl) ?_
    obtain ⟨hi3, h⟩ := gA_e h
    refine wx_iald hx hb hK hP 1 0 rfl rfl (Int32.toNatClampNeg p0) rfl hi3 dX6_isOnPan_13 ?_
    refine lv_if_eq (tgt := 21) hx hb dX6_isOnPan_14 (by decide) (fun hc4 => ?_) (fun hc4 => ?_)
    · replace h := it_e hc4 h
      refine lv_iconst (v := (0 : Int32)) hx hb dX6_isOnPan_21 (by decide) ?_
      obtain rfl := sm_e h
      exact rx_z hx hb hr rfl hP hK hD hS dX6_isOnPan_22 hlocks
    · replace h := if_e hc4 h
      refine lv_iconst (v := (1 : Int32)) hx hb dX6_isOnPan_17 (by decide) ?_
      refine lv_goto (tgt := 22) hx hb dX6_isOnPan_18 (by decide) ?_
      obtain rfl := sm_e h
      exact rx_z hx hb hr rfl hP hK hD hS dX6_isOnPan_22 hlocks
-- X6_lay
def f_X6_lay (v_size : Int32) (v_onPan_A : Nat → Int32) (p0 : Int32) (p1 : Int32) : Option ((Nat → Int32)) :=
  Option.bind (f_X6_has v_size p0) (fun u1 => (if u1 = 0 then some v_onPan_A
    else gA p0 8 (nm (upd v_onPan_A (Int32.toNatClampNeg p0) p1) (fun g4 => some g4))))
theorem q_X6_lay_1 : (.fieldLink RX6 24 "SpringBalance$Weights" "onPan" "[I" : Cond) ∈ wsX6_lay := List.mem_of_getElem? (i := 1) (by decide +kernel)
set_option maxRecDepth 20000 in
theorem in_X6_lay_X6 : ∀ w ∈ u_ws RX6 TX6 6, w ∈ wsX6_lay := by decide +kernel
set_option maxHeartbeats 8000000 in
set_option maxRecDepth 100000 in
theorem k_X6_lay (l : Launch) (D : va_G) (cI cC cJ cB : ClassId) (a_h a_h_masses a_h_errors a_h_variances a_h_parents a_h_onPan : Nat) (v_size : Int32) (v_onPan_A : Nat → Int32) (N : Nat) (p0 : Int32) (p1 : Int32) (sz : Nat) (u : (Nat → Int32)) (hu : f_X6_lay v_size v_onPan_A p0 p1 = some u) :
    Met l yX6_lay wsX6_lay ({ frames := 1, cells := 0, slots := 0, locals := 21 } : Room) (va_Pc [.ref a_h, .int p0, .int p1] (PreW D (ty4 cI cC cJ cB) sz [(a_h, .inr (6, [.ref a_h_masses, .ref a_h_errors, .ref a_h_variances, .ref a_h_parents, .ref a_h_onPan, .int v_size])), (a_h_onPan, .inl (cI, 8, .inl v_onPan_A))]))
      (QV D (ty4 cI cC cJ cB) (va_A [(a_h, .inr (6, [.ref a_h_masses, .ref a_h_errors, .ref a_h_variances, .ref a_h_parents, .ref a_h_onPan, .int v_size])), (a_h_onPan, .inl (cI, 8, .inl v_onPan_A))] sz) [(a_h, .inr (6, [.ref a_h_masses, .ref a_h_errors, .ref a_h_variances, .ref a_h_parents, .ref a_h_onPan, .int v_size])), (a_h_onPan, .inl (cI, 8, .inl u))]) 0 0 (va_A [(a_h, .inr (6, [.ref a_h_masses, .ref a_h_errors, .ref a_h_variances, .ref a_h_parents, .ref a_h_onPan, .int v_size])), (a_h_onPan, .inl (cI, 8, .inl v_onPan_A))] sz) := by
  refine met_go (y := yX6_lay) (wsy := wsX6_lay) (cc := cX6_lay) (maxL := 3) (ret := none) (av := [.ref a_h, .int p0, .int p1]) (Qc := fun A => QV D (ty4 cI cC cJ cB) A [(a_h, .inr (6, [.ref a_h_masses, .ref a_h_errors, .ref a_h_variances, .ref a_h_parents, .ref a_h_onPan, .int v_size])), (a_h_onPan, .inl (cI, 8, .inl u))]) (by decide) rfl (Nat.le_of_ble_eq_true rfl) ?_
  intro p e s m below meth c A ls hx hb hr hml hown hts hlocks hnm hN hK hP hD hS hA hl
  have h := hu
  clear hu
  unfold f_X6_lay at h
  have hl : lv_has ls 3 [(0, .ref a_h), (1, .int p0), (2, .int p1)] := hl
  refine lv_aload_n hx hb dX6_lay_0 rfl (lv_at hl 0 rfl) ?_
  refine lv_iload_n hx hb dX6_lay_1 rfl (lv_at hl 1 rfl) ?_
  obtain ⟨u1, hu1, h⟩ := bd_e h
  refine kx_i (mc := 0) (ms := 0) (wr := [(a_h_onPan, .inl (cI, 8, .inl v_onPan_A))]) (ws2 := [(a_h, .inr (6, [.ref a_h_masses, .ref a_h_errors, .ref a_h_variances, .ref a_h_parents, .ref a_h_onPan, .int v_size])), (a_h_onPan, .inl (cI, 8, .inl v_onPan_A))]) (va_runV (As := [.int p0]) (rest := []) ⟨hx, hb, hml, hown, hts⟩ (k_X6_has l D cI cC cJ cB a_h a_h_masses a_h_errors a_h_variances a_h_parents a_h_onPan v_size N p0 s.heap.size _ hu1) (cwV 1 hts gX6_lay_X6_has rfl rfl rfl (by decide +kernel) ⟨Nat.le_of_ble_eq_true rfl, Nat.le_of_ble_eq_true rfl⟩) (pv_V hP hD hK hN [0] rfl rfl (ci := 6) rfl 0 rfl) rfl rfl hl.1 rfl (lv_room (Nat.le_of_ble_eq_true rfl)) dX6_lay_2 ⟨Nat.zero_le _, Nat.zero_le _⟩) hP hD hS hA [0] [1] [1, 0] rfl rfl rfl rfl rfl rfl (fun H locs hP hD hS => ?_)
  refine lv_if_eq (tgt := 15) hx hb dX6_lay_5 (by decide) (fun hc2 => ?_) (fun hc2 => ?_)
  · replace h := it_e hc2 h
    obtain rfl := sm_e h
    exact rx_v hx hb hr  hP hK hD hS dX6_lay_15 hlocks
  · replace h := if_e hc2 h
    refine lv_aload_n hx hb dX6_lay_8 rfl (lv_at hl 0 rfl) ?_
    refine va_get (D := D) (ci := 6) (v := .ref a_h_onPan) (C := RX6) (T := TX6) (N := 6) hx hb hts in_X6_lay_X6 hown hK hP 0 rfl rfl 4 (by decide) (hts _ q_X6_lay_1) (fun _ h9 => h9) rfl dX6_lay_9 ?_
    refine lv_iload_n hx hb dX6_lay_12 rfl (lv_at hl 1 rfl) ?_
    refine lv_iload_n hx hb dX6_lay_13 rfl (lv_at hl 2 rfl) ?_
    obtain ⟨hi3, h⟩ := gA_e h
    refine wx_iast hx hb hK hP hD hS 1 0 rfl rfl (Int32.toNatClampNeg p0) rfl hi3 dX6_lay_14 rfl (fun H locs hP hD hS => ?_)
    obtain ⟨g4, eg4, h⟩ := nm_x h
    have hP : va_P D vwCl [(a_h, .inr (6, [.ref a_h_masses, .ref a_h_errors, .ref a_h_variances, .ref a_h_parents, .ref a_h_onPan, .int v_size])), (a_h_onPan, .inl (cI, 8, .inl g4))] H := by rw [eg4]; exact hP
    have hD : va_D A [(a_h, .inr (6, [.ref a_h_masses, .ref a_h_errors, .ref a_h_variances, .ref a_h_parents, .ref a_h_onPan, .int v_size])), (a_h_onPan, .inl (cI, 8, .inl g4))] := by rw [eg4]; exact hD
    obtain rfl := sm_e h
    exact rx_v hx hb hr  hP hK hD hS dX6_lay_15 hlocks
-- X6_numberOnPan
def f_X6_numberOnPan_b4 (v_size : Int32) (v_onPan_A : Nat → Int32) : Nat → Int32 → Int32 → Option (Int32)
  | 0, _, _ => none
  | k + 1, x1, x2 =>
    (if v_size ≤ x2 then some x1
    else gA x2 8 (nm (x1 + (v_onPan_A (Int32.toNatClampNeg x2))) (fun t3 => nm (x2 + (1 : Int32)) (fun t4 => (f_X6_numberOnPan_b4 v_size v_onPan_A k t3 t4)))))
def f_X6_numberOnPan (N : Nat) (v_size : Int32) (v_onPan_A : Nat → Int32) : Option (Int32) :=
  (f_X6_numberOnPan_b4 v_size v_onPan_A N (0 : Int32) (0 : Int32))
theorem q_X6_numberOnPan_1 : (.fieldLink RX6 27 "SpringBalance$Weights" "size" "I" : Cond) ∈ wsX6_numberOnPan := List.mem_of_getElem? (i := 1) (by decide +kernel)
set_option maxRecDepth 20000 in
theorem in_X6_numberOnPan_X6 : ∀ w ∈ u_ws RX6 TX6 6, w ∈ wsX6_numberOnPan := by decide +kernel
theorem q_X6_numberOnPan_2 : (.fieldLink RX6 24 "SpringBalance$Weights" "onPan" "[I" : Cond) ∈ wsX6_numberOnPan := List.mem_of_getElem? (i := 2) (by decide +kernel)
set_option maxHeartbeats 8000000 in
set_option maxRecDepth 100000 in
theorem k_X6_numberOnPan (l : Launch) (D : va_G) (cI cC cJ cB : ClassId) (a_h a_h_masses a_h_errors a_h_variances a_h_parents a_h_onPan : Nat) (v_size : Int32) (v_onPan_A : Nat → Int32) (N : Nat) (sz : Nat) (u : Int32) (hu : f_X6_numberOnPan N v_size v_onPan_A = some u) :
    Met l yX6_numberOnPan wsX6_numberOnPan ({ frames := 0, cells := 0, slots := 0, locals := 0 } : Room) (va_Pc [.ref a_h] (PreW D (ty4 cI cC cJ cB) sz [(a_h, .inr (6, [.ref a_h_masses, .ref a_h_errors, .ref a_h_variances, .ref a_h_parents, .ref a_h_onPan, .int v_size])), (a_h_onPan, .inl (cI, 8, .inl v_onPan_A))]))
      (QI D (ty4 cI cC cJ cB) (va_A [(a_h, .inr (6, [.ref a_h_masses, .ref a_h_errors, .ref a_h_variances, .ref a_h_parents, .ref a_h_onPan, .int v_size])), (a_h_onPan, .inl (cI, 8, .inl v_onPan_A))] sz) [(a_h, .inr (6, [.ref a_h_masses, .ref a_h_errors, .ref a_h_variances, .ref a_h_parents, .ref a_h_onPan, .int v_size])), (a_h_onPan, .inl (cI, 8, .inl v_onPan_A))] u) 0 0 (va_A [(a_h, .inr (6, [.ref a_h_masses, .ref a_h_errors, .ref a_h_variances, .ref a_h_parents, .ref a_h_onPan, .int v_size])), (a_h_onPan, .inl (cI, 8, .inl v_onPan_A))] sz) := by
  refine met_go (y := yX6_numberOnPan) (wsy := wsX6_numberOnPan) (cc := cX6_numberOnPan) (maxL := 3) (ret := (some .int)) (av := [.ref a_h]) (Qc := fun A => QI D (ty4 cI cC cJ cB) A [(a_h, .inr (6, [.ref a_h_masses, .ref a_h_errors, .ref a_h_variances, .ref a_h_parents, .ref a_h_onPan, .int v_size])), (a_h_onPan, .inl (cI, 8, .inl v_onPan_A))] u) (by decide) rfl (Nat.le_of_ble_eq_true rfl) ?_
  intro p e s m below meth c A ls hx hb hr hml hown hts hlocks hnm hN hK hP hD hS hA hl
  have h := hu
  clear hu
  unfold f_X6_numberOnPan at h
  have hl : lv_has ls 3 [(0, .ref a_h)] := hl
  have B4 : ∀ (k : Nat) (x1 : Int32) (x2 : Int32) (H : Heap) (locs : List Loc) (ls : Array Slot), f_X6_numberOnPan_b4 v_size v_onPan_A k x1 x2 = some u → va_P D vwCl [(a_h, .inr (6, [.ref a_h_masses, .ref a_h_errors, .ref a_h_variances, .ref a_h_parents, .ref a_h_onPan, .int v_size])), (a_h_onPan, .inl (cI, 8, .inl v_onPan_A))] H → va_D A [(a_h, .inr (6, [.ref a_h_masses, .ref a_h_errors, .ref a_h_variances, .ref a_h_parents, .ref a_h_onPan, .int v_size])), (a_h_onPan, .inl (cI, 8, .inl v_onPan_A))] → va_S A s.heap H locs → lv_has ls 3 [(0, .ref a_h), (1, .int x1), (2, .int x2)] → W p l e ({ frames := 0, cells := 0, slots := 0, locals := 0 } : Room) s m ([.ref a_h] : List Value).toArray below meth c H locs 0 0 (MQ below (QI D (ty4 cI cC cJ cB) A [(a_h, .inr (6, [.ref a_h_masses, .ref a_h_errors, .ref a_h_variances, .ref a_h_parents, .ref a_h_onPan, .int v_size])), (a_h_onPan, .inl (cI, 8, .inl v_onPan_A))] u) ([.ref a_h] : List Value).toArray s 0 0 A) (F0 m 4 ls []) := by
    intro k
    induction k with
    | zero =>
      intro x1 x2 H locs ls h
      exact nomatch (show (none : Option (Int32)) = some u from h)
    | succ k ih =>
      intro x1 x2 H locs ls h hP hD hS hl
      rw [f_X6_numberOnPan_b4.eq_2] at h
      refine lv_iload_n hx hb dX6_numberOnPan_4 rfl (lv_at hl 2 rfl) ?_
      refine lv_aload_n hx hb dX6_numberOnPan_5 rfl (lv_at hl 0 rfl) ?_
      refine va_get (D := D) (ci := 6) (v := .int v_size) (C := RX6) (T := TX6) (N := 6) hx hb hts in_X6_numberOnPan_X6 hown hK hP 0 rfl rfl 5 (by decide) (hts _ q_X6_numberOnPan_1) (fun _ h9 => h9) rfl dX6_numberOnPan_6 ?_
      refine lv_icmp_ge (tgt := 27) hx hb dX6_numberOnPan_9 (by decide) (fun hc1 => ?_) (fun hc1 => ?_)
      · replace h := it_e hc1 h
        refine lv_iload_n hx hb dX6_numberOnPan_27 rfl (lv_at hl 1 rfl) ?_
        obtain rfl := sm_e h
        exact rx_i hx hb hr  hP hK hD hS dX6_numberOnPan_28 hlocks
      · replace h := if_e hc1 h
        refine lv_iload_n hx hb dX6_numberOnPan_12 rfl (lv_at hl 1 rfl) ?_
        refine lv_aload_n hx hb dX6_numberOnPan_13 rfl (lv_at hl 0 rfl) ?_
        refine va_get (D := D) (ci := 6) (v := .ref a_h_onPan) (C := RX6) (T := TX6) (N := 6) hx hb hts in_X6_numberOnPan_X6 hown hK hP 0 rfl rfl 4 (by decide) (hts _ q_X6_numberOnPan_2) (fun _ h9 => h9) rfl dX6_numberOnPan_14 ?_
        refine lv_iload_n hx hb dX6_numberOnPan_17 rfl (lv_at hl 2 rfl) ?_
        obtain ⟨hi2, h⟩ := gA_e h
        refine wx_iald hx hb hK hP 1 0 rfl rfl (Int32.toNatClampNeg x2) rfl hi2 dX6_numberOnPan_18 ?_
        refine lv_iadd hx hb dX6_numberOnPan_19 ?_
        refine lv_topi (fun t3 et3 => ?_)
        replace h := nm_at h et3
        refine lv_istore_n (lv' := [(1, .int t3), (0, .ref a_h), (2, .int x2)]) hx hb dX6_numberOnPan_20 rfl hl (by decide) rfl (fun ls hl => ?_)
        obtain ⟨t4, et4, h⟩ := nm_x h
        refine lv_iinc (v := t4) (lv' := [(2, .int t4), (1, .int t3), (0, .ref a_h)]) hx hb dX6_numberOnPan_21 hl (k := 2) rfl (by rw [et4]; rfl) (by decide) rfl (fun ls hl => ?_)
        refine lv_goto (tgt := 4) hx hb dX6_numberOnPan_24 (by decide) ?_
        exact ih t3 t4 _ _ _ h hP hD hS (lv_sub hl [2, 1, 0] rfl)
  refine lv_iconst (v := (0 : Int32)) hx hb dX6_numberOnPan_0 (by decide) ?_
  refine lv_istore_n (lv' := [(1, .int (0 : Int32)), (0, .ref a_h)]) hx hb dX6_numberOnPan_1 rfl hl (by decide) rfl (fun ls hl => ?_)
  refine lv_iconst (v := (0 : Int32)) hx hb dX6_numberOnPan_2 (by decide) ?_
  refine lv_istore_n (lv' := [(2, .int (0 : Int32)), (1, .int (0 : Int32)), (0, .ref a_h)]) hx hb dX6_numberOnPan_3 rfl hl (by decide) rfl (fun ls hl => ?_)
  exact B4 N (0 : Int32) (0 : Int32) _ _ _ h hP hD hS (lv_sub hl [2, 1, 0] rfl)
-- X6_massOnPan
def f_X6_massOnPan_b4 (v_size : Int32) (v_masses_A : Nat → Int32) (v_onPan_A : Nat → Int32) : Nat → Int32 → Int32 → Option (Int32)
  | 0, _, _ => none
  | k + 1, x1, x2 =>
    (if v_size ≤ x2 then some x1
    else gA x2 8 (gA x2 8 (nm (x1 + ((v_onPan_A (Int32.toNatClampNeg x2)) * (v_masses_A (Int32.toNatClampNeg x2)))) (fun t4 => nm (x2 + (1 : Int32)) (fun t5 => (f_X6_massOnPan_b4 v_size v_masses_A v_onPan_A k t4 t5))))))
def f_X6_massOnPan (N : Nat) (v_size : Int32) (v_masses_A : Nat → Int32) (v_onPan_A : Nat → Int32) : Option (Int32) :=
  (f_X6_massOnPan_b4 v_size v_masses_A v_onPan_A N (0 : Int32) (0 : Int32))
theorem q_X6_massOnPan_1 : (.fieldLink RX6 27 "SpringBalance$Weights" "size" "I" : Cond) ∈ wsX6_massOnPan := List.mem_of_getElem? (i := 1) (by decide +kernel)
set_option maxRecDepth 20000 in
theorem in_X6_massOnPan_X6 : ∀ w ∈ u_ws RX6 TX6 6, w ∈ wsX6_massOnPan := by decide +kernel
theorem q_X6_massOnPan_2 : (.fieldLink RX6 24 "SpringBalance$Weights" "onPan" "[I" : Cond) ∈ wsX6_massOnPan := List.mem_of_getElem? (i := 2) (by decide +kernel)
theorem q_X6_massOnPan_3 : (.fieldLink RX6 9 "SpringBalance$Weights" "masses" "[I" : Cond) ∈ wsX6_massOnPan := List.mem_of_getElem? (i := 3) (by decide +kernel)
set_option maxHeartbeats 8000000 in
set_option maxRecDepth 100000 in
theorem k_X6_massOnPan (l : Launch) (D : va_G) (cI cC cJ cB : ClassId) (a_h a_h_masses a_h_errors a_h_variances a_h_parents a_h_onPan : Nat) (v_size : Int32) (v_masses_A : Nat → Int32) (v_onPan_A : Nat → Int32) (N : Nat) (sz : Nat) (u : Int32) (hu : f_X6_massOnPan N v_size v_masses_A v_onPan_A = some u) :
    Met l yX6_massOnPan wsX6_massOnPan ({ frames := 0, cells := 0, slots := 0, locals := 0 } : Room) (va_Pc [.ref a_h] (PreW D (ty4 cI cC cJ cB) sz [(a_h, .inr (6, [.ref a_h_masses, .ref a_h_errors, .ref a_h_variances, .ref a_h_parents, .ref a_h_onPan, .int v_size])), (a_h_masses, .inl (cI, 8, .inl v_masses_A)), (a_h_onPan, .inl (cI, 8, .inl v_onPan_A))]))
      (QI D (ty4 cI cC cJ cB) (va_A [(a_h, .inr (6, [.ref a_h_masses, .ref a_h_errors, .ref a_h_variances, .ref a_h_parents, .ref a_h_onPan, .int v_size])), (a_h_masses, .inl (cI, 8, .inl v_masses_A)), (a_h_onPan, .inl (cI, 8, .inl v_onPan_A))] sz) [(a_h, .inr (6, [.ref a_h_masses, .ref a_h_errors, .ref a_h_variances, .ref a_h_parents, .ref a_h_onPan, .int v_size])), (a_h_masses, .inl (cI, 8, .inl v_masses_A)), (a_h_onPan, .inl (cI, 8, .inl v_onPan_A))] u) 0 0 (va_A [(a_h, .inr (6, [.ref a_h_masses, .ref a_h_errors, .ref a_h_variances, .ref a_h_parents, .ref a_h_onPan, .int v_size])), (a_h_masses, .inl (cI, 8, .inl v_masses_A)), (a_h_onPan, .inl (cI, 8, .inl v_onPan_A))] sz) := by
  refine met_go (y := yX6_massOnPan) (wsy := wsX6_massOnPan) (cc := cX6_massOnPan) (maxL := 3) (ret := (some .int)) (av := [.ref a_h]) (Qc := fun A => QI D (ty4 cI cC cJ cB) A [(a_h, .inr (6, [.ref a_h_masses, .ref a_h_errors, .ref a_h_variances, .ref a_h_parents, .ref a_h_onPan, .int v_size])), (a_h_masses, .inl (cI, 8, .inl v_masses_A)), (a_h_onPan, .inl (cI, 8, .inl v_onPan_A))] u) (by decide) rfl (Nat.le_of_ble_eq_true rfl) ?_
  intro p e s m below meth c A ls hx hb hr hml hown hts hlocks hnm hN hK hP hD hS hA hl
  have h := hu
  clear hu
  unfold f_X6_massOnPan at h
  have hl : lv_has ls 3 [(0, .ref a_h)] := hl
  have B4 : ∀ (k : Nat) (x1 : Int32) (x2 : Int32) (H : Heap) (locs : List Loc) (ls : Array Slot), f_X6_massOnPan_b4 v_size v_masses_A v_onPan_A k x1 x2 = some u → va_P D vwCl [(a_h, .inr (6, [.ref a_h_masses, .ref a_h_errors, .ref a_h_variances, .ref a_h_parents, .ref a_h_onPan, .int v_size])), (a_h_masses, .inl (cI, 8, .inl v_masses_A)), (a_h_onPan, .inl (cI, 8, .inl v_onPan_A))] H → va_D A [(a_h, .inr (6, [.ref a_h_masses, .ref a_h_errors, .ref a_h_variances, .ref a_h_parents, .ref a_h_onPan, .int v_size])), (a_h_masses, .inl (cI, 8, .inl v_masses_A)), (a_h_onPan, .inl (cI, 8, .inl v_onPan_A))] → va_S A s.heap H locs → lv_has ls 3 [(0, .ref a_h), (1, .int x1), (2, .int x2)] → W p l e ({ frames := 0, cells := 0, slots := 0, locals := 0 } : Room) s m ([.ref a_h] : List Value).toArray below meth c H locs 0 0 (MQ below (QI D (ty4 cI cC cJ cB) A [(a_h, .inr (6, [.ref a_h_masses, .ref a_h_errors, .ref a_h_variances, .ref a_h_parents, .ref a_h_onPan, .int v_size])), (a_h_masses, .inl (cI, 8, .inl v_masses_A)), (a_h_onPan, .inl (cI, 8, .inl v_onPan_A))] u) ([.ref a_h] : List Value).toArray s 0 0 A) (F0 m 4 ls []) := by
    intro k
    induction k with
    | zero =>
      intro x1 x2 H locs ls h
      exact nomatch (show (none : Option (Int32)) = some u from h)
    | succ k ih =>
      intro x1 x2 H locs ls h hP hD hS hl
      rw [f_X6_massOnPan_b4.eq_2] at h
      refine lv_iload_n hx hb dX6_massOnPan_4 rfl (lv_at hl 2 rfl) ?_
      refine lv_aload_n hx hb dX6_massOnPan_5 rfl (lv_at hl 0 rfl) ?_
      refine va_get (D := D) (ci := 6) (v := .int v_size) (C := RX6) (T := TX6) (N := 6) hx hb hts in_X6_massOnPan_X6 hown hK hP 0 rfl rfl 5 (by decide) (hts _ q_X6_massOnPan_1) (fun _ h9 => h9) rfl dX6_massOnPan_6 ?_
      refine lv_icmp_ge (tgt := 34) hx hb dX6_massOnPan_9 (by decide) (fun hc1 => ?_) (fun hc1 => ?_)
      · replace h := it_e hc1 h
        refine lv_iload_n hx hb dX6_massOnPan_34 rfl (lv_at hl 1 rfl) ?_
        obtain rfl := sm_e h
        exact rx_i hx hb hr  hP hK hD hS dX6_massOnPan_35 hlocks
      · replace h := if_e hc1 h
        refine lv_iload_n hx hb dX6_massOnPan_12 rfl (lv_at hl 1 rfl) ?_
        refine lv_aload_n hx hb dX6_massOnPan_13 rfl (lv_at hl 0 rfl) ?_
        refine va_get (D := D) (ci := 6) (v := .ref a_h_onPan) (C := RX6) (T := TX6) (N := 6) hx hb hts in_X6_massOnPan_X6 hown hK hP 0 rfl rfl 4 (by decide) (hts _ q_X6_massOnPan_2) (fun _ h9 => h9) rfl dX6_massOnPan_14 ?_
        refine lv_iload_n hx hb dX6_massOnPan_17 rfl (lv_at hl 2 rfl) ?_
        obtain ⟨hi2, h⟩ := gA_e h
        refine wx_iald hx hb hK hP 2 0 rfl rfl (Int32.toNatClampNeg x2) rfl hi2 dX6_massOnPan_18 ?_
        refine lv_aload_n hx hb dX6_massOnPan_19 rfl (lv_at hl 0 rfl) ?_
        refine va_get (D := D) (ci := 6) (v := .ref a_h_masses) (C := RX6) (T := TX6) (N := 6) hx hb hts in_X6_massOnPan_X6 hown hK hP 0 rfl rfl 0 (by decide) (hts _ q_X6_massOnPan_3) (fun _ h9 => h9) rfl dX6_massOnPan_20 ?_
        refine lv_iload_n hx hb dX6_massOnPan_23 rfl (lv_at hl 2 rfl) ?_
        obtain ⟨hi3, h⟩ := gA_e h
        refine wx_iald hx hb hK hP 1 0 rfl rfl (Int32.toNatClampNeg x2) rfl hi3 dX6_massOnPan_24 ?_
        refine lv_imul hx hb dX6_massOnPan_25 ?_
        refine lv_iadd hx hb dX6_massOnPan_26 ?_
        refine lv_topi (fun t4 et4 => ?_)
        replace h := nm_at h et4
        refine lv_istore_n (lv' := [(1, .int t4), (0, .ref a_h), (2, .int x2)]) hx hb dX6_massOnPan_27 rfl hl (by decide) rfl (fun ls hl => ?_)
        obtain ⟨t5, et5, h⟩ := nm_x h
        refine lv_iinc (v := t5) (lv' := [(2, .int t5), (1, .int t4), (0, .ref a_h)]) hx hb dX6_massOnPan_28 hl (k := 2) rfl (by rw [et5]; rfl) (by decide) rfl (fun ls hl => ?_)
        refine lv_goto (tgt := 4) hx hb dX6_massOnPan_31 (by decide) ?_
        exact ih t4 t5 _ _ _ h hP hD hS (lv_sub hl [2, 1, 0] rfl)
  refine lv_iconst (v := (0 : Int32)) hx hb dX6_massOnPan_0 (by decide) ?_
  refine lv_istore_n (lv' := [(1, .int (0 : Int32)), (0, .ref a_h)]) hx hb dX6_massOnPan_1 rfl hl (by decide) rfl (fun ls hl => ?_)
  refine lv_iconst (v := (0 : Int32)) hx hb dX6_massOnPan_2 (by decide) ?_
  refine lv_istore_n (lv' := [(2, .int (0 : Int32)), (1, .int (0 : Int32)), (0, .ref a_h)]) hx hb dX6_massOnPan_3 rfl hl (by decide) rfl (fun ls hl => ?_)
  exact B4 N (0 : Int32) (0 : Int32) _ _ _ h hP hD hS (lv_sub hl [2, 1, 0] rfl)
-- X6_isParent
def f_X6_isParent_b2 (v_size : Int32) (v_parents_A : Nat → Int32) (p0 : Int32) : Nat → Int32 → Option (Int32)
  | 0, _ => none
  | k + 1, x2 =>
    (if v_size ≤ x2 then some (0 : Int32)
    else gA x2 8 ((if ¬ (v_parents_A (Int32.toNatClampNeg x2)) = p0 then nm (x2 + (1 : Int32)) (fun t4 => (f_X6_isParent_b2 v_size v_parents_A p0 k t4))
    else some (1 : Int32))))
def f_X6_isParent (N : Nat) (v_size : Int32) (v_parents_A : Nat → Int32) (p0 : Int32) : Option (Int32) :=
  (f_X6_isParent_b2 v_size v_parents_A p0 N (0 : Int32))
theorem q_X6_isParent_1 : (.fieldLink RX6 27 "SpringBalance$Weights" "size" "I" : Cond) ∈ wsX6_isParent := List.mem_of_getElem? (i := 1) (by decide +kernel)
set_option maxRecDepth 20000 in
theorem in_X6_isParent_X6 : ∀ w ∈ u_ws RX6 TX6 6, w ∈ wsX6_isParent := by decide +kernel
theorem q_X6_isParent_2 : (.fieldLink RX6 21 "SpringBalance$Weights" "parents" "[I" : Cond) ∈ wsX6_isParent := List.mem_of_getElem? (i := 2) (by decide +kernel)
set_option maxHeartbeats 8000000 in
set_option maxRecDepth 100000 in
theorem k_X6_isParent (l : Launch) (D : va_G) (cI cC cJ cB : ClassId) (a_h a_h_masses a_h_errors a_h_variances a_h_parents a_h_onPan : Nat) (v_size : Int32) (v_parents_A : Nat → Int32) (N : Nat) (p0 : Int32) (sz : Nat) (u : Int32) (hu : f_X6_isParent N v_size v_parents_A p0 = some u) :
    Met l yX6_isParent wsX6_isParent ({ frames := 0, cells := 0, slots := 0, locals := 0 } : Room) (va_Pc [.ref a_h, .int p0] (PreW D (ty4 cI cC cJ cB) sz [(a_h, .inr (6, [.ref a_h_masses, .ref a_h_errors, .ref a_h_variances, .ref a_h_parents, .ref a_h_onPan, .int v_size])), (a_h_parents, .inl (cI, 8, .inl v_parents_A))]))
      (QI D (ty4 cI cC cJ cB) (va_A [(a_h, .inr (6, [.ref a_h_masses, .ref a_h_errors, .ref a_h_variances, .ref a_h_parents, .ref a_h_onPan, .int v_size])), (a_h_parents, .inl (cI, 8, .inl v_parents_A))] sz) [(a_h, .inr (6, [.ref a_h_masses, .ref a_h_errors, .ref a_h_variances, .ref a_h_parents, .ref a_h_onPan, .int v_size])), (a_h_parents, .inl (cI, 8, .inl v_parents_A))] u) 0 0 (va_A [(a_h, .inr (6, [.ref a_h_masses, .ref a_h_errors, .ref a_h_variances, .ref a_h_parents, .ref a_h_onPan, .int v_size])), (a_h_parents, .inl (cI, 8, .inl v_parents_A))] sz) := by
  refine met_go (y := yX6_isParent) (wsy := wsX6_isParent) (cc := cX6_isParent) (maxL := 3) (ret := (some .boolean)) (av := [.ref a_h, .int p0]) (Qc := fun A => QI D (ty4 cI cC cJ cB) A [(a_h, .inr (6, [.ref a_h_masses, .ref a_h_errors, .ref a_h_variances, .ref a_h_parents, .ref a_h_onPan, .int v_size])), (a_h_parents, .inl (cI, 8, .inl v_parents_A))] u) (by decide) rfl (Nat.le_of_ble_eq_true rfl) ?_
  intro p e s m below meth c A ls hx hb hr hml hown hts hlocks hnm hN hK hP hD hS hA hl
  have h := hu
  clear hu
  unfold f_X6_isParent at h
  have hl : lv_has ls 3 [(0, .ref a_h), (1, .int p0)] := hl
  have B2 : ∀ (k : Nat) (x2 : Int32) (H : Heap) (locs : List Loc) (ls : Array Slot), f_X6_isParent_b2 v_size v_parents_A p0 k x2 = some u → va_P D vwCl [(a_h, .inr (6, [.ref a_h_masses, .ref a_h_errors, .ref a_h_variances, .ref a_h_parents, .ref a_h_onPan, .int v_size])), (a_h_parents, .inl (cI, 8, .inl v_parents_A))] H → va_D A [(a_h, .inr (6, [.ref a_h_masses, .ref a_h_errors, .ref a_h_variances, .ref a_h_parents, .ref a_h_onPan, .int v_size])), (a_h_parents, .inl (cI, 8, .inl v_parents_A))] → va_S A s.heap H locs → lv_has ls 3 [(0, .ref a_h), (1, .int p0), (2, .int x2)] → W p l e ({ frames := 0, cells := 0, slots := 0, locals := 0 } : Room) s m ([.ref a_h, .int p0] : List Value).toArray below meth c H locs 0 0 (MQ below (QI D (ty4 cI cC cJ cB) A [(a_h, .inr (6, [.ref a_h_masses, .ref a_h_errors, .ref a_h_variances, .ref a_h_parents, .ref a_h_onPan, .int v_size])), (a_h_parents, .inl (cI, 8, .inl v_parents_A))] u) ([.ref a_h, .int p0] : List Value).toArray s 0 0 A) (F0 m 2 ls []) := by
    intro k
    induction k with
    | zero =>
      intro x2 H locs ls h
      exact nomatch (show (none : Option (Int32)) = some u from h)
    | succ k ih =>
      intro x2 H locs ls h hP hD hS hl
      rw [f_X6_isParent_b2.eq_2] at h
      refine lv_iload_n hx hb dX6_isParent_2 rfl (lv_at hl 2 rfl) ?_
      refine lv_aload_n hx hb dX6_isParent_3 rfl (lv_at hl 0 rfl) ?_
      refine va_get (D := D) (ci := 6) (v := .int v_size) (C := RX6) (T := TX6) (N := 6) hx hb hts in_X6_isParent_X6 hown hK hP 0 rfl rfl 5 (by decide) (hts _ q_X6_isParent_1) (fun _ h9 => h9) rfl dX6_isParent_4 ?_
      refine lv_icmp_ge (tgt := 28) hx hb dX6_isParent_7 (by decide) (fun hc1 => ?_) (fun hc1 => ?_)
      · replace h := it_e hc1 h
        refine lv_iconst (v := (0 : Int32)) hx hb dX6_isParent_28 (by decide) ?_
        obtain rfl := sm_e h
        exact rx_z hx hb hr rfl hP hK hD hS dX6_isParent_29 hlocks
      · replace h := if_e hc1 h
        refine lv_aload_n hx hb dX6_isParent_10 rfl (lv_at hl 0 rfl) ?_
        refine va_get (D := D) (ci := 6) (v := .ref a_h_parents) (C := RX6) (T := TX6) (N := 6) hx hb hts in_X6_isParent_X6 hown hK hP 0 rfl rfl 3 (by decide) (hts _ q_X6_isParent_2) (fun _ h9 => h9) rfl dX6_isParent_11 ?_
        refine lv_iload_n hx hb dX6_isParent_14 rfl (lv_at hl 2 rfl) ?_
        obtain ⟨hi2, h⟩ := gA_e h
        refine wx_iald hx hb hK hP 1 0 rfl rfl (Int32.toNatClampNeg x2) rfl hi2 dX6_isParent_15 ?_
        refine lv_iload_n hx hb dX6_isParent_16 rfl (lv_at hl 1 rfl) ?_
        refine lv_icmp_ne (tgt := 22) hx hb dX6_isParent_17 (by decide) (fun hc3 => ?_) (fun hc3 => ?_)
        · replace h := it_e hc3 h
          obtain ⟨t4, et4, h⟩ := nm_x h
          refine lv_iinc (v := t4) (lv' := [(2, .int t4), (0, .ref a_h), (1, .int p0)]) hx hb dX6_isParent_22 hl (k := 2) rfl (by rw [et4]; rfl) (by decide) rfl (fun ls hl => ?_)
          refine lv_goto (tgt := 2) hx hb dX6_isParent_25 (by decide) ?_
          exact ih t4 _ _ _ h hP hD hS (lv_sub hl [1, 2, 0] rfl)
        · replace h := in_e hc3 h
          refine lv_iconst (v := (1 : Int32)) hx hb dX6_isParent_20 (by decide) ?_
          obtain rfl := sm_e h
          exact rx_z hx hb hr rfl hP hK hD hS dX6_isParent_21 hlocks
  refine lv_iconst (v := (0 : Int32)) hx hb dX6_isParent_0 (by decide) ?_
  refine lv_istore_n (lv' := [(2, .int (0 : Int32)), (0, .ref a_h), (1, .int p0)]) hx hb dX6_isParent_1 rfl hl (by decide) rfl (fun ls hl => ?_)
  exact B2 N (0 : Int32) _ _ _ h hP hD hS (lv_sub hl [1, 2, 0] rfl)
-- X6_sumToStandard
def f_X6_sumToStandard_b8 (n_r0 : Nat) (v_size : Int32) (v_parents_A : Nat → Int32) (v_r0_A : Nat → Int32) : Nat → Int32 → Int32 → Int32 → Option (Int32)
  | 0, _, _, _ => none
  | k + 1, x3, x4, x5 =>
    (if (8 : Int32) ≤ x5 then some x3
    else Option.bind (f_X6_has v_size x4) (fun u2 => (if u2 = 0 then some x3
    else (if (Int32.ofNat n_r0) ≤ x4 then some x3
    else gA x4 n_r0 (nm (x3 + (v_r0_A (Int32.toNatClampNeg x4))) (fun t6 => gA x4 8 (nm (v_parents_A (Int32.toNatClampNeg x4)) (fun t8 => nm (x5 + (1 : Int32)) (fun t9 => (f_X6_sumToStandard_b8 n_r0 v_size v_parents_A v_r0_A k t6 t8 t9))))))))))
def f_X6_sumToStandard (N : Nat) (n_r0 : Nat) (v_size : Int32) (v_parents_A : Nat → Int32) (v_r0_A : Nat → Int32) (p1 : Int32) : Option (Int32) :=
  (f_X6_sumToStandard_b8 n_r0 v_size v_parents_A v_r0_A N (0 : Int32) p1 (0 : Int32))
theorem q_X6_sumToStandard_1 : (.fieldLink RX6 21 "SpringBalance$Weights" "parents" "[I" : Cond) ∈ wsX6_sumToStandard := List.mem_of_getElem? (i := 1) (by decide +kernel)
set_option maxRecDepth 20000 in
theorem in_X6_sumToStandard_X6 : ∀ w ∈ u_ws RX6 TX6 6, w ∈ wsX6_sumToStandard := by decide +kernel
set_option maxHeartbeats 8000000 in
set_option maxRecDepth 100000 in
theorem k_X6_sumToStandard (l : Launch) (D : va_G) (cI cC cJ cB : ClassId) (a_h a_h_masses a_h_errors a_h_variances a_h_parents a_h_onPan a_r0 : Nat) (n_r0 : Nat) (v_size : Int32) (v_parents_A : Nat → Int32) (v_r0_A : Nat → Int32) (N : Nat) (p1 : Int32) (sz : Nat) (u : Int32) (hu : f_X6_sumToStandard N n_r0 v_size v_parents_A v_r0_A p1 = some u) :
    Met l yX6_sumToStandard wsX6_sumToStandard ({ frames := 1, cells := 0, slots := 0, locals := 21 } : Room) (va_Pc [.ref a_h, .ref a_r0, .int p1] (PreW D (ty4 cI cC cJ cB) sz [(a_h, .inr (6, [.ref a_h_masses, .ref a_h_errors, .ref a_h_variances, .ref a_h_parents, .ref a_h_onPan, .int v_size])), (a_h_parents, .inl (cI, 8, .inl v_parents_A)), (a_r0, .inl (cI, n_r0, .inl v_r0_A))]))
      (QI D (ty4 cI cC cJ cB) (va_A [(a_h, .inr (6, [.ref a_h_masses, .ref a_h_errors, .ref a_h_variances, .ref a_h_parents, .ref a_h_onPan, .int v_size])), (a_h_parents, .inl (cI, 8, .inl v_parents_A)), (a_r0, .inl (cI, n_r0, .inl v_r0_A))] sz) [(a_h, .inr (6, [.ref a_h_masses, .ref a_h_errors, .ref a_h_variances, .ref a_h_parents, .ref a_h_onPan, .int v_size])), (a_h_parents, .inl (cI, 8, .inl v_parents_A)), (a_r0, .inl (cI, n_r0, .inl v_r0_A))] u) 0 0 (va_A [(a_h, .inr (6, [.ref a_h_masses, .ref a_h_errors, .ref a_h_variances, .ref a_h_parents, .ref a_h_onPan, .int v_size])), (a_h_parents, .inl (cI, 8, .inl v_parents_A)), (a_r0, .inl (cI, n_r0, .inl v_r0_A))] sz) := by
  refine met_go (y := yX6_sumToStandard) (wsy := wsX6_sumToStandard) (cc := cX6_sumToStandard) (maxL := 6) (ret := (some .int)) (av := [.ref a_h, .ref a_r0, .int p1]) (Qc := fun A => QI D (ty4 cI cC cJ cB) A [(a_h, .inr (6, [.ref a_h_masses, .ref a_h_errors, .ref a_h_variances, .ref a_h_parents, .ref a_h_onPan, .int v_size])), (a_h_parents, .inl (cI, 8, .inl v_parents_A)), (a_r0, .inl (cI, n_r0, .inl v_r0_A))] u) (by decide) rfl (Nat.le_of_ble_eq_true rfl) ?_
  intro p e s m below meth c A ls hx hb hr hml hown hts hlocks hnm hN hK hP hD hS hA hl
  have h := hu
  clear hu
  unfold f_X6_sumToStandard at h
  have hl : lv_has ls 6 [(0, .ref a_h), (1, .ref a_r0), (2, .int p1)] := hl
  have B8 : ∀ (k : Nat) (x3 : Int32) (x4 : Int32) (x5 : Int32) (H : Heap) (locs : List Loc) (ls : Array Slot), f_X6_sumToStandard_b8 n_r0 v_size v_parents_A v_r0_A k x3 x4 x5 = some u → va_P D vwCl [(a_h, .inr (6, [.ref a_h_masses, .ref a_h_errors, .ref a_h_variances, .ref a_h_parents, .ref a_h_onPan, .int v_size])), (a_h_parents, .inl (cI, 8, .inl v_parents_A)), (a_r0, .inl (cI, n_r0, .inl v_r0_A))] H → va_D A [(a_h, .inr (6, [.ref a_h_masses, .ref a_h_errors, .ref a_h_variances, .ref a_h_parents, .ref a_h_onPan, .int v_size])), (a_h_parents, .inl (cI, 8, .inl v_parents_A)), (a_r0, .inl (cI, n_r0, .inl v_r0_A))] → va_S A s.heap H locs → lv_has ls 6 [(0, .ref a_h), (1, .ref a_r0), (2, .int p1), (3, .int x3), (4, .int x4), (5, .int x5)] → W p l e ({ frames := 1, cells := 0, slots := 0, locals := 21 } : Room) s m ([.ref a_h, .ref a_r0, .int p1] : List Value).toArray below meth c H locs 0 0 (MQ below (QI D (ty4 cI cC cJ cB) A [(a_h, .inr (6, [.ref a_h_masses, .ref a_h_errors, .ref a_h_variances, .ref a_h_parents, .ref a_h_onPan, .int v_size])), (a_h_parents, .inl (cI, 8, .inl v_parents_A)), (a_r0, .inl (cI, n_r0, .inl v_r0_A))] u) ([.ref a_h, .ref a_r0, .int p1] : List Value).toArray s 0 0 A) (F0 m 8 ls []) := by
    intro k
    induction k with
    | zero =>
      intro x3 x4 x5 H locs ls h
      exact nomatch (show (none : Option (Int32)) = some u from h)
    | succ k ih =>
      intro x3 x4 x5 H locs ls h hP hD hS hl
      rw [f_X6_sumToStandard_b8.eq_2] at h
      refine lv_iload hx hb dX6_sumToStandard_8 (lv_at hl 5 rfl) ?_
      refine lv_bipush (v := (8 : Int32)) hx hb dX6_sumToStandard_10 (by decide) ?_
      refine lv_icmp_ge (tgt := 53) hx hb dX6_sumToStandard_12 (by decide) (fun hc1 => ?_) (fun hc1 => ?_)
      · replace h := it_e hc1 h
        refine lv_iload_n hx hb dX6_sumToStandard_53 rfl (lv_at hl 3 rfl) ?_
        obtain rfl := sm_e h
        exact rx_i hx hb hr  hP hK hD hS dX6_sumToStandard_54 hlocks
      · replace h := if_e hc1 h
        refine lv_aload_n hx hb dX6_sumToStandard_15 rfl (lv_at hl 0 rfl) ?_
        refine lv_iload hx hb dX6_sumToStandard_16 (lv_at hl 4 rfl) ?_
        obtain ⟨u2, hu2, h⟩ := bd_e h
        refine kx_i (mc := 0) (ms := 0) (wr := [(a_h_parents, .inl (cI, 8, .inl v_parents_A)), (a_r0, .inl (cI, n_r0, .inl v_r0_A))]) (ws2 := [(a_h, .inr (6, [.ref a_h_masses, .ref a_h_errors, .ref a_h_variances, .ref a_h_parents, .ref a_h_onPan, .int v_size])), (a_h_parents, .inl (cI, 8, .inl v_parents_A)), (a_r0, .inl (cI, n_r0, .inl v_r0_A))]) (va_runV (As := [.int x4]) (rest := []) ⟨hx, hb, hml, hown, hts⟩ (k_X6_has l D cI cC cJ cB a_h a_h_masses a_h_errors a_h_variances a_h_parents a_h_onPan v_size N x4 H.size _ hu2) (cwV 1 hts gX6_sumToStandard_X6_has rfl rfl rfl (by decide +kernel) ⟨Nat.le_of_ble_eq_true rfl, Nat.le_of_ble_eq_true rfl⟩) (pv_V hP hD hK hN [0] rfl rfl (ci := 6) rfl 0 rfl) rfl rfl hl.1 rfl (lv_room (Nat.le_of_ble_eq_true rfl)) dX6_sumToStandard_18 ⟨Nat.zero_le _, Nat.zero_le _⟩) hP hD hS hA [0] [1, 2] [2, 0, 1] rfl rfl rfl rfl rfl rfl (fun H locs hP hD hS => ?_)
        refine lv_if_eq (tgt := 53) hx hb dX6_sumToStandard_21 (by decide) (fun hc3 => ?_) (fun hc3 => ?_)
        · replace h := it_e hc3 h
          refine lv_iload_n hx hb dX6_sumToStandard_53 rfl (lv_at hl 3 rfl) ?_
          obtain rfl := sm_e h
          exact rx_i hx hb hr  hP hK hD hS dX6_sumToStandard_54 hlocks
        · replace h := if_e hc3 h
          refine lv_iload hx hb dX6_sumToStandard_24 (lv_at hl 4 rfl) ?_
          refine lv_aload_n hx hb dX6_sumToStandard_26 rfl (lv_at hl 1 rfl) ?_
          refine va_alen (ty := .int) (v := (Int32.ofNat n_r0)) hx hb hK hP 2 0 rfl rfl rfl dX6_sumToStandard_27 ?_
          refine lv_icmp_ge (tgt := 53) hx hb dX6_sumToStandard_28 (by decide) (fun hc4 => ?_) (fun hc4 => ?_)
          · replace h := it_e hc4 h
            refine lv_iload_n hx hb dX6_sumToStandard_53 rfl (lv_at hl 3 rfl) ?_
            obtain rfl := sm_e h
            exact rx_i hx hb hr  hP hK hD hS dX6_sumToStandard_54 hlocks
          · replace h := if_e hc4 h
            refine lv_iload_n hx hb dX6_sumToStandard_31 rfl (lv_at hl 3 rfl) ?_
            refine lv_aload_n hx hb dX6_sumToStandard_32 rfl (lv_at hl 1 rfl) ?_
            refine lv_iload hx hb dX6_sumToStandard_33 (lv_at hl 4 rfl) ?_
            obtain ⟨hi5, h⟩ := gA_e h
            refine wx_iald hx hb hK hP 2 0 rfl rfl (Int32.toNatClampNeg x4) rfl hi5 dX6_sumToStandard_35 ?_
            refine lv_iadd hx hb dX6_sumToStandard_36 ?_
            refine lv_topi (fun t6 et6 => ?_)
            replace h := nm_at h et6
            refine lv_istore_n (lv' := [(3, .int t6), (0, .ref a_h), (1, .ref a_r0), (2, .int p1), (4, .int x4), (5, .int x5)]) hx hb dX6_sumToStandard_37 rfl hl (by decide) rfl (fun ls hl => ?_)
            refine lv_aload_n hx hb dX6_sumToStandard_38 rfl (lv_at hl 1 rfl) ?_
            refine va_get (D := D) (ci := 6) (v := .ref a_h_parents) (C := RX6) (T := TX6) (N := 6) hx hb hts in_X6_sumToStandard_X6 hown hK hP 0 rfl rfl 3 (by decide) (hts _ q_X6_sumToStandard_1) (fun _ h9 => h9) rfl dX6_sumToStandard_39 ?_
            refine lv_iload hx hb dX6_sumToStandard_42 (lv_at hl 4 rfl) ?_
            obtain ⟨hi7, h⟩ := gA_e h
            refine wx_iald hx hb hK hP 1 0 rfl rfl (Int32.toNatClampNeg x4) rfl hi7 dX6_sumToStandard_44 ?_
            refine lv_topi (fun t8 et8 => ?_)
            replace h := nm_at h et8
            refine lv_istore (lv' := [(4, .int t8), (3, .int t6), (0, .ref a_h), (1, .ref a_r0), (2, .int p1), (5, .int x5)]) hx hb dX6_sumToStandard_45 hl (by decide) rfl (fun ls hl => ?_)
            obtain ⟨t9, et9, h⟩ := nm_x h
            refine lv_iinc (v := t9) (lv' := [(5, .int t9), (4, .int t8), (3, .int t6), (0, .ref a_h), (1, .ref a_r0), (2, .int p1)]) hx hb dX6_sumToStandard_47 hl (k := 5) rfl (by rw [et9]; rfl) (by decide) rfl (fun ls hl => ?_)
            refine lv_goto (tgt := 8) hx hb dX6_sumToStandard_50 (by decide) ?_
            exact ih t6 t8 t9 _ _ _ h hP hD hS (lv_sub hl [3, 4, 5, 2, 1, 0] rfl)
  refine lv_iconst (v := (0 : Int32)) hx hb dX6_sumToStandard_0 (by decide) ?_
  refine lv_istore_n (lv' := [(3, .int (0 : Int32)), (0, .ref a_h), (1, .ref a_r0), (2, .int p1)]) hx hb dX6_sumToStandard_1 rfl hl (by decide) rfl (fun ls hl => ?_)
  refine lv_iload_n hx hb dX6_sumToStandard_2 rfl (lv_at hl 3 rfl) ?_
  refine lv_istore (lv' := [(4, .int p1), (3, .int (0 : Int32)), (0, .ref a_h), (1, .ref a_r0), (2, .int p1)]) hx hb dX6_sumToStandard_3 hl (by decide) rfl (fun ls hl => ?_)
  refine lv_iconst (v := (0 : Int32)) hx hb dX6_sumToStandard_5 (by decide) ?_
  refine lv_istore (lv' := [(5, .int (0 : Int32)), (4, .int p1), (3, .int (0 : Int32)), (0, .ref a_h), (1, .ref a_r0), (2, .int p1)]) hx hb dX6_sumToStandard_6 hl (by decide) rfl (fun ls hl => ?_)
  exact B8 N (0 : Int32) p1 (0 : Int32) _ _ _ h hP hD hS (lv_sub hl [3, 4, 5, 2, 1, 0] rfl)
-- X6_totalVariance
def f_X6_totalVariance (N : Nat) (v_size : Int32) (v_variances_A : Nat → Int32) (v_parents_A : Nat → Int32) (p0 : Int32) : Option (Int32) :=
  Option.bind (f_X6_sumToStandard N 8 v_size v_parents_A v_variances_A p0) (fun u1 => some u1)
theorem q_X6_totalVariance_1 : (.fieldLink RX6 18 "SpringBalance$Weights" "variances" "[I" : Cond) ∈ wsX6_totalVariance := List.mem_of_getElem? (i := 1) (by decide +kernel)
set_option maxRecDepth 20000 in
theorem in_X6_totalVariance_X6 : ∀ w ∈ u_ws RX6 TX6 6, w ∈ wsX6_totalVariance := by decide +kernel
set_option maxHeartbeats 8000000 in
set_option maxRecDepth 100000 in
theorem k_X6_totalVariance (l : Launch) (D : va_G) (cI cC cJ cB : ClassId) (a_h a_h_masses a_h_errors a_h_variances a_h_parents a_h_onPan : Nat) (v_size : Int32) (v_variances_A : Nat → Int32) (v_parents_A : Nat → Int32) (N : Nat) (p0 : Int32) (sz : Nat) (u : Int32) (hu : f_X6_totalVariance N v_size v_variances_A v_parents_A p0 = some u) :
    Met l yX6_totalVariance wsX6_totalVariance ({ frames := 2, cells := 0, slots := 0, locals := 46 } : Room) (va_Pc [.ref a_h, .int p0] (PreW D (ty4 cI cC cJ cB) sz [(a_h, .inr (6, [.ref a_h_masses, .ref a_h_errors, .ref a_h_variances, .ref a_h_parents, .ref a_h_onPan, .int v_size])), (a_h_variances, .inl (cI, 8, .inl v_variances_A)), (a_h_parents, .inl (cI, 8, .inl v_parents_A))]))
      (QI D (ty4 cI cC cJ cB) (va_A [(a_h, .inr (6, [.ref a_h_masses, .ref a_h_errors, .ref a_h_variances, .ref a_h_parents, .ref a_h_onPan, .int v_size])), (a_h_variances, .inl (cI, 8, .inl v_variances_A)), (a_h_parents, .inl (cI, 8, .inl v_parents_A))] sz) [(a_h, .inr (6, [.ref a_h_masses, .ref a_h_errors, .ref a_h_variances, .ref a_h_parents, .ref a_h_onPan, .int v_size])), (a_h_variances, .inl (cI, 8, .inl v_variances_A)), (a_h_parents, .inl (cI, 8, .inl v_parents_A))] u) 0 0 (va_A [(a_h, .inr (6, [.ref a_h_masses, .ref a_h_errors, .ref a_h_variances, .ref a_h_parents, .ref a_h_onPan, .int v_size])), (a_h_variances, .inl (cI, 8, .inl v_variances_A)), (a_h_parents, .inl (cI, 8, .inl v_parents_A))] sz) := by
  refine met_go (y := yX6_totalVariance) (wsy := wsX6_totalVariance) (cc := cX6_totalVariance) (maxL := 2) (ret := (some .int)) (av := [.ref a_h, .int p0]) (Qc := fun A => QI D (ty4 cI cC cJ cB) A [(a_h, .inr (6, [.ref a_h_masses, .ref a_h_errors, .ref a_h_variances, .ref a_h_parents, .ref a_h_onPan, .int v_size])), (a_h_variances, .inl (cI, 8, .inl v_variances_A)), (a_h_parents, .inl (cI, 8, .inl v_parents_A))] u) (by decide) rfl (Nat.le_of_ble_eq_true rfl) ?_
  intro p e s m below meth c A ls hx hb hr hml hown hts hlocks hnm hN hK hP hD hS hA hl
  have h := hu
  clear hu
  unfold f_X6_totalVariance at h
  have hl : lv_has ls 2 [(0, .ref a_h), (1, .int p0)] := hl
  refine lv_aload_n hx hb dX6_totalVariance_0 rfl (lv_at hl 0 rfl) ?_
  refine lv_aload_n hx hb dX6_totalVariance_1 rfl (lv_at hl 0 rfl) ?_
  refine va_get (D := D) (ci := 6) (v := .ref a_h_variances) (C := RX6) (T := TX6) (N := 6) hx hb hts in_X6_totalVariance_X6 hown hK hP 0 rfl rfl 2 (by decide) (hts _ q_X6_totalVariance_1) (fun _ h9 => h9) rfl dX6_totalVariance_2 ?_
  refine lv_iload_n hx hb dX6_totalVariance_5 rfl (lv_at hl 1 rfl) ?_
  obtain ⟨u1, hu1, h⟩ := bd_e h
  refine kx_i (mc := 0) (ms := 0) (wr := []) (ws2 := [(a_h, .inr (6, [.ref a_h_masses, .ref a_h_errors, .ref a_h_variances, .ref a_h_parents, .ref a_h_onPan, .int v_size])), (a_h_variances, .inl (cI, 8, .inl v_variances_A)), (a_h_parents, .inl (cI, 8, .inl v_parents_A))]) (va_runV (As := [.ref a_h_variances, .int p0]) (rest := []) ⟨hx, hb, hml, hown, hts⟩ (k_X6_sumToStandard l D cI cC cJ cB a_h a_h_masses a_h_errors a_h_variances a_h_parents a_h_onPan a_h_variances 8 v_size v_parents_A v_variances_A N p0 s.heap.size _ hu1) (cwV 2 hts gX6_totalVariance_X6_sumToStandard rfl rfl rfl (by decide +kernel) ⟨Nat.le_of_ble_eq_true rfl, Nat.le_of_ble_eq_true rfl⟩) (pv_V hP hD hK hN [0, 2, 1] rfl rfl (ci := 6) rfl 0 rfl) rfl rfl hl.1 rfl (lv_room (Nat.le_of_ble_eq_true rfl)) dX6_totalVariance_6 ⟨Nat.zero_le _, Nat.zero_le _⟩) hP hD hS hA [0, 2, 1] [] [0, 2, 1] rfl rfl rfl rfl rfl rfl (fun H locs hP hD hS => ?_)
  obtain rfl := sm_e h
  exact rx_i hx hb hr  hP hK hD hS dX6_totalVariance_9 hlocks
-- X6_depth
def f_X6_depth_b7 (v_size : Int32) (v_parents_A : Nat → Int32) : Nat → Int32 → Int32 → Int32 → Option (Int32)
  | 0, _, _, _ => none
  | k + 1, x2, x3, x4 =>
    (if (8 : Int32) ≤ x4 then some x2
    else Option.bind (f_X6_has v_size x3) (fun u2 => (if u2 = 0 then some x2
    else nm (x2 + (1 : Int32)) (fun t4 => gA x3 8 (nm (v_parents_A (Int32.toNatClampNeg x3)) (fun t6 => nm (x4 + (1 : Int32)) (fun t7 => (f_X6_depth_b7 v_size v_parents_A k t4 t6 t7))))))))
def f_X6_depth (N : Nat) (v_size : Int32) (v_parents_A : Nat → Int32) (p0 : Int32) : Option (Int32) :=
  (f_X6_depth_b7 v_size v_parents_A N (0 : Int32) p0 (0 : Int32))
theorem q_X6_depth_1 : (.fieldLink RX6 21 "SpringBalance$Weights" "parents" "[I" : Cond) ∈ wsX6_depth := List.mem_of_getElem? (i := 1) (by decide +kernel)
set_option maxRecDepth 20000 in
theorem in_X6_depth_X6 : ∀ w ∈ u_ws RX6 TX6 6, w ∈ wsX6_depth := by decide +kernel
set_option maxHeartbeats 8000000 in
set_option maxRecDepth 100000 in
theorem k_X6_depth (l : Launch) (D : va_G) (cI cC cJ cB : ClassId) (a_h a_h_masses a_h_errors a_h_variances a_h_parents a_h_onPan : Nat) (v_size : Int32) (v_parents_A : Nat → Int32) (N : Nat) (p0 : Int32) (sz : Nat) (u : Int32) (hu : f_X6_depth N v_size v_parents_A p0 = some u) :
    Met l yX6_depth wsX6_depth ({ frames := 1, cells := 0, slots := 0, locals := 21 } : Room) (va_Pc [.ref a_h, .int p0] (PreW D (ty4 cI cC cJ cB) sz [(a_h, .inr (6, [.ref a_h_masses, .ref a_h_errors, .ref a_h_variances, .ref a_h_parents, .ref a_h_onPan, .int v_size])), (a_h_parents, .inl (cI, 8, .inl v_parents_A))]))
      (QI D (ty4 cI cC cJ cB) (va_A [(a_h, .inr (6, [.ref a_h_masses, .ref a_h_errors, .ref a_h_variances, .ref a_h_parents, .ref a_h_onPan, .int v_size])), (a_h_parents, .inl (cI, 8, .inl v_parents_A))] sz) [(a_h, .inr (6, [.ref a_h_masses, .ref a_h_errors, .ref a_h_variances, .ref a_h_parents, .ref a_h_onPan, .int v_size])), (a_h_parents, .inl (cI, 8, .inl v_parents_A))] u) 0 0 (va_A [(a_h, .inr (6, [.ref a_h_masses, .ref a_h_errors, .ref a_h_variances, .ref a_h_parents, .ref a_h_onPan, .int v_size])), (a_h_parents, .inl (cI, 8, .inl v_parents_A))] sz) := by
  refine met_go (y := yX6_depth) (wsy := wsX6_depth) (cc := cX6_depth) (maxL := 5) (ret := (some .int)) (av := [.ref a_h, .int p0]) (Qc := fun A => QI D (ty4 cI cC cJ cB) A [(a_h, .inr (6, [.ref a_h_masses, .ref a_h_errors, .ref a_h_variances, .ref a_h_parents, .ref a_h_onPan, .int v_size])), (a_h_parents, .inl (cI, 8, .inl v_parents_A))] u) (by decide) rfl (Nat.le_of_ble_eq_true rfl) ?_
  intro p e s m below meth c A ls hx hb hr hml hown hts hlocks hnm hN hK hP hD hS hA hl
  have h := hu
  clear hu
  unfold f_X6_depth at h
  have hl : lv_has ls 5 [(0, .ref a_h), (1, .int p0)] := hl
  have B7 : ∀ (k : Nat) (x2 : Int32) (x3 : Int32) (x4 : Int32) (H : Heap) (locs : List Loc) (ls : Array Slot), f_X6_depth_b7 v_size v_parents_A k x2 x3 x4 = some u → va_P D vwCl [(a_h, .inr (6, [.ref a_h_masses, .ref a_h_errors, .ref a_h_variances, .ref a_h_parents, .ref a_h_onPan, .int v_size])), (a_h_parents, .inl (cI, 8, .inl v_parents_A))] H → va_D A [(a_h, .inr (6, [.ref a_h_masses, .ref a_h_errors, .ref a_h_variances, .ref a_h_parents, .ref a_h_onPan, .int v_size])), (a_h_parents, .inl (cI, 8, .inl v_parents_A))] → va_S A s.heap H locs → lv_has ls 5 [(0, .ref a_h), (1, .int p0), (2, .int x2), (3, .int x3), (4, .int x4)] → W p l e ({ frames := 1, cells := 0, slots := 0, locals := 21 } : Room) s m ([.ref a_h, .int p0] : List Value).toArray below meth c H locs 0 0 (MQ below (QI D (ty4 cI cC cJ cB) A [(a_h, .inr (6, [.ref a_h_masses, .ref a_h_errors, .ref a_h_variances, .ref a_h_parents, .ref a_h_onPan, .int v_size])), (a_h_parents, .inl (cI, 8, .inl v_parents_A))] u) ([.ref a_h, .int p0] : List Value).toArray s 0 0 A) (F0 m 7 ls []) := by
    intro k
    induction k with
    | zero =>
      intro x2 x3 x4 H locs ls h
      exact nomatch (show (none : Option (Int32)) = some u from h)
    | succ k ih =>
      intro x2 x3 x4 H locs ls h hP hD hS hl
      rw [f_X6_depth_b7.eq_2] at h
      refine lv_iload hx hb dX6_depth_7 (lv_at hl 4 rfl) ?_
      refine lv_bipush (v := (8 : Int32)) hx hb dX6_depth_9 (by decide) ?_
      refine lv_icmp_ge (tgt := 38) hx hb dX6_depth_11 (by decide) (fun hc1 => ?_) (fun hc1 => ?_)
      · replace h := it_e hc1 h
        refine lv_iload_n hx hb dX6_depth_38 rfl (lv_at hl 2 rfl) ?_
        obtain rfl := sm_e h
        exact rx_i hx hb hr  hP hK hD hS dX6_depth_39 hlocks
      · replace h := if_e hc1 h
        refine lv_aload_n hx hb dX6_depth_14 rfl (lv_at hl 0 rfl) ?_
        refine lv_iload_n hx hb dX6_depth_15 rfl (lv_at hl 3 rfl) ?_
        obtain ⟨u2, hu2, h⟩ := bd_e h
        refine kx_i (mc := 0) (ms := 0) (wr := [(a_h_parents, .inl (cI, 8, .inl v_parents_A))]) (ws2 := [(a_h, .inr (6, [.ref a_h_masses, .ref a_h_errors, .ref a_h_variances, .ref a_h_parents, .ref a_h_onPan, .int v_size])), (a_h_parents, .inl (cI, 8, .inl v_parents_A))]) (va_runV (As := [.int x3]) (rest := []) ⟨hx, hb, hml, hown, hts⟩ (k_X6_has l D cI cC cJ cB a_h a_h_masses a_h_errors a_h_variances a_h_parents a_h_onPan v_size N x3 H.size _ hu2) (cwV 1 hts gX6_depth_X6_has rfl rfl rfl (by decide +kernel) ⟨Nat.le_of_ble_eq_true rfl, Nat.le_of_ble_eq_true rfl⟩) (pv_V hP hD hK hN [0] rfl rfl (ci := 6) rfl 0 rfl) rfl rfl hl.1 rfl (lv_room (Nat.le_of_ble_eq_true rfl)) dX6_depth_16 ⟨Nat.zero_le _, Nat.zero_le _⟩) hP hD hS hA [0] [1] [1, 0] rfl rfl rfl rfl rfl rfl (fun H locs hP hD hS => ?_)
        refine lv_if_eq (tgt := 38) hx hb dX6_depth_19 (by decide) (fun hc3 => ?_) (fun hc3 => ?_)
        · replace h := it_e hc3 h
          refine lv_iload_n hx hb dX6_depth_38 rfl (lv_at hl 2 rfl) ?_
          obtain rfl := sm_e h
          exact rx_i hx hb hr  hP hK hD hS dX6_depth_39 hlocks
        · replace h := if_e hc3 h
          obtain ⟨t4, et4, h⟩ := nm_x h
          refine lv_iinc (v := t4) (lv' := [(2, .int t4), (0, .ref a_h), (1, .int p0), (3, .int x3), (4, .int x4)]) hx hb dX6_depth_22 hl (k := 2) rfl (by rw [et4]; rfl) (by decide) rfl (fun ls hl => ?_)
          refine lv_aload_n hx hb dX6_depth_25 rfl (lv_at hl 1 rfl) ?_
          refine va_get (D := D) (ci := 6) (v := .ref a_h_parents) (C := RX6) (T := TX6) (N := 6) hx hb hts in_X6_depth_X6 hown hK hP 0 rfl rfl 3 (by decide) (hts _ q_X6_depth_1) (fun _ h9 => h9) rfl dX6_depth_26 ?_
          refine lv_iload_n hx hb dX6_depth_29 rfl (lv_at hl 3 rfl) ?_
          obtain ⟨hi5, h⟩ := gA_e h
          refine wx_iald hx hb hK hP 1 0 rfl rfl (Int32.toNatClampNeg x3) rfl hi5 dX6_depth_30 ?_
          refine lv_topi (fun t6 et6 => ?_)
          replace h := nm_at h et6
          refine lv_istore_n (lv' := [(3, .int t6), (2, .int t4), (0, .ref a_h), (1, .int p0), (4, .int x4)]) hx hb dX6_depth_31 rfl hl (by decide) rfl (fun ls hl => ?_)
          obtain ⟨t7, et7, h⟩ := nm_x h
          refine lv_iinc (v := t7) (lv' := [(4, .int t7), (3, .int t6), (2, .int t4), (0, .ref a_h), (1, .int p0)]) hx hb dX6_depth_32 hl (k := 4) rfl (by rw [et7]; rfl) (by decide) rfl (fun ls hl => ?_)
          refine lv_goto (tgt := 7) hx hb dX6_depth_35 (by decide) ?_
          exact ih t4 t6 t7 _ _ _ h hP hD hS (lv_sub hl [3, 4, 2, 1, 0] rfl)
  refine lv_iconst (v := (0 : Int32)) hx hb dX6_depth_0 (by decide) ?_
  refine lv_istore_n (lv' := [(2, .int (0 : Int32)), (0, .ref a_h), (1, .int p0)]) hx hb dX6_depth_1 rfl hl (by decide) rfl (fun ls hl => ?_)
  refine lv_iload_n hx hb dX6_depth_2 rfl (lv_at hl 2 rfl) ?_
  refine lv_istore_n (lv' := [(3, .int p0), (2, .int (0 : Int32)), (0, .ref a_h), (1, .int p0)]) hx hb dX6_depth_3 rfl hl (by decide) rfl (fun ls hl => ?_)
  refine lv_iconst (v := (0 : Int32)) hx hb dX6_depth_4 (by decide) ?_
  refine lv_istore (lv' := [(4, .int (0 : Int32)), (3, .int p0), (2, .int (0 : Int32)), (0, .ref a_h), (1, .int p0)]) hx hb dX6_depth_5 hl (by decide) rfl (fun ls hl => ?_)
  exact B7 N (0 : Int32) p0 (0 : Int32) _ _ _ h hP hD hS (lv_sub hl [3, 4, 2, 1, 0] rfl)
-- X6_isTracedTo
def f_X6_isTracedTo_b5 (v_size : Int32) (v_parents_A : Nat → Int32) (p1 : Int32) : Nat → Int32 → Int32 → Option (Int32)
  | 0, _, _ => none
  | k + 1, x3, x4 =>
    (if (8 : Int32) ≤ x4 then some (0 : Int32)
    else Option.bind (f_X6_has v_size x3) (fun u2 => (if u2 = 0 then some (0 : Int32)
    else (if ¬ x3 = p1 then gA x3 8 (nm (v_parents_A (Int32.toNatClampNeg x3)) (fun t6 => nm (x4 + (1 : Int32)) (fun t7 => (f_X6_isTracedTo_b5 v_size v_parents_A p1 k t6 t7))))
    else some (1 : Int32)))))
def f_X6_isTracedTo (N : Nat) (v_size : Int32) (v_parents_A : Nat → Int32) (p0 : Int32) (p1 : Int32) : Option (Int32) :=
  (f_X6_isTracedTo_b5 v_size v_parents_A p1 N p0 (0 : Int32))
theorem q_X6_isTracedTo_1 : (.fieldLink RX6 21 "SpringBalance$Weights" "parents" "[I" : Cond) ∈ wsX6_isTracedTo := List.mem_of_getElem? (i := 1) (by decide +kernel)
set_option maxRecDepth 20000 in
theorem in_X6_isTracedTo_X6 : ∀ w ∈ u_ws RX6 TX6 6, w ∈ wsX6_isTracedTo := by decide +kernel
set_option maxHeartbeats 8000000 in
set_option maxRecDepth 100000 in
theorem k_X6_isTracedTo (l : Launch) (D : va_G) (cI cC cJ cB : ClassId) (a_h a_h_masses a_h_errors a_h_variances a_h_parents a_h_onPan : Nat) (v_size : Int32) (v_parents_A : Nat → Int32) (N : Nat) (p0 : Int32) (p1 : Int32) (sz : Nat) (u : Int32) (hu : f_X6_isTracedTo N v_size v_parents_A p0 p1 = some u) :
    Met l yX6_isTracedTo wsX6_isTracedTo ({ frames := 1, cells := 0, slots := 0, locals := 21 } : Room) (va_Pc [.ref a_h, .int p0, .int p1] (PreW D (ty4 cI cC cJ cB) sz [(a_h, .inr (6, [.ref a_h_masses, .ref a_h_errors, .ref a_h_variances, .ref a_h_parents, .ref a_h_onPan, .int v_size])), (a_h_parents, .inl (cI, 8, .inl v_parents_A))]))
      (QI D (ty4 cI cC cJ cB) (va_A [(a_h, .inr (6, [.ref a_h_masses, .ref a_h_errors, .ref a_h_variances, .ref a_h_parents, .ref a_h_onPan, .int v_size])), (a_h_parents, .inl (cI, 8, .inl v_parents_A))] sz) [(a_h, .inr (6, [.ref a_h_masses, .ref a_h_errors, .ref a_h_variances, .ref a_h_parents, .ref a_h_onPan, .int v_size])), (a_h_parents, .inl (cI, 8, .inl v_parents_A))] u) 0 0 (va_A [(a_h, .inr (6, [.ref a_h_masses, .ref a_h_errors, .ref a_h_variances, .ref a_h_parents, .ref a_h_onPan, .int v_size])), (a_h_parents, .inl (cI, 8, .inl v_parents_A))] sz) := by
  refine met_go (y := yX6_isTracedTo) (wsy := wsX6_isTracedTo) (cc := cX6_isTracedTo) (maxL := 5) (ret := (some .boolean)) (av := [.ref a_h, .int p0, .int p1]) (Qc := fun A => QI D (ty4 cI cC cJ cB) A [(a_h, .inr (6, [.ref a_h_masses, .ref a_h_errors, .ref a_h_variances, .ref a_h_parents, .ref a_h_onPan, .int v_size])), (a_h_parents, .inl (cI, 8, .inl v_parents_A))] u) (by decide) rfl (Nat.le_of_ble_eq_true rfl) ?_
  intro p e s m below meth c A ls hx hb hr hml hown hts hlocks hnm hN hK hP hD hS hA hl
  have h := hu
  clear hu
  unfold f_X6_isTracedTo at h
  have hl : lv_has ls 5 [(0, .ref a_h), (1, .int p0), (2, .int p1)] := hl
  have B5 : ∀ (k : Nat) (x3 : Int32) (x4 : Int32) (H : Heap) (locs : List Loc) (ls : Array Slot), f_X6_isTracedTo_b5 v_size v_parents_A p1 k x3 x4 = some u → va_P D vwCl [(a_h, .inr (6, [.ref a_h_masses, .ref a_h_errors, .ref a_h_variances, .ref a_h_parents, .ref a_h_onPan, .int v_size])), (a_h_parents, .inl (cI, 8, .inl v_parents_A))] H → va_D A [(a_h, .inr (6, [.ref a_h_masses, .ref a_h_errors, .ref a_h_variances, .ref a_h_parents, .ref a_h_onPan, .int v_size])), (a_h_parents, .inl (cI, 8, .inl v_parents_A))] → va_S A s.heap H locs → lv_has ls 5 [(0, .ref a_h), (1, .int p0), (2, .int p1), (3, .int x3), (4, .int x4)] → W p l e ({ frames := 1, cells := 0, slots := 0, locals := 21 } : Room) s m ([.ref a_h, .int p0, .int p1] : List Value).toArray below meth c H locs 0 0 (MQ below (QI D (ty4 cI cC cJ cB) A [(a_h, .inr (6, [.ref a_h_masses, .ref a_h_errors, .ref a_h_variances, .ref a_h_parents, .ref a_h_onPan, .int v_size])), (a_h_parents, .inl (cI, 8, .inl v_parents_A))] u) ([.ref a_h, .int p0, .int p1] : List Value).toArray s 0 0 A) (F0 m 5 ls []) := by
    intro k
    induction k with
    | zero =>
      intro x3 x4 H locs ls h
      exact nomatch (show (none : Option (Int32)) = some u from h)
    | succ k ih =>
      intro x3 x4 H locs ls h hP hD hS hl
      rw [f_X6_isTracedTo_b5.eq_2] at h
      refine lv_iload hx hb dX6_isTracedTo_5 (lv_at hl 4 rfl) ?_
      refine lv_bipush (v := (8 : Int32)) hx hb dX6_isTracedTo_7 (by decide) ?_
      refine lv_icmp_ge (tgt := 40) hx hb dX6_isTracedTo_9 (by decide) (fun hc1 => ?_) (fun hc1 => ?_)
      · replace h := it_e hc1 h
        refine lv_iconst (v := (0 : Int32)) hx hb dX6_isTracedTo_40 (by decide) ?_
        obtain rfl := sm_e h
        exact rx_z hx hb hr rfl hP hK hD hS dX6_isTracedTo_41 hlocks
      · replace h := if_e hc1 h
        refine lv_aload_n hx hb dX6_isTracedTo_12 rfl (lv_at hl 0 rfl) ?_
        refine lv_iload_n hx hb dX6_isTracedTo_13 rfl (lv_at hl 3 rfl) ?_
        obtain ⟨u2, hu2, h⟩ := bd_e h
        refine kx_i (mc := 0) (ms := 0) (wr := [(a_h_parents, .inl (cI, 8, .inl v_parents_A))]) (ws2 := [(a_h, .inr (6, [.ref a_h_masses, .ref a_h_errors, .ref a_h_variances, .ref a_h_parents, .ref a_h_onPan, .int v_size])), (a_h_parents, .inl (cI, 8, .inl v_parents_A))]) (va_runV (As := [.int x3]) (rest := []) ⟨hx, hb, hml, hown, hts⟩ (k_X6_has l D cI cC cJ cB a_h a_h_masses a_h_errors a_h_variances a_h_parents a_h_onPan v_size N x3 H.size _ hu2) (cwV 1 hts gX6_isTracedTo_X6_has rfl rfl rfl (by decide +kernel) ⟨Nat.le_of_ble_eq_true rfl, Nat.le_of_ble_eq_true rfl⟩) (pv_V hP hD hK hN [0] rfl rfl (ci := 6) rfl 0 rfl) rfl rfl hl.1 rfl (lv_room (Nat.le_of_ble_eq_true rfl)) dX6_isTracedTo_14 ⟨Nat.zero_le _, Nat.zero_le _⟩) hP hD hS hA [0] [1] [1, 0] rfl rfl rfl rfl rfl rfl (fun H locs hP hD hS => ?_)
        refine lv_if_eq (tgt := 40) hx hb dX6_isTracedTo_17 (by decide) (fun hc3 => ?_) (fun hc3 => ?_)
        · replace h := it_e hc3 h
          refine lv_iconst (v := (0 : Int32)) hx hb dX6_isTracedTo_40 (by decide) ?_
          obtain rfl := sm_e h
          exact rx_z hx hb hr rfl hP hK hD hS dX6_isTracedTo_41 hlocks
        · replace h := if_e hc3 h
          refine lv_iload_n hx hb dX6_isTracedTo_20 rfl (lv_at hl 3 rfl) ?_
          refine lv_iload_n hx hb dX6_isTracedTo_21 rfl (lv_at hl 2 rfl) ?_
          refine lv_icmp_ne (tgt := 27) hx hb dX6_isTracedTo_22 (by decide) (fun hc4 => ?_) (fun hc4 => ?_)
          · replace h := it_e hc4 h
            refine lv_aload_n hx hb dX6_isTracedTo_27 rfl (lv_at hl 0 rfl) ?_
            refine va_get (D := D) (ci := 6) (v := .ref a_h_parents) (C := RX6) (T := TX6) (N := 6) hx hb hts in_X6_isTracedTo_X6 hown hK hP 0 rfl rfl 3 (by decide) (hts _ q_X6_isTracedTo_1) (fun _ h9 => h9) rfl dX6_isTracedTo_28 ?_
            refine lv_iload_n hx hb dX6_isTracedTo_31 rfl (lv_at hl 3 rfl) ?_
            obtain ⟨hi5, h⟩ := gA_e h
            refine wx_iald hx hb hK hP 1 0 rfl rfl (Int32.toNatClampNeg x3) rfl hi5 dX6_isTracedTo_32 ?_
            refine lv_topi (fun t6 et6 => ?_)
            replace h := nm_at h et6
            refine lv_istore_n (lv' := [(3, .int t6), (0, .ref a_h), (1, .int p0), (2, .int p1), (4, .int x4)]) hx hb dX6_isTracedTo_33 rfl hl (by decide) rfl (fun ls hl => ?_)
            obtain ⟨t7, et7, h⟩ := nm_x h
            refine lv_iinc (v := t7) (lv' := [(4, .int t7), (3, .int t6), (0, .ref a_h), (1, .int p0), (2, .int p1)]) hx hb dX6_isTracedTo_34 hl (k := 4) rfl (by rw [et7]; rfl) (by decide) rfl (fun ls hl => ?_)
            refine lv_goto (tgt := 5) hx hb dX6_isTracedTo_37 (by decide) ?_
            exact ih t6 t7 _ _ _ h hP hD hS (lv_sub hl [2, 3, 4, 1, 0] rfl)
          · replace h := in_e hc4 h
            refine lv_iconst (v := (1 : Int32)) hx hb dX6_isTracedTo_25 (by decide) ?_
            obtain rfl := sm_e h
            exact rx_z hx hb hr rfl hP hK hD hS dX6_isTracedTo_26 hlocks
  refine lv_iload_n hx hb dX6_isTracedTo_0 rfl (lv_at hl 1 rfl) ?_
  refine lv_istore_n (lv' := [(3, .int p0), (0, .ref a_h), (1, .int p0), (2, .int p1)]) hx hb dX6_isTracedTo_1 rfl hl (by decide) rfl (fun ls hl => ?_)
  refine lv_iconst (v := (0 : Int32)) hx hb dX6_isTracedTo_2 (by decide) ?_
  refine lv_istore (lv' := [(4, .int (0 : Int32)), (3, .int p0), (0, .ref a_h), (1, .int p0), (2, .int p1)]) hx hb dX6_isTracedTo_3 hl (by decide) rfl (fun ls hl => ?_)
  exact B5 N p0 (0 : Int32) _ _ _ h hP hD hS (lv_sub hl [2, 3, 4, 1, 0] rfl)
-- X6_numberTracedTo
def f_X6_numberTracedTo_b4 (N : Nat) (v_size : Int32) (v_parents_A : Nat → Int32) (p0 : Int32) : Nat → Int32 → Int32 → Option (Int32)
  | 0, _, _ => none
  | k + 1, x2, x3 =>
    (if v_size ≤ x3 then some x2
    else Option.bind (f_X6_isTracedTo N v_size v_parents_A x3 p0) (fun u2 => (if u2 = 0 then nm (x3 + (1 : Int32)) (fun t4 => (f_X6_numberTracedTo_b4 N v_size v_parents_A p0 k x2 t4))
    else nm (x2 + (1 : Int32)) (fun t5 => nm (x3 + (1 : Int32)) (fun t6 => (f_X6_numberTracedTo_b4 N v_size v_parents_A p0 k t5 t6))))))
def f_X6_numberTracedTo (N : Nat) (v_size : Int32) (v_parents_A : Nat → Int32) (p0 : Int32) : Option (Int32) :=
  (f_X6_numberTracedTo_b4 N v_size v_parents_A p0 N (0 : Int32) (0 : Int32))
theorem q_X6_numberTracedTo_1 : (.fieldLink RX6 27 "SpringBalance$Weights" "size" "I" : Cond) ∈ wsX6_numberTracedTo := List.mem_of_getElem? (i := 1) (by decide +kernel)
set_option maxRecDepth 20000 in
theorem in_X6_numberTracedTo_X6 : ∀ w ∈ u_ws RX6 TX6 6, w ∈ wsX6_numberTracedTo := by decide +kernel
set_option maxHeartbeats 8000000 in
set_option maxRecDepth 100000 in
theorem k_X6_numberTracedTo (l : Launch) (D : va_G) (cI cC cJ cB : ClassId) (a_h a_h_masses a_h_errors a_h_variances a_h_parents a_h_onPan : Nat) (v_size : Int32) (v_parents_A : Nat → Int32) (N : Nat) (p0 : Int32) (sz : Nat) (u : Int32) (hu : f_X6_numberTracedTo N v_size v_parents_A p0 = some u) :
    Met l yX6_numberTracedTo wsX6_numberTracedTo ({ frames := 2, cells := 0, slots := 0, locals := 45 } : Room) (va_Pc [.ref a_h, .int p0] (PreW D (ty4 cI cC cJ cB) sz [(a_h, .inr (6, [.ref a_h_masses, .ref a_h_errors, .ref a_h_variances, .ref a_h_parents, .ref a_h_onPan, .int v_size])), (a_h_parents, .inl (cI, 8, .inl v_parents_A))]))
      (QI D (ty4 cI cC cJ cB) (va_A [(a_h, .inr (6, [.ref a_h_masses, .ref a_h_errors, .ref a_h_variances, .ref a_h_parents, .ref a_h_onPan, .int v_size])), (a_h_parents, .inl (cI, 8, .inl v_parents_A))] sz) [(a_h, .inr (6, [.ref a_h_masses, .ref a_h_errors, .ref a_h_variances, .ref a_h_parents, .ref a_h_onPan, .int v_size])), (a_h_parents, .inl (cI, 8, .inl v_parents_A))] u) 0 0 (va_A [(a_h, .inr (6, [.ref a_h_masses, .ref a_h_errors, .ref a_h_variances, .ref a_h_parents, .ref a_h_onPan, .int v_size])), (a_h_parents, .inl (cI, 8, .inl v_parents_A))] sz) := by
  refine met_go (y := yX6_numberTracedTo) (wsy := wsX6_numberTracedTo) (cc := cX6_numberTracedTo) (maxL := 4) (ret := (some .int)) (av := [.ref a_h, .int p0]) (Qc := fun A => QI D (ty4 cI cC cJ cB) A [(a_h, .inr (6, [.ref a_h_masses, .ref a_h_errors, .ref a_h_variances, .ref a_h_parents, .ref a_h_onPan, .int v_size])), (a_h_parents, .inl (cI, 8, .inl v_parents_A))] u) (by decide) rfl (Nat.le_of_ble_eq_true rfl) ?_
  intro p e s m below meth c A ls hx hb hr hml hown hts hlocks hnm hN hK hP hD hS hA hl
  have h := hu
  clear hu
  unfold f_X6_numberTracedTo at h
  have hl : lv_has ls 4 [(0, .ref a_h), (1, .int p0)] := hl
  have B4 : ∀ (k : Nat) (x2 : Int32) (x3 : Int32) (H : Heap) (locs : List Loc) (ls : Array Slot), f_X6_numberTracedTo_b4 N v_size v_parents_A p0 k x2 x3 = some u → va_P D vwCl [(a_h, .inr (6, [.ref a_h_masses, .ref a_h_errors, .ref a_h_variances, .ref a_h_parents, .ref a_h_onPan, .int v_size])), (a_h_parents, .inl (cI, 8, .inl v_parents_A))] H → va_D A [(a_h, .inr (6, [.ref a_h_masses, .ref a_h_errors, .ref a_h_variances, .ref a_h_parents, .ref a_h_onPan, .int v_size])), (a_h_parents, .inl (cI, 8, .inl v_parents_A))] → va_S A s.heap H locs → lv_has ls 4 [(0, .ref a_h), (1, .int p0), (2, .int x2), (3, .int x3)] → W p l e ({ frames := 2, cells := 0, slots := 0, locals := 45 } : Room) s m ([.ref a_h, .int p0] : List Value).toArray below meth c H locs 0 0 (MQ below (QI D (ty4 cI cC cJ cB) A [(a_h, .inr (6, [.ref a_h_masses, .ref a_h_errors, .ref a_h_variances, .ref a_h_parents, .ref a_h_onPan, .int v_size])), (a_h_parents, .inl (cI, 8, .inl v_parents_A))] u) ([.ref a_h, .int p0] : List Value).toArray s 0 0 A) (F0 m 4 ls []) := by
    intro k
    induction k with
    | zero =>
      intro x2 x3 H locs ls h
      exact nomatch (show (none : Option (Int32)) = some u from h)
    | succ k ih =>
      intro x2 x3 H locs ls h hP hD hS hl
      rw [f_X6_numberTracedTo_b4.eq_2] at h
      refine lv_iload_n hx hb dX6_numberTracedTo_4 rfl (lv_at hl 3 rfl) ?_
      refine lv_aload_n hx hb dX6_numberTracedTo_5 rfl (lv_at hl 0 rfl) ?_
      refine va_get (D := D) (ci := 6) (v := .int v_size) (C := RX6) (T := TX6) (N := 6) hx hb hts in_X6_numberTracedTo_X6 hown hK hP 0 rfl rfl 5 (by decide) (hts _ q_X6_numberTracedTo_1) (fun _ h9 => h9) rfl dX6_numberTracedTo_6 ?_
      refine lv_icmp_ge (tgt := 30) hx hb dX6_numberTracedTo_9 (by decide) (fun hc1 => ?_) (fun hc1 => ?_)
      · replace h := it_e hc1 h
        refine lv_iload_n hx hb dX6_numberTracedTo_30 rfl (lv_at hl 2 rfl) ?_
        obtain rfl := sm_e h
        exact rx_i hx hb hr  hP hK hD hS dX6_numberTracedTo_31 hlocks
      · replace h := if_e hc1 h
        refine lv_aload_n hx hb dX6_numberTracedTo_12 rfl (lv_at hl 0 rfl) ?_
        refine lv_iload_n hx hb dX6_numberTracedTo_13 rfl (lv_at hl 3 rfl) ?_
        refine lv_iload_n hx hb dX6_numberTracedTo_14 rfl (lv_at hl 1 rfl) ?_
        obtain ⟨u2, hu2, h⟩ := bd_e h
        refine kx_i (mc := 0) (ms := 0) (wr := []) (ws2 := [(a_h, .inr (6, [.ref a_h_masses, .ref a_h_errors, .ref a_h_variances, .ref a_h_parents, .ref a_h_onPan, .int v_size])), (a_h_parents, .inl (cI, 8, .inl v_parents_A))]) (va_runV (As := [.int x3, .int p0]) (rest := []) ⟨hx, hb, hml, hown, hts⟩ (k_X6_isTracedTo l D cI cC cJ cB a_h a_h_masses a_h_errors a_h_variances a_h_parents a_h_onPan v_size v_parents_A N x3 p0 H.size _ hu2) (cwV 2 hts gX6_numberTracedTo_X6_isTracedTo rfl rfl rfl (by decide +kernel) ⟨Nat.le_of_ble_eq_true rfl, Nat.le_of_ble_eq_true rfl⟩) (pv_V hP hD hK hN [0, 1] rfl rfl (ci := 6) rfl 0 rfl) rfl rfl hl.1 rfl (lv_room (Nat.le_of_ble_eq_true rfl)) dX6_numberTracedTo_15 ⟨Nat.zero_le _, Nat.zero_le _⟩) hP hD hS hA [0, 1] [] [0, 1] rfl rfl rfl rfl rfl rfl (fun H locs hP hD hS => ?_)
        refine lv_if_eq (tgt := 24) hx hb dX6_numberTracedTo_18 (by decide) (fun hc3 => ?_) (fun hc3 => ?_)
        · replace h := it_e hc3 h
          obtain ⟨t4, et4, h⟩ := nm_x h
          refine lv_iinc (v := t4) (lv' := [(3, .int t4), (0, .ref a_h), (1, .int p0), (2, .int x2)]) hx hb dX6_numberTracedTo_24 hl (k := 3) rfl (by rw [et4]; rfl) (by decide) rfl (fun ls hl => ?_)
          refine lv_goto (tgt := 4) hx hb dX6_numberTracedTo_27 (by decide) ?_
          exact ih x2 t4 _ _ _ h hP hD hS (lv_sub hl [1, 2, 3, 0] rfl)
        · replace h := if_e hc3 h
          obtain ⟨t5, et5, h⟩ := nm_x h
          refine lv_iinc (v := t5) (lv' := [(2, .int t5), (0, .ref a_h), (1, .int p0), (3, .int x3)]) hx hb dX6_numberTracedTo_21 hl (k := 2) rfl (by rw [et5]; rfl) (by decide) rfl (fun ls hl => ?_)
          obtain ⟨t6, et6, h⟩ := nm_x h
          refine lv_iinc (v := t6) (lv' := [(3, .int t6), (2, .int t5), (0, .ref a_h), (1, .int p0)]) hx hb dX6_numberTracedTo_24 hl (k := 3) rfl (by rw [et6]; rfl) (by decide) rfl (fun ls hl => ?_)
          refine lv_goto (tgt := 4) hx hb dX6_numberTracedTo_27 (by decide) ?_
          exact ih t5 t6 _ _ _ h hP hD hS (lv_sub hl [2, 3, 1, 0] rfl)
  refine lv_iconst (v := (0 : Int32)) hx hb dX6_numberTracedTo_0 (by decide) ?_
  refine lv_istore_n (lv' := [(2, .int (0 : Int32)), (0, .ref a_h), (1, .int p0)]) hx hb dX6_numberTracedTo_1 rfl hl (by decide) rfl (fun ls hl => ?_)
  refine lv_iconst (v := (0 : Int32)) hx hb dX6_numberTracedTo_2 (by decide) ?_
  refine lv_istore_n (lv' := [(3, .int (0 : Int32)), (2, .int (0 : Int32)), (0, .ref a_h), (1, .int p0)]) hx hb dX6_numberTracedTo_3 rfl hl (by decide) rfl (fun ls hl => ?_)
  exact B4 N (0 : Int32) (0 : Int32) _ _ _ h hP hD hS (lv_sub hl [2, 3, 1, 0] rfl)
-- X6_property
def f_X6_property (N : Nat) (v_size : Int32) (v_masses_A : Nat → Int32) (v_errors_A : Nat → Int32) (v_variances_A : Nat → Int32) (v_parents_A : Nat → Int32) (v_onPan_A : Nat → Int32) (p0 : Int32) (p1 : Int32) : Option (Int32) :=
  Option.bind (f_X6_has v_size p0) (fun u1 => (if ¬ u1 = 0 then (if p1 = (0 : Int32) then gA p0 8 (some (v_masses_A (Int32.toNatClampNeg p0)))
    else (if p1 = (1 : Int32) then gA p0 8 (some (v_errors_A (Int32.toNatClampNeg p0)))
    else (if p1 = (2 : Int32) then gA p0 8 (some (v_variances_A (Int32.toNatClampNeg p0)))
    else (if p1 = (3 : Int32) then gA p0 8 (some (v_parents_A (Int32.toNatClampNeg p0)))
    else (if p1 = (4 : Int32) then gA p0 8 (some (v_onPan_A (Int32.toNatClampNeg p0)))
    else (if p1 = (5 : Int32) then Option.bind (f_X6_sumToStandard N 8 v_size v_parents_A v_errors_A p0) (fun u14 => some u14)
    else (if p1 = (6 : Int32) then Option.bind (f_X6_totalVariance N v_size v_variances_A v_parents_A p0) (fun u16 => some u16)
    else (if p1 = (7 : Int32) then Option.bind (f_X6_depth N v_size v_parents_A p0) (fun u18 => some u18)
    else Option.bind (f_X6_numberTracedTo N v_size v_parents_A p0) (fun u19 => some u19)))))))))
    else some (-2000000001 : Int32)))
theorem q_X6_property_2 : (.fieldLink RX6 9 "SpringBalance$Weights" "masses" "[I" : Cond) ∈ wsX6_property := List.mem_of_getElem? (i := 2) (by decide +kernel)
set_option maxRecDepth 20000 in
theorem in_X6_property_X6 : ∀ w ∈ u_ws RX6 TX6 6, w ∈ wsX6_property := by decide +kernel
theorem q_X6_property_3 : (.fieldLink RX6 15 "SpringBalance$Weights" "errors" "[I" : Cond) ∈ wsX6_property := List.mem_of_getElem? (i := 3) (by decide +kernel)
theorem q_X6_property_4 : (.fieldLink RX6 18 "SpringBalance$Weights" "variances" "[I" : Cond) ∈ wsX6_property := List.mem_of_getElem? (i := 4) (by decide +kernel)
theorem q_X6_property_5 : (.fieldLink RX6 21 "SpringBalance$Weights" "parents" "[I" : Cond) ∈ wsX6_property := List.mem_of_getElem? (i := 5) (by decide +kernel)
theorem q_X6_property_6 : (.fieldLink RX6 24 "SpringBalance$Weights" "onPan" "[I" : Cond) ∈ wsX6_property := List.mem_of_getElem? (i := 6) (by decide +kernel)
theorem q_X6_property_1 : (.constant RX6 53 (-2000000001) : Cond) ∈ wsX6_property := List.mem_of_getElem? (i := 1) (by decide +kernel)
set_option maxHeartbeats 8000000 in
set_option maxRecDepth 100000 in
theorem k_X6_property (l : Launch) (D : va_G) (cI cC cJ cB : ClassId) (a_h a_h_masses a_h_errors a_h_variances a_h_parents a_h_onPan : Nat) (v_size : Int32) (v_masses_A : Nat → Int32) (v_errors_A : Nat → Int32) (v_variances_A : Nat → Int32) (v_parents_A : Nat → Int32) (v_onPan_A : Nat → Int32) (N : Nat) (p0 : Int32) (p1 : Int32) (sz : Nat) (u : Int32) (hu : f_X6_property N v_size v_masses_A v_errors_A v_variances_A v_parents_A v_onPan_A p0 p1 = some u) :
    Met l yX6_property wsX6_property ({ frames := 3, cells := 0, slots := 0, locals := 68 } : Room) (va_Pc [.ref a_h, .int p0, .int p1] (PreW D (ty4 cI cC cJ cB) sz [(a_h, .inr (6, [.ref a_h_masses, .ref a_h_errors, .ref a_h_variances, .ref a_h_parents, .ref a_h_onPan, .int v_size])), (a_h_masses, .inl (cI, 8, .inl v_masses_A)), (a_h_errors, .inl (cI, 8, .inl v_errors_A)), (a_h_variances, .inl (cI, 8, .inl v_variances_A)), (a_h_parents, .inl (cI, 8, .inl v_parents_A)), (a_h_onPan, .inl (cI, 8, .inl v_onPan_A))]))
      (QI D (ty4 cI cC cJ cB) (va_A [(a_h, .inr (6, [.ref a_h_masses, .ref a_h_errors, .ref a_h_variances, .ref a_h_parents, .ref a_h_onPan, .int v_size])), (a_h_masses, .inl (cI, 8, .inl v_masses_A)), (a_h_errors, .inl (cI, 8, .inl v_errors_A)), (a_h_variances, .inl (cI, 8, .inl v_variances_A)), (a_h_parents, .inl (cI, 8, .inl v_parents_A)), (a_h_onPan, .inl (cI, 8, .inl v_onPan_A))] sz) [(a_h, .inr (6, [.ref a_h_masses, .ref a_h_errors, .ref a_h_variances, .ref a_h_parents, .ref a_h_onPan, .int v_size])), (a_h_masses, .inl (cI, 8, .inl v_masses_A)), (a_h_errors, .inl (cI, 8, .inl v_errors_A)), (a_h_variances, .inl (cI, 8, .inl v_variances_A)), (a_h_parents, .inl (cI, 8, .inl v_parents_A)), (a_h_onPan, .inl (cI, 8, .inl v_onPan_A))] u) 0 0 (va_A [(a_h, .inr (6, [.ref a_h_masses, .ref a_h_errors, .ref a_h_variances, .ref a_h_parents, .ref a_h_onPan, .int v_size])), (a_h_masses, .inl (cI, 8, .inl v_masses_A)), (a_h_errors, .inl (cI, 8, .inl v_errors_A)), (a_h_variances, .inl (cI, 8, .inl v_variances_A)), (a_h_parents, .inl (cI, 8, .inl v_parents_A)), (a_h_onPan, .inl (cI, 8, .inl v_onPan_A))] sz) := by
  refine met_go (y := yX6_property) (wsy := wsX6_property) (cc := cX6_property) (maxL := 3) (ret := (some .int)) (av := [.ref a_h, .int p0, .int p1]) (Qc := fun A => QI D (ty4 cI cC cJ cB) A [(a_h, .inr (6, [.ref a_h_masses, .ref a_h_errors, .ref a_h_variances, .ref a_h_parents, .ref a_h_onPan, .int v_size])), (a_h_masses, .inl (cI, 8, .inl v_masses_A)), (a_h_errors, .inl (cI, 8, .inl v_errors_A)), (a_h_variances, .inl (cI, 8, .inl v_variances_A)), (a_h_parents, .inl (cI, 8, .inl v_parents_A)), (a_h_onPan, .inl (cI, 8, .inl v_onPan_A))] u) (by decide) rfl (Nat.le_of_ble_eq_true rfl) ?_
  intro p e s m below meth c A ls hx hb hr hml hown hts hlocks hnm hN hK hP hD hS hA hl
  have h := hu
  clear hu
  unfold f_X6_property at h
  have hl : lv_has ls 3 [(0, .ref a_h), (1, .int p0), (2, .int p1)] := hl
  refine lv_aload_n hx hb dX6_property_0 rfl (lv_at hl 0 rfl) ?_
  refine lv_iload_n hx hb dX6_property_1 rfl (lv_at hl 1 rfl) ?_
  obtain ⟨u1, hu1, h⟩ := bd_e h
  refine kx_i (mc := 0) (ms := 0) (wr := [(a_h_masses, .inl (cI, 8, .inl v_masses_A)), (a_h_errors, .inl (cI, 8, .inl v_errors_A)), (a_h_variances, .inl (cI, 8, .inl v_variances_A)), (a_h_parents, .inl (cI, 8, .inl v_parents_A)), (a_h_onPan, .inl (cI, 8, .inl v_onPan_A))]) (ws2 := [(a_h, .inr (6, [.ref a_h_masses, .ref a_h_errors, .ref a_h_variances, .ref a_h_parents, .ref a_h_onPan, .int v_size])), (a_h_masses, .inl (cI, 8, .inl v_masses_A)), (a_h_errors, .inl (cI, 8, .inl v_errors_A)), (a_h_variances, .inl (cI, 8, .inl v_variances_A)), (a_h_parents, .inl (cI, 8, .inl v_parents_A)), (a_h_onPan, .inl (cI, 8, .inl v_onPan_A))]) (va_runV (As := [.int p0]) (rest := []) ⟨hx, hb, hml, hown, hts⟩ (k_X6_has l D cI cC cJ cB a_h a_h_masses a_h_errors a_h_variances a_h_parents a_h_onPan v_size N p0 s.heap.size _ hu1) (cwV 1 hts gX6_property_X6_has rfl rfl rfl (by decide +kernel) ⟨Nat.le_of_ble_eq_true rfl, Nat.le_of_ble_eq_true rfl⟩) (pv_V hP hD hK hN [0] rfl rfl (ci := 6) rfl 0 rfl) rfl rfl hl.1 rfl (lv_room (Nat.le_of_ble_eq_true rfl)) dX6_property_2 ⟨Nat.zero_le _, Nat.zero_le _⟩) hP hD hS hA [0] [1, 2, 3, 4, 5] [5, 0, 1, 2, 3, 4] rfl rfl rfl rfl rfl rfl (fun H locs hP hD hS => ?_)
  refine lv_if_ne (tgt := 11) hx hb dX6_property_5 (by decide) (fun hc2 => ?_) (fun hc2 => ?_)
  · replace h := it_e hc2 h
    refine lv_iload_n hx hb dX6_property_11 rfl (lv_at hl 2 rfl) ?_
    by_cases hc3 : p1 = (0 : Int32)
    · replace h := it_e hc3 h
      refine lv_tableIn (off := 48) (tgt := 60) hx hb dX6_property_12 (by rw [hc3]; decide) (by rw [hc3]; decide) (by rw [hc3]; rfl) (by decide) ?_
      refine lv_aload_n hx hb dX6_property_60 rfl (lv_at hl 0 rfl) ?_
      refine va_get (D := D) (ci := 6) (v := .ref a_h_masses) (C := RX6) (T := TX6) (N := 6) hx hb hts in_X6_property_X6 hown hK hP 0 rfl rfl 0 (by decide) (hts _ q_X6_property_2) (fun _ h9 => h9) rfl dX6_property_61 ?_
      refine lv_iload_n hx hb dX6_property_64 rfl (lv_at hl 1 rfl) ?_
      obtain ⟨hi4, h⟩ := gA_e h
      refine wx_iald hx hb hK hP 1 0 rfl rfl (Int32.toNatClampNeg p0) rfl hi4 dX6_property_65 ?_
      obtain rfl := sm_e h
      exact rx_i hx hb hr  hP hK hD hS dX6_property_66 hlocks
    · replace h := if_e hc3 h
      by_cases hc5 : p1 = (1 : Int32)
      · replace h := it_e hc5 h
        refine lv_tableIn (off := 55) (tgt := 67) hx hb dX6_property_12 (by rw [hc5]; decide) (by rw [hc5]; decide) (by rw [hc5]; rfl) (by decide) ?_
        refine lv_aload_n hx hb dX6_property_67 rfl (lv_at hl 0 rfl) ?_
        refine va_get (D := D) (ci := 6) (v := .ref a_h_errors) (C := RX6) (T := TX6) (N := 6) hx hb hts in_X6_property_X6 hown hK hP 0 rfl rfl 1 (by decide) (hts _ q_X6_property_3) (fun _ h9 => h9) rfl dX6_property_68 ?_
        refine lv_iload_n hx hb dX6_property_71 rfl (lv_at hl 1 rfl) ?_
        obtain ⟨hi6, h⟩ := gA_e h
        refine wx_iald hx hb hK hP 2 0 rfl rfl (Int32.toNatClampNeg p0) rfl hi6 dX6_property_72 ?_
        obtain rfl := sm_e h
        exact rx_i hx hb hr  hP hK hD hS dX6_property_73 hlocks
      · replace h := if_e hc5 h
        by_cases hc7 : p1 = (2 : Int32)
        · replace h := it_e hc7 h
          refine lv_tableIn (off := 62) (tgt := 74) hx hb dX6_property_12 (by rw [hc7]; decide) (by rw [hc7]; decide) (by rw [hc7]; rfl) (by decide) ?_
          refine lv_aload_n hx hb dX6_property_74 rfl (lv_at hl 0 rfl) ?_
          refine va_get (D := D) (ci := 6) (v := .ref a_h_variances) (C := RX6) (T := TX6) (N := 6) hx hb hts in_X6_property_X6 hown hK hP 0 rfl rfl 2 (by decide) (hts _ q_X6_property_4) (fun _ h9 => h9) rfl dX6_property_75 ?_
          refine lv_iload_n hx hb dX6_property_78 rfl (lv_at hl 1 rfl) ?_
          obtain ⟨hi8, h⟩ := gA_e h
          refine wx_iald hx hb hK hP 3 0 rfl rfl (Int32.toNatClampNeg p0) rfl hi8 dX6_property_79 ?_
          obtain rfl := sm_e h
          exact rx_i hx hb hr  hP hK hD hS dX6_property_80 hlocks
        · replace h := if_e hc7 h
          by_cases hc9 : p1 = (3 : Int32)
          · replace h := it_e hc9 h
            refine lv_tableIn (off := 69) (tgt := 81) hx hb dX6_property_12 (by rw [hc9]; decide) (by rw [hc9]; decide) (by rw [hc9]; rfl) (by decide) ?_
            refine lv_aload_n hx hb dX6_property_81 rfl (lv_at hl 0 rfl) ?_
            refine va_get (D := D) (ci := 6) (v := .ref a_h_parents) (C := RX6) (T := TX6) (N := 6) hx hb hts in_X6_property_X6 hown hK hP 0 rfl rfl 3 (by decide) (hts _ q_X6_property_5) (fun _ h9 => h9) rfl dX6_property_82 ?_
            refine lv_iload_n hx hb dX6_property_85 rfl (lv_at hl 1 rfl) ?_
            obtain ⟨hi10, h⟩ := gA_e h
            refine wx_iald hx hb hK hP 4 0 rfl rfl (Int32.toNatClampNeg p0) rfl hi10 dX6_property_86 ?_
            obtain rfl := sm_e h
            exact rx_i hx hb hr  hP hK hD hS dX6_property_87 hlocks
          · replace h := if_e hc9 h
            by_cases hc11 : p1 = (4 : Int32)
            · replace h := it_e hc11 h
              refine lv_tableIn (off := 76) (tgt := 88) hx hb dX6_property_12 (by rw [hc11]; decide) (by rw [hc11]; decide) (by rw [hc11]; rfl) (by decide) ?_
              refine lv_aload_n hx hb dX6_property_88 rfl (lv_at hl 0 rfl) ?_
              refine va_get (D := D) (ci := 6) (v := .ref a_h_onPan) (C := RX6) (T := TX6) (N := 6) hx hb hts in_X6_property_X6 hown hK hP 0 rfl rfl 4 (by decide) (hts _ q_X6_property_6) (fun _ h9 => h9) rfl dX6_property_89 ?_
              refine lv_iload_n hx hb dX6_property_92 rfl (lv_at hl 1 rfl) ?_
              obtain ⟨hi12, h⟩ := gA_e h
              refine wx_iald hx hb hK hP 5 0 rfl rfl (Int32.toNatClampNeg p0) rfl hi12 dX6_property_93 ?_
              obtain rfl := sm_e h
              exact rx_i hx hb hr  hP hK hD hS dX6_property_94 hlocks
            · replace h := if_e hc11 h
              by_cases hc13 : p1 = (5 : Int32)
              · replace h := it_e hc13 h
                refine lv_tableIn (off := 83) (tgt := 95) hx hb dX6_property_12 (by rw [hc13]; decide) (by rw [hc13]; decide) (by rw [hc13]; rfl) (by decide) ?_
                refine lv_aload_n hx hb dX6_property_95 rfl (lv_at hl 0 rfl) ?_
                refine lv_aload_n hx hb dX6_property_96 rfl (lv_at hl 0 rfl) ?_
                refine va_get (D := D) (ci := 6) (v := .ref a_h_errors) (C := RX6) (T := TX6) (N := 6) hx hb hts in_X6_property_X6 hown hK hP 0 rfl rfl 1 (by decide) (hts _ q_X6_property_3) (fun _ h9 => h9) rfl dX6_property_97 ?_
                refine lv_iload_n hx hb dX6_property_100 rfl (lv_at hl 1 rfl) ?_
                obtain ⟨u14, hu14, h⟩ := bd_e h
                refine kx_i (mc := 0) (ms := 0) (wr := [(a_h_masses, .inl (cI, 8, .inl v_masses_A)), (a_h_variances, .inl (cI, 8, .inl v_variances_A)), (a_h_onPan, .inl (cI, 8, .inl v_onPan_A))]) (ws2 := [(a_h, .inr (6, [.ref a_h_masses, .ref a_h_errors, .ref a_h_variances, .ref a_h_parents, .ref a_h_onPan, .int v_size])), (a_h_masses, .inl (cI, 8, .inl v_masses_A)), (a_h_errors, .inl (cI, 8, .inl v_errors_A)), (a_h_variances, .inl (cI, 8, .inl v_variances_A)), (a_h_parents, .inl (cI, 8, .inl v_parents_A)), (a_h_onPan, .inl (cI, 8, .inl v_onPan_A))]) (va_runV (As := [.ref a_h_errors, .int p0]) (rest := []) ⟨hx, hb, hml, hown, hts⟩ (k_X6_sumToStandard l D cI cC cJ cB a_h a_h_masses a_h_errors a_h_variances a_h_parents a_h_onPan a_h_errors 8 v_size v_parents_A v_errors_A N p0 H.size _ hu14) (cwV 2 hts gX6_property_X6_sumToStandard rfl rfl rfl (by decide +kernel) ⟨Nat.le_of_ble_eq_true rfl, Nat.le_of_ble_eq_true rfl⟩) (pv_V hP hD hK hN [0, 4, 2] rfl rfl (ci := 6) rfl 0 rfl) rfl rfl hl.1 rfl (lv_room (Nat.le_of_ble_eq_true rfl)) dX6_property_101 ⟨Nat.zero_le _, Nat.zero_le _⟩) hP hD hS hA [0, 4, 2] [1, 3, 5] [3, 0, 5, 1, 4, 2] rfl rfl rfl rfl rfl rfl (fun H locs hP hD hS => ?_)
                obtain rfl := sm_e h
                exact rx_i hx hb hr  hP hK hD hS dX6_property_104 hlocks
              · replace h := if_e hc13 h
                by_cases hc15 : p1 = (6 : Int32)
                · replace h := it_e hc15 h
                  refine lv_tableIn (off := 93) (tgt := 105) hx hb dX6_property_12 (by rw [hc15]; decide) (by rw [hc15]; decide) (by rw [hc15]; rfl) (by decide) ?_
                  refine lv_aload_n hx hb dX6_property_105 rfl (lv_at hl 0 rfl) ?_
                  refine lv_iload_n hx hb dX6_property_106 rfl (lv_at hl 1 rfl) ?_
                  obtain ⟨u16, hu16, h⟩ := bd_e h
                  refine kx_i (mc := 0) (ms := 0) (wr := [(a_h_masses, .inl (cI, 8, .inl v_masses_A)), (a_h_errors, .inl (cI, 8, .inl v_errors_A)), (a_h_onPan, .inl (cI, 8, .inl v_onPan_A))]) (ws2 := [(a_h, .inr (6, [.ref a_h_masses, .ref a_h_errors, .ref a_h_variances, .ref a_h_parents, .ref a_h_onPan, .int v_size])), (a_h_masses, .inl (cI, 8, .inl v_masses_A)), (a_h_errors, .inl (cI, 8, .inl v_errors_A)), (a_h_variances, .inl (cI, 8, .inl v_variances_A)), (a_h_parents, .inl (cI, 8, .inl v_parents_A)), (a_h_onPan, .inl (cI, 8, .inl v_onPan_A))]) (va_runV (As := [.int p0]) (rest := []) ⟨hx, hb, hml, hown, hts⟩ (k_X6_totalVariance l D cI cC cJ cB a_h a_h_masses a_h_errors a_h_variances a_h_parents a_h_onPan v_size v_variances_A v_parents_A N p0 H.size _ hu16) (cwV 1 hts gX6_property_X6_totalVariance rfl rfl rfl (by decide +kernel) ⟨Nat.le_of_ble_eq_true rfl, Nat.le_of_ble_eq_true rfl⟩) (pv_V hP hD hK hN [0, 3, 4] rfl rfl (ci := 6) rfl 0 rfl) rfl rfl hl.1 rfl (lv_room (Nat.le_of_ble_eq_true rfl)) dX6_property_107 ⟨Nat.zero_le _, Nat.zero_le _⟩) hP hD hS hA [0, 3, 4] [1, 2, 5] [3, 0, 1, 4, 5, 2] rfl rfl rfl rfl rfl rfl (fun H locs hP hD hS => ?_)
                  obtain rfl := sm_e h
                  exact rx_i hx hb hr  hP hK hD hS dX6_property_110 hlocks
                · replace h := if_e hc15 h
                  by_cases hc17 : p1 = (7 : Int32)
                  · replace h := it_e hc17 h
                    refine lv_tableIn (off := 99) (tgt := 111) hx hb dX6_property_12 (by rw [hc17]; decide) (by rw [hc17]; decide) (by rw [hc17]; rfl) (by decide) ?_
                    refine lv_aload_n hx hb dX6_property_111 rfl (lv_at hl 0 rfl) ?_
                    refine lv_iload_n hx hb dX6_property_112 rfl (lv_at hl 1 rfl) ?_
                    obtain ⟨u18, hu18, h⟩ := bd_e h
                    refine kx_i (mc := 0) (ms := 0) (wr := [(a_h_masses, .inl (cI, 8, .inl v_masses_A)), (a_h_errors, .inl (cI, 8, .inl v_errors_A)), (a_h_variances, .inl (cI, 8, .inl v_variances_A)), (a_h_onPan, .inl (cI, 8, .inl v_onPan_A))]) (ws2 := [(a_h, .inr (6, [.ref a_h_masses, .ref a_h_errors, .ref a_h_variances, .ref a_h_parents, .ref a_h_onPan, .int v_size])), (a_h_masses, .inl (cI, 8, .inl v_masses_A)), (a_h_errors, .inl (cI, 8, .inl v_errors_A)), (a_h_variances, .inl (cI, 8, .inl v_variances_A)), (a_h_parents, .inl (cI, 8, .inl v_parents_A)), (a_h_onPan, .inl (cI, 8, .inl v_onPan_A))]) (va_runV (As := [.int p0]) (rest := []) ⟨hx, hb, hml, hown, hts⟩ (k_X6_depth l D cI cC cJ cB a_h a_h_masses a_h_errors a_h_variances a_h_parents a_h_onPan v_size v_parents_A N p0 H.size _ hu18) (cwV 1 hts gX6_property_X6_depth rfl rfl rfl (by decide +kernel) ⟨Nat.le_of_ble_eq_true rfl, Nat.le_of_ble_eq_true rfl⟩) (pv_V hP hD hK hN [0, 4] rfl rfl (ci := 6) rfl 0 rfl) rfl rfl hl.1 rfl (lv_room (Nat.le_of_ble_eq_true rfl)) dX6_property_113 ⟨Nat.zero_le _, Nat.zero_le _⟩) hP hD hS hA [0, 4] [1, 2, 3, 5] [4, 0, 1, 2, 5, 3] rfl rfl rfl rfl rfl rfl (fun H locs hP hD hS => ?_)
                    obtain rfl := sm_e h
                    exact rx_i hx hb hr  hP hK hD hS dX6_property_116 hlocks
                  · replace h := if_e hc17 h
                    refine lv_tableOut (tgt := 117) hx hb dX6_property_12 (sw_out 0 7 (fun k h1 h2 hk => by
                      have hc9 : k = 0 ∨ k = 1 ∨ k = 2 ∨ k = 3 ∨ k = 4 ∨ k = 5 ∨ k = 6 ∨ k = 7 := by omega
                      rcases hc9 with rfl | rfl | rfl | rfl | rfl | rfl | rfl | rfl
                      · exact hc3 (Int32.toInt_inj.mp hk)
                      · exact hc5 (Int32.toInt_inj.mp hk)
                      · exact hc7 (Int32.toInt_inj.mp hk)
                      · exact hc9 (Int32.toInt_inj.mp hk)
                      · exact hc11 (Int32.toInt_inj.mp hk)
                      · exact hc13 (Int32.toInt_inj.mp hk)
                      · exact hc15 (Int32.toInt_inj.mp hk)
                      · exact hc17 (Int32.toInt_inj.mp hk))) (by decide) ?_
                    refine lv_aload_n hx hb dX6_property_117 rfl (lv_at hl 0 rfl) ?_
                    refine lv_iload_n hx hb dX6_property_118 rfl (lv_at hl 1 rfl) ?_
                    obtain ⟨u19, hu19, h⟩ := bd_e h
                    refine kx_i (mc := 0) (ms := 0) (wr := [(a_h_masses, .inl (cI, 8, .inl v_masses_A)), (a_h_errors, .inl (cI, 8, .inl v_errors_A)), (a_h_variances, .inl (cI, 8, .inl v_variances_A)), (a_h_onPan, .inl (cI, 8, .inl v_onPan_A))]) (ws2 := [(a_h, .inr (6, [.ref a_h_masses, .ref a_h_errors, .ref a_h_variances, .ref a_h_parents, .ref a_h_onPan, .int v_size])), (a_h_masses, .inl (cI, 8, .inl v_masses_A)), (a_h_errors, .inl (cI, 8, .inl v_errors_A)), (a_h_variances, .inl (cI, 8, .inl v_variances_A)), (a_h_parents, .inl (cI, 8, .inl v_parents_A)), (a_h_onPan, .inl (cI, 8, .inl v_onPan_A))]) (va_runV (As := [.int p0]) (rest := []) ⟨hx, hb, hml, hown, hts⟩ (k_X6_numberTracedTo l D cI cC cJ cB a_h a_h_masses a_h_errors a_h_variances a_h_parents a_h_onPan v_size v_parents_A N p0 H.size _ hu19) (cwV 1 hts gX6_property_X6_numberTracedTo rfl rfl rfl (by decide +kernel) ⟨Nat.le_of_ble_eq_true rfl, Nat.le_of_ble_eq_true rfl⟩) (pv_V hP hD hK hN [0, 4] rfl rfl (ci := 6) rfl 0 rfl) rfl rfl hl.1 rfl (lv_room (Nat.le_of_ble_eq_true rfl)) dX6_property_119 ⟨Nat.zero_le _, Nat.zero_le _⟩) hP hD hS hA [0, 4] [1, 2, 3, 5] [4, 0, 1, 2, 5, 3] rfl rfl rfl rfl rfl rfl (fun H locs hP hD hS => ?_)
                    obtain rfl := sm_e h
                    exact rx_i hx hb hr  hP hK hD hS dX6_property_122 hlocks
  · replace h := in_e hc2 h
    refine lv_ldc (v := (-2000000001 : Int32)) hx hb hown (hts _ q_X6_property_1) dX6_property_8 ?_
    obtain rfl := sm_e h
    exact rx_i hx hb hr  hP hK hD hS dX6_property_10 hlocks
-- X6_isInSet
def f_X6_isInSet (p0 : Int32) (p1 : Int32) : Option (Int32) :=
  (if ((p0 >>> (p1 &&& 31)) &&& (1 : Int32)) = 0 then some (0 : Int32)
    else some (1 : Int32))

set_option maxHeartbeats 8000000 in
set_option maxRecDepth 100000 in
theorem k_X6_isInSet (l : Launch) (D : va_G) (cI cC cJ cB : ClassId) (N : Nat) (p0 : Int32) (p1 : Int32) (sz : Nat) (u : Int32) (hu : f_X6_isInSet p0 p1 = some u) :
    Met l yX6_isInSet wsX6_isInSet ({ frames := 0, cells := 0, slots := 0, locals := 0 } : Room) (va_Pc [.int p0, .int p1] (PreW D (ty4 cI cC cJ cB) sz []))
      (QI D (ty4 cI cC cJ cB) (va_A [] sz) [] u) 0 0 (va_A [] sz) := by
  refine met_go (y := yX6_isInSet) (wsy := wsX6_isInSet) (cc := cX6_isInSet) (maxL := 2) (ret := (some .boolean)) (av := [.int p0, .int p1]) (Qc := fun A => QI D (ty4 cI cC cJ cB) A [] u) (by decide) rfl (Nat.le_of_ble_eq_true rfl) ?_
  intro p e s m below meth c A ls hx hb hr hml hown hts hlocks hnm hN hK hP hD hS hA hl
  have h := hu
  clear hu
  unfold f_X6_isInSet at h
  have hl : lv_has ls 2 [(0, .int p0), (1, .int p1)] := hl
  refine lv_iload_n hx hb dX6_isInSet_0 rfl (lv_at hl 0 rfl) ?_
  refine lv_iload_n hx hb dX6_isInSet_1 rfl (lv_at hl 1 rfl) ?_
  refine lv_ishr hx hb dX6_isInSet_2 ?_
  refine lv_iconst (v := (1 : Int32)) hx hb dX6_isInSet_3 (by decide) ?_
  refine lv_iand hx hb dX6_isInSet_4 ?_
  refine lv_if_eq (tgt := 12) hx hb dX6_isInSet_5 (by decide) (fun hc1 => ?_) (fun hc1 => ?_)
  · replace h := it_e hc1 h
    refine lv_iconst (v := (0 : Int32)) hx hb dX6_isInSet_12 (by decide) ?_
    obtain rfl := sm_e h
    exact rx_z hx hb hr rfl hP hK hD hS dX6_isInSet_13 hlocks
  · replace h := if_e hc1 h
    refine lv_iconst (v := (1 : Int32)) hx hb dX6_isInSet_8 (by decide) ?_
    refine lv_goto (tgt := 13) hx hb dX6_isInSet_9 (by decide) ?_
    obtain rfl := sm_e h
    exact rx_z hx hb hr rfl hP hK hD hS dX6_isInSet_13 hlocks
-- J6_bitCount_0f7a4
def f_J6_bitCount_0f7a4 (p0 : Int32) : Option (Int32) :=
  nm (p0 - ((((Int32.toUInt32 p0) >>> ((Int32.toUInt32 (1 : Int32)) &&& Int32.toUInt32 31)).toInt32) &&& (1431655765 : Int32))) (fun t1 => nm ((t1 &&& (858993459 : Int32)) + ((((Int32.toUInt32 t1) >>> ((Int32.toUInt32 (2 : Int32)) &&& Int32.toUInt32 31)).toInt32) &&& (858993459 : Int32))) (fun t2 => nm ((t2 + (((Int32.toUInt32 t2) >>> ((Int32.toUInt32 (4 : Int32)) &&& Int32.toUInt32 31)).toInt32)) &&& (252645135 : Int32)) (fun t3 => nm (t3 + (((Int32.toUInt32 t3) >>> ((Int32.toUInt32 (8 : Int32)) &&& Int32.toUInt32 31)).toInt32)) (fun t4 => nm (t4 + (((Int32.toUInt32 t4) >>> ((Int32.toUInt32 (16 : Int32)) &&& Int32.toUInt32 31)).toInt32)) (fun t5 => some (t5 &&& (63 : Int32)))))))
theorem q_J6_bitCount_0f7a4_1 : (.constant RJ6 265 (1431655765) : Cond) ∈ wsJ6_bitCount_0f7a4 := List.mem_of_getElem? (i := 1) (by decide +kernel)
theorem q_J6_bitCount_0f7a4_2 : (.constant RJ6 266 (858993459) : Cond) ∈ wsJ6_bitCount_0f7a4 := List.mem_of_getElem? (i := 2) (by decide +kernel)
theorem q_J6_bitCount_0f7a4_3 : (.constant RJ6 267 (252645135) : Cond) ∈ wsJ6_bitCount_0f7a4 := List.mem_of_getElem? (i := 3) (by decide +kernel)
set_option maxHeartbeats 8000000 in
set_option maxRecDepth 100000 in
theorem k_J6_bitCount_0f7a4 (l : Launch) (D : va_G) (cI cC cJ cB : ClassId) (N : Nat) (p0 : Int32) (sz : Nat) (u : Int32) (hu : f_J6_bitCount_0f7a4 p0 = some u) :
    Met l yJ6_bitCount_0f7a4 wsJ6_bitCount_0f7a4 ({ frames := 0, cells := 0, slots := 0, locals := 0 } : Room) (va_Pc [.int p0] (PreW D (ty4 cI cC cJ cB) sz []))
      (QI D (ty4 cI cC cJ cB) (va_A [] sz) [] u) 0 0 (va_A [] sz) := by
  refine met_go (y := yJ6_bitCount_0f7a4) (wsy := wsJ6_bitCount_0f7a4) (cc := cJ6_bitCount_0f7a4) (maxL := 1) (ret := (some .int)) (av := [.int p0]) (Qc := fun A => QI D (ty4 cI cC cJ cB) A [] u) (by decide) rfl (Nat.le_of_ble_eq_true rfl) ?_
  intro p e s m below meth c A ls hx hb hr hml hown hts hlocks hnm hN hK hP hD hS hA hl
  have h := hu
  clear hu
  unfold f_J6_bitCount_0f7a4 at h
  have hl : lv_has ls 1 [(0, .int p0)] := hl
  refine lv_iload_n hx hb dJ6_bitCount_0f7a4_0 rfl (lv_at hl 0 rfl) ?_
  refine lv_iload_n hx hb dJ6_bitCount_0f7a4_1 rfl (lv_at hl 0 rfl) ?_
  refine lv_iconst (v := (1 : Int32)) hx hb dJ6_bitCount_0f7a4_2 (by decide) ?_
  refine lv_iushr (v := ((Int32.toUInt32 p0) >>> ((Int32.toUInt32 (1 : Int32)) &&& Int32.toUInt32 31)).toInt32) hx hb dJ6_bitCount_0f7a4_3 rfl ?_
  refine lv_ldcw (v := (1431655765 : Int32)) hx hb hown (hts _ q_J6_bitCount_0f7a4_1) dJ6_bitCount_0f7a4_4 ?_
  refine lv_iand hx hb dJ6_bitCount_0f7a4_7 ?_
  refine lv_isub hx hb dJ6_bitCount_0f7a4_8 ?_
  refine lv_topi (fun t1 et1 => ?_)
  replace h := nm_at h et1
  refine lv_istore_n (lv' := [(0, .int t1)]) hx hb dJ6_bitCount_0f7a4_9 rfl hl (by decide) rfl (fun ls hl => ?_)
  refine lv_iload_n hx hb dJ6_bitCount_0f7a4_10 rfl (lv_at hl 0 rfl) ?_
  refine lv_ldcw (v := (858993459 : Int32)) hx hb hown (hts _ q_J6_bitCount_0f7a4_2) dJ6_bitCount_0f7a4_11 ?_
  refine lv_iand hx hb dJ6_bitCount_0f7a4_14 ?_
  refine lv_iload_n hx hb dJ6_bitCount_0f7a4_15 rfl (lv_at hl 0 rfl) ?_
  refine lv_iconst (v := (2 : Int32)) hx hb dJ6_bitCount_0f7a4_16 (by decide) ?_
  refine lv_iushr (v := ((Int32.toUInt32 t1) >>> ((Int32.toUInt32 (2 : Int32)) &&& Int32.toUInt32 31)).toInt32) hx hb dJ6_bitCount_0f7a4_17 rfl ?_
  refine lv_ldcw (v := (858993459 : Int32)) hx hb hown (hts _ q_J6_bitCount_0f7a4_2) dJ6_bitCount_0f7a4_18 ?_
  refine lv_iand hx hb dJ6_bitCount_0f7a4_21 ?_
  refine lv_iadd hx hb dJ6_bitCount_0f7a4_22 ?_
  refine lv_topi (fun t2 et2 => ?_)
  replace h := nm_at h et2
  refine lv_istore_n (lv' := [(0, .int t2)]) hx hb dJ6_bitCount_0f7a4_23 rfl hl (by decide) rfl (fun ls hl => ?_)
  refine lv_iload_n hx hb dJ6_bitCount_0f7a4_24 rfl (lv_at hl 0 rfl) ?_
  refine lv_iload_n hx hb dJ6_bitCount_0f7a4_25 rfl (lv_at hl 0 rfl) ?_
  refine lv_iconst (v := (4 : Int32)) hx hb dJ6_bitCount_0f7a4_26 (by decide) ?_
  refine lv_iushr (v := ((Int32.toUInt32 t2) >>> ((Int32.toUInt32 (4 : Int32)) &&& Int32.toUInt32 31)).toInt32) hx hb dJ6_bitCount_0f7a4_27 rfl ?_
  refine lv_iadd hx hb dJ6_bitCount_0f7a4_28 ?_
  refine lv_ldcw (v := (252645135 : Int32)) hx hb hown (hts _ q_J6_bitCount_0f7a4_3) dJ6_bitCount_0f7a4_29 ?_
  refine lv_iand hx hb dJ6_bitCount_0f7a4_32 ?_
  refine lv_topi (fun t3 et3 => ?_)
  replace h := nm_at h et3
  refine lv_istore_n (lv' := [(0, .int t3)]) hx hb dJ6_bitCount_0f7a4_33 rfl hl (by decide) rfl (fun ls hl => ?_)
  refine lv_iload_n hx hb dJ6_bitCount_0f7a4_34 rfl (lv_at hl 0 rfl) ?_
  refine lv_iload_n hx hb dJ6_bitCount_0f7a4_35 rfl (lv_at hl 0 rfl) ?_
  refine lv_bipush (v := (8 : Int32)) hx hb dJ6_bitCount_0f7a4_36 (by decide) ?_
  refine lv_iushr (v := ((Int32.toUInt32 t3) >>> ((Int32.toUInt32 (8 : Int32)) &&& Int32.toUInt32 31)).toInt32) hx hb dJ6_bitCount_0f7a4_38 rfl ?_
  refine lv_iadd hx hb dJ6_bitCount_0f7a4_39 ?_
  refine lv_topi (fun t4 et4 => ?_)
  replace h := nm_at h et4
  refine lv_istore_n (lv' := [(0, .int t4)]) hx hb dJ6_bitCount_0f7a4_40 rfl hl (by decide) rfl (fun ls hl => ?_)
  refine lv_iload_n hx hb dJ6_bitCount_0f7a4_41 rfl (lv_at hl 0 rfl) ?_
  refine lv_iload_n hx hb dJ6_bitCount_0f7a4_42 rfl (lv_at hl 0 rfl) ?_
  refine lv_bipush (v := (16 : Int32)) hx hb dJ6_bitCount_0f7a4_43 (by decide) ?_
  refine lv_iushr (v := ((Int32.toUInt32 t4) >>> ((Int32.toUInt32 (16 : Int32)) &&& Int32.toUInt32 31)).toInt32) hx hb dJ6_bitCount_0f7a4_45 rfl ?_
  refine lv_iadd hx hb dJ6_bitCount_0f7a4_46 ?_
  refine lv_topi (fun t5 et5 => ?_)
  replace h := nm_at h et5
  refine lv_istore_n (lv' := [(0, .int t5)]) hx hb dJ6_bitCount_0f7a4_47 rfl hl (by decide) rfl (fun ls hl => ?_)
  refine lv_iload_n hx hb dJ6_bitCount_0f7a4_48 rfl (lv_at hl 0 rfl) ?_
  refine lv_bipush (v := (63 : Int32)) hx hb dJ6_bitCount_0f7a4_49 (by decide) ?_
  refine lv_iand hx hb dJ6_bitCount_0f7a4_51 ?_
  obtain rfl := sm_e h
  exact rx_i hx hb hr  hP hK hD hS dJ6_bitCount_0f7a4_52 hlocks
-- X6_errorOfSet
def f_X6_errorOfSet_b29 (v_size : Int32) (v_masses_A : Nat → Int32) (v_onPan_A : Nat → Int32) (p0 : Int32) : Nat → Int32 → Int32 → Option (Int32)
  | 0, _, _ => none
  | k + 1, x2, x3 =>
    (if v_size ≤ x3 then (if x2 ≤ (1000 : Int32) then some (0 : Int32)
    else some (-2000000002 : Int32))
    else Option.bind (f_X6_isInSet p0 x3) (fun u7 => (if u7 = 0 then nm (x3 + (1 : Int32)) (fun t9 => (f_X6_errorOfSet_b29 v_size v_masses_A v_onPan_A p0 k x2 t9))
    else gA x3 8 ((if (v_onPan_A (Int32.toNatClampNeg x3)) = 0 then gA x3 8 (nm (x2 + (v_masses_A (Int32.toNatClampNeg x3))) (fun t13 => nm (x3 + (1 : Int32)) (fun t14 => (f_X6_errorOfSet_b29 v_size v_masses_A v_onPan_A p0 k t13 t14))))
    else some (-2000000002 : Int32))))))
def f_X6_errorOfSet (N : Nat) (v_size : Int32) (v_masses_A : Nat → Int32) (v_onPan_A : Nat → Int32) (p0 : Int32) : Option (Int32) :=
  (if p0 ≤ 0 then some (-2000000001 : Int32)
    else (if ((1 : Int32) <<< (v_size &&& 31)) ≤ p0 then some (-2000000001 : Int32)
    else Option.bind (f_J6_bitCount_0f7a4 p0) (fun u3 => (if u3 ≤ (5 : Int32) then (f_X6_errorOfSet_b29 v_size v_masses_A v_onPan_A p0 N (0 : Int32) (0 : Int32))
    else some (-2000000001 : Int32)))))
theorem q_X6_errorOfSet_2 : (.constant RX6 53 (-2000000001) : Cond) ∈ wsX6_errorOfSet := List.mem_of_getElem? (i := 2) (by decide +kernel)
theorem q_X6_errorOfSet_1 : (.fieldLink RX6 27 "SpringBalance$Weights" "size" "I" : Cond) ∈ wsX6_errorOfSet := List.mem_of_getElem? (i := 1) (by decide +kernel)
set_option maxRecDepth 20000 in
theorem in_X6_errorOfSet_X6 : ∀ w ∈ u_ws RX6 TX6 6, w ∈ wsX6_errorOfSet := by decide +kernel
theorem q_X6_errorOfSet_4 : (.constant RX6 72 (-2000000002) : Cond) ∈ wsX6_errorOfSet := List.mem_of_getElem? (i := 4) (by decide +kernel)
theorem q_X6_errorOfSet_3 : (.fieldLink RX6 24 "SpringBalance$Weights" "onPan" "[I" : Cond) ∈ wsX6_errorOfSet := List.mem_of_getElem? (i := 3) (by decide +kernel)
theorem q_X6_errorOfSet_5 : (.fieldLink RX6 9 "SpringBalance$Weights" "masses" "[I" : Cond) ∈ wsX6_errorOfSet := List.mem_of_getElem? (i := 5) (by decide +kernel)
set_option maxHeartbeats 8000000 in
set_option maxRecDepth 100000 in
theorem k_X6_errorOfSet (l : Launch) (D : va_G) (cI cC cJ cB : ClassId) (a_h a_h_masses a_h_errors a_h_variances a_h_parents a_h_onPan : Nat) (v_size : Int32) (v_masses_A : Nat → Int32) (v_onPan_A : Nat → Int32) (N : Nat) (p0 : Int32) (sz : Nat) (u : Int32) (hu : f_X6_errorOfSet N v_size v_masses_A v_onPan_A p0 = some u) :
    Met l yX6_errorOfSet wsX6_errorOfSet ({ frames := 1, cells := 0, slots := 0, locals := 21 } : Room) (va_Pc [.ref a_h, .int p0] (PreW D (ty4 cI cC cJ cB) sz [(a_h, .inr (6, [.ref a_h_masses, .ref a_h_errors, .ref a_h_variances, .ref a_h_parents, .ref a_h_onPan, .int v_size])), (a_h_masses, .inl (cI, 8, .inl v_masses_A)), (a_h_onPan, .inl (cI, 8, .inl v_onPan_A))]))
      (QI D (ty4 cI cC cJ cB) (va_A [(a_h, .inr (6, [.ref a_h_masses, .ref a_h_errors, .ref a_h_variances, .ref a_h_parents, .ref a_h_onPan, .int v_size])), (a_h_masses, .inl (cI, 8, .inl v_masses_A)), (a_h_onPan, .inl (cI, 8, .inl v_onPan_A))] sz) [(a_h, .inr (6, [.ref a_h_masses, .ref a_h_errors, .ref a_h_variances, .ref a_h_parents, .ref a_h_onPan, .int v_size])), (a_h_masses, .inl (cI, 8, .inl v_masses_A)), (a_h_onPan, .inl (cI, 8, .inl v_onPan_A))] u) 0 0 (va_A [(a_h, .inr (6, [.ref a_h_masses, .ref a_h_errors, .ref a_h_variances, .ref a_h_parents, .ref a_h_onPan, .int v_size])), (a_h_masses, .inl (cI, 8, .inl v_masses_A)), (a_h_onPan, .inl (cI, 8, .inl v_onPan_A))] sz) := by
  refine met_go (y := yX6_errorOfSet) (wsy := wsX6_errorOfSet) (cc := cX6_errorOfSet) (maxL := 4) (ret := (some .int)) (av := [.ref a_h, .int p0]) (Qc := fun A => QI D (ty4 cI cC cJ cB) A [(a_h, .inr (6, [.ref a_h_masses, .ref a_h_errors, .ref a_h_variances, .ref a_h_parents, .ref a_h_onPan, .int v_size])), (a_h_masses, .inl (cI, 8, .inl v_masses_A)), (a_h_onPan, .inl (cI, 8, .inl v_onPan_A))] u) (by decide) rfl (Nat.le_of_ble_eq_true rfl) ?_
  intro p e s m below meth c A ls hx hb hr hml hown hts hlocks hnm hN hK hP hD hS hA hl
  have h := hu
  clear hu
  unfold f_X6_errorOfSet at h
  have hl : lv_has ls 4 [(0, .ref a_h), (1, .int p0)] := hl
  have B29 : ∀ (k : Nat) (x2 : Int32) (x3 : Int32) (H : Heap) (locs : List Loc) (ls : Array Slot), f_X6_errorOfSet_b29 v_size v_masses_A v_onPan_A p0 k x2 x3 = some u → va_P D vwCl [(a_h, .inr (6, [.ref a_h_masses, .ref a_h_errors, .ref a_h_variances, .ref a_h_parents, .ref a_h_onPan, .int v_size])), (a_h_masses, .inl (cI, 8, .inl v_masses_A)), (a_h_onPan, .inl (cI, 8, .inl v_onPan_A))] H → va_D A [(a_h, .inr (6, [.ref a_h_masses, .ref a_h_errors, .ref a_h_variances, .ref a_h_parents, .ref a_h_onPan, .int v_size])), (a_h_masses, .inl (cI, 8, .inl v_masses_A)), (a_h_onPan, .inl (cI, 8, .inl v_onPan_A))] → va_S A s.heap H locs → lv_has ls 4 [(0, .ref a_h), (1, .int p0), (2, .int x2), (3, .int x3)] → W p l e ({ frames := 1, cells := 0, slots := 0, locals := 21 } : Room) s m ([.ref a_h, .int p0] : List Value).toArray below meth c H locs 0 0 (MQ below (QI D (ty4 cI cC cJ cB) A [(a_h, .inr (6, [.ref a_h_masses, .ref a_h_errors, .ref a_h_variances, .ref a_h_parents, .ref a_h_onPan, .int v_size])), (a_h_masses, .inl (cI, 8, .inl v_masses_A)), (a_h_onPan, .inl (cI, 8, .inl v_onPan_A))] u) ([.ref a_h, .int p0] : List Value).toArray s 0 0 A) (F0 m 29 ls []) := by
    intro k
    induction k with
    | zero =>
      intro x2 x3 H locs ls h
      exact nomatch (show (none : Option (Int32)) = some u from h)
    | succ k ih =>
      intro x2 x3 H locs ls h hP hD hS hl
      rw [f_X6_errorOfSet_b29.eq_2] at h
      refine lv_iload_n hx hb dX6_errorOfSet_29 rfl (lv_at hl 3 rfl) ?_
      refine lv_aload_n hx hb dX6_errorOfSet_30 rfl (lv_at hl 0 rfl) ?_
      refine va_get (D := D) (ci := 6) (v := .int v_size) (C := RX6) (T := TX6) (N := 6) hx hb hts in_X6_errorOfSet_X6 hown hK hP 0 rfl rfl 5 (by decide) (hts _ q_X6_errorOfSet_1) (fun _ h9 => h9) rfl dX6_errorOfSet_31 ?_
      refine lv_icmp_ge (tgt := 72) hx hb dX6_errorOfSet_34 (by decide) (fun hc5 => ?_) (fun hc5 => ?_)
      · replace h := it_e hc5 h
        refine lv_iload_n hx hb dX6_errorOfSet_72 rfl (lv_at hl 2 rfl) ?_
        refine lv_sipush (v := (1000 : Int32)) hx hb dX6_errorOfSet_73 (by decide) ?_
        refine lv_icmp_le (tgt := 84) hx hb dX6_errorOfSet_76 (by decide) (fun hc6 => ?_) (fun hc6 => ?_)
        · replace h := it_e hc6 h
          refine lv_iconst (v := (0 : Int32)) hx hb dX6_errorOfSet_84 (by decide) ?_
          obtain rfl := sm_e h
          exact rx_i hx hb hr  hP hK hD hS dX6_errorOfSet_85 hlocks
        · replace h := if_e hc6 h
          refine lv_ldc (v := (-2000000002 : Int32)) hx hb hown (hts _ q_X6_errorOfSet_4) dX6_errorOfSet_79 ?_
          refine lv_goto (tgt := 85) hx hb dX6_errorOfSet_81 (by decide) ?_
          obtain rfl := sm_e h
          exact rx_i hx hb hr  hP hK hD hS dX6_errorOfSet_85 hlocks
      · replace h := if_e hc5 h
        refine lv_iload_n hx hb dX6_errorOfSet_37 rfl (lv_at hl 1 rfl) ?_
        refine lv_iload_n hx hb dX6_errorOfSet_38 rfl (lv_at hl 3 rfl) ?_
        obtain ⟨u7, hu7, h⟩ := bd_e h
        refine kx_i (mc := 0) (ms := 0) (wr := [(a_h, .inr (6, [.ref a_h_masses, .ref a_h_errors, .ref a_h_variances, .ref a_h_parents, .ref a_h_onPan, .int v_size])), (a_h_masses, .inl (cI, 8, .inl v_masses_A)), (a_h_onPan, .inl (cI, 8, .inl v_onPan_A))]) (ws2 := [(a_h, .inr (6, [.ref a_h_masses, .ref a_h_errors, .ref a_h_variances, .ref a_h_parents, .ref a_h_onPan, .int v_size])), (a_h_masses, .inl (cI, 8, .inl v_masses_A)), (a_h_onPan, .inl (cI, 8, .inl v_onPan_A))]) (va_runS (As := [.int p0, .int x3]) (rest := []) ⟨hx, hb, hml, hown, hts⟩ (k_X6_isInSet l D cI cC cJ cB N p0 x3 H.size _ hu7) (va_cwS 2 hts gX6_errorOfSet_X6_isInSet rfl rfl rfl (by decide +kernel) ⟨Nat.le_of_ble_eq_true rfl, Nat.le_of_ble_eq_true rfl⟩) (pv_S hP hD hK hN [] rfl rfl) rfl rfl hl.1 rfl (lv_room (Nat.le_of_ble_eq_true rfl)) dX6_errorOfSet_39 ⟨Nat.zero_le _, Nat.zero_le _⟩) hP hD hS hA [] [0, 1, 2] [0, 1, 2] rfl rfl rfl rfl rfl rfl (fun H locs hP hD hS => ?_)
        refine lv_if_eq (tgt := 66) hx hb dX6_errorOfSet_42 (by decide) (fun hc8 => ?_) (fun hc8 => ?_)
        · replace h := it_e hc8 h
          obtain ⟨t9, et9, h⟩ := nm_x h
          refine lv_iinc (v := t9) (lv' := [(3, .int t9), (0, .ref a_h), (1, .int p0), (2, .int x2)]) hx hb dX6_errorOfSet_66 hl (k := 3) rfl (by rw [et9]; rfl) (by decide) rfl (fun ls hl => ?_)
          refine lv_goto (tgt := 29) hx hb dX6_errorOfSet_69 (by decide) ?_
          exact ih x2 t9 _ _ _ h hP hD hS (lv_sub hl [1, 2, 3, 0] rfl)
        · replace h := if_e hc8 h
          refine lv_aload_n hx hb dX6_errorOfSet_45 rfl (lv_at hl 0 rfl) ?_
          refine va_get (D := D) (ci := 6) (v := .ref a_h_onPan) (C := RX6) (T := TX6) (N := 6) hx hb hts in_X6_errorOfSet_X6 hown hK hP 0 rfl rfl 4 (by decide) (hts _ q_X6_errorOfSet_3) (fun _ h9 => h9) rfl dX6_errorOfSet_46 ?_
          refine lv_iload_n hx hb dX6_errorOfSet_49 rfl (lv_at hl 3 rfl) ?_
          obtain ⟨hi10, h⟩ := gA_e h
          refine wx_iald hx hb hK hP 2 0 rfl rfl (Int32.toNatClampNeg x3) rfl hi10 dX6_errorOfSet_50 ?_
          refine lv_if_eq (tgt := 57) hx hb dX6_errorOfSet_51 (by decide) (fun hc11 => ?_) (fun hc11 => ?_)
          · replace h := it_e hc11 h
            refine lv_iload_n hx hb dX6_errorOfSet_57 rfl (lv_at hl 2 rfl) ?_
            refine lv_aload_n hx hb dX6_errorOfSet_58 rfl (lv_at hl 0 rfl) ?_
            refine va_get (D := D) (ci := 6) (v := .ref a_h_masses) (C := RX6) (T := TX6) (N := 6) hx hb hts in_X6_errorOfSet_X6 hown hK hP 0 rfl rfl 0 (by decide) (hts _ q_X6_errorOfSet_5) (fun _ h9 => h9) rfl dX6_errorOfSet_59 ?_
            refine lv_iload_n hx hb dX6_errorOfSet_62 rfl (lv_at hl 3 rfl) ?_
            obtain ⟨hi12, h⟩ := gA_e h
            refine wx_iald hx hb hK hP 1 0 rfl rfl (Int32.toNatClampNeg x3) rfl hi12 dX6_errorOfSet_63 ?_
            refine lv_iadd hx hb dX6_errorOfSet_64 ?_
            refine lv_topi (fun t13 et13 => ?_)
            replace h := nm_at h et13
            refine lv_istore_n (lv' := [(2, .int t13), (0, .ref a_h), (1, .int p0), (3, .int x3)]) hx hb dX6_errorOfSet_65 rfl hl (by decide) rfl (fun ls hl => ?_)
            obtain ⟨t14, et14, h⟩ := nm_x h
            refine lv_iinc (v := t14) (lv' := [(3, .int t14), (2, .int t13), (0, .ref a_h), (1, .int p0)]) hx hb dX6_errorOfSet_66 hl (k := 3) rfl (by rw [et14]; rfl) (by decide) rfl (fun ls hl => ?_)
            refine lv_goto (tgt := 29) hx hb dX6_errorOfSet_69 (by decide) ?_
            exact ih t13 t14 _ _ _ h hP hD hS (lv_sub hl [2, 3, 1, 0] rfl)
          · replace h := if_e hc11 h
            refine lv_ldc (v := (-2000000002 : Int32)) hx hb hown (hts _ q_X6_errorOfSet_4) dX6_errorOfSet_54 ?_
            obtain rfl := sm_e h
            exact rx_i hx hb hr  hP hK hD hS dX6_errorOfSet_56 hlocks
  refine lv_iload_n hx hb dX6_errorOfSet_0 rfl (lv_at hl 1 rfl) ?_
  refine lv_if_le (tgt := 22) hx hb dX6_errorOfSet_1 (by decide) (fun hc1 => ?_) (fun hc1 => ?_)
  · replace h := it_e hc1 h
    refine lv_ldc (v := (-2000000001 : Int32)) hx hb hown (hts _ q_X6_errorOfSet_2) dX6_errorOfSet_22 ?_
    obtain rfl := sm_e h
    exact rx_i hx hb hr  hP hK hD hS dX6_errorOfSet_24 hlocks
  · replace h := if_e hc1 h
    refine lv_iload_n hx hb dX6_errorOfSet_4 rfl (lv_at hl 1 rfl) ?_
    refine lv_iconst (v := (1 : Int32)) hx hb dX6_errorOfSet_5 (by decide) ?_
    refine lv_aload_n hx hb dX6_errorOfSet_6 rfl (lv_at hl 0 rfl) ?_
    refine va_get (D := D) (ci := 6) (v := .int v_size) (C := RX6) (T := TX6) (N := 6) hx hb hts in_X6_errorOfSet_X6 hown hK hP 0 rfl rfl 5 (by decide) (hts _ q_X6_errorOfSet_1) (fun _ h9 => h9) rfl dX6_errorOfSet_7 ?_
    refine lv_ishl hx hb dX6_errorOfSet_10 ?_
    refine lv_icmp_ge (tgt := 22) hx hb dX6_errorOfSet_11 (by decide) (fun hc2 => ?_) (fun hc2 => ?_)
    · replace h := it_e hc2 h
      refine lv_ldc (v := (-2000000001 : Int32)) hx hb hown (hts _ q_X6_errorOfSet_2) dX6_errorOfSet_22 ?_
      obtain rfl := sm_e h
      exact rx_i hx hb hr  hP hK hD hS dX6_errorOfSet_24 hlocks
    · replace h := if_e hc2 h
      refine lv_iload_n hx hb dX6_errorOfSet_14 rfl (lv_at hl 1 rfl) ?_
      obtain ⟨u3, hu3, h⟩ := bd_e h
      refine kx_i (mc := 0) (ms := 0) (wr := [(a_h, .inr (6, [.ref a_h_masses, .ref a_h_errors, .ref a_h_variances, .ref a_h_parents, .ref a_h_onPan, .int v_size])), (a_h_masses, .inl (cI, 8, .inl v_masses_A)), (a_h_onPan, .inl (cI, 8, .inl v_onPan_A))]) (ws2 := [(a_h, .inr (6, [.ref a_h_masses, .ref a_h_errors, .ref a_h_variances, .ref a_h_parents, .ref a_h_onPan, .int v_size])), (a_h_masses, .inl (cI, 8, .inl v_masses_A)), (a_h_onPan, .inl (cI, 8, .inl v_onPan_A))]) (va_runS (As := [.int p0]) (rest := []) ⟨hx, hb, hml, hown, hts⟩ (k_J6_bitCount_0f7a4 l D cI cC cJ cB N p0 s.heap.size _ hu3) (va_cwS 1 hts gX6_errorOfSet_J6_bitCount_0f7a4 rfl rfl rfl (by decide +kernel) ⟨Nat.le_of_ble_eq_true rfl, Nat.le_of_ble_eq_true rfl⟩) (pv_S hP hD hK hN [] rfl rfl) rfl rfl hl.1 rfl (lv_room (Nat.le_of_ble_eq_true rfl)) dX6_errorOfSet_15 ⟨Nat.zero_le _, Nat.zero_le _⟩) hP hD hS hA [] [0, 1, 2] [0, 1, 2] rfl rfl rfl rfl rfl rfl (fun H locs hP hD hS => ?_)
      refine lv_iconst (v := (5 : Int32)) hx hb dX6_errorOfSet_18 (by decide) ?_
      refine lv_icmp_le (tgt := 25) hx hb dX6_errorOfSet_19 (by decide) (fun hc4 => ?_) (fun hc4 => ?_)
      · replace h := it_e hc4 h
        refine lv_iconst (v := (0 : Int32)) hx hb dX6_errorOfSet_25 (by decide) ?_
        refine lv_istore_n (lv' := [(2, .int (0 : Int32)), (0, .ref a_h), (1, .int p0)]) hx hb dX6_errorOfSet_26 rfl hl (by decide) rfl (fun ls hl => ?_)
        refine lv_iconst (v := (0 : Int32)) hx hb dX6_errorOfSet_27 (by decide) ?_
        refine lv_istore_n (lv' := [(3, .int (0 : Int32)), (2, .int (0 : Int32)), (0, .ref a_h), (1, .int p0)]) hx hb dX6_errorOfSet_28 rfl hl (by decide) rfl (fun ls hl => ?_)
        exact B29 N (0 : Int32) (0 : Int32) _ _ _ h hP hD hS (lv_sub hl [2, 3, 1, 0] rfl)
      · replace h := if_e hc4 h
        refine lv_ldc (v := (-2000000001 : Int32)) hx hb hown (hts _ q_X6_errorOfSet_2) dX6_errorOfSet_22 ?_
        obtain rfl := sm_e h
        exact rx_i hx hb hr  hP hK hD hS dX6_errorOfSet_24 hlocks
