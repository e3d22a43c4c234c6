-- X8_chained
def f_X8_chained_b5 (v_d_A : Nat → Int32) (p1 : Int32) : Nat → Int32 → Int32 → Option (Int32)
  | 0, _, _ => none
  | k + 1, x3, x4 =>
    (if x4 < 0 then some x3
    else (if 0 ≤ p1 then gA (p1 + x4) 2086 (nm (x3 + (v_d_A (Int32.toNatClampNeg (p1 + x4)))) (fun t4 => gA ((66 : Int32) + x4) 2086 (nm (v_d_A (Int32.toNatClampNeg ((66 : Int32) + x4))) (fun t6 => (f_X8_chained_b5 v_d_A p1 k t4 t6)))))
    else nm (x3 + (1 : Int32)) (fun t7 => gA ((66 : Int32) + x4) 2086 (nm (v_d_A (Int32.toNatClampNeg ((66 : Int32) + x4))) (fun t9 => (f_X8_chained_b5 v_d_A p1 k t7 t9))))))
def f_X8_chained (N : Nat) (v_d_A : Nat → Int32) (p0 : Int32) (p1 : Int32) : Option (Int32) :=
  (f_X8_chained_b5 v_d_A p1 N (0 : Int32) p0)
theorem q_X8_chained_1 : (.fieldLink RX8 7 "SpringBalanceModel" "d" "[I" : Cond) ∈ wsX8_chained := List.mem_of_getElem? (i := 1) (by decide +kernel)
set_option maxRecDepth 20000 in
theorem in_X8_chained_X8 : ∀ w ∈ u_ws RX8 TX8 14, w ∈ wsX8_chained := by decide +kernel
set_option maxHeartbeats 8000000 in
set_option maxRecDepth 100000 in
theorem k_X8_chained (l : Launch) (D : va_G) (cI cC cJ cB : ClassId) (a_h a_h_d a_h_was a_h_accounts a_h_text a_h_aside a_h_places a_h_told : Nat) (v_account : Int64) (v_states : Int32) (v_refused : Int32) (v_typed : Int32) (v_at : Int32) (v_sign : Int32) (v_number : Int32) (v_d_A : Nat → Int32) (N : Nat) (p0 : Int32) (p1 : Int32) (sz : Nat) (u : Int32) (hu : f_X8_chained N v_d_A p0 p1 = some u) :
    Met l yX8_chained wsX8_chained ({ frames := 0, cells := 0, slots := 0, locals := 0 } : Room) (va_Pc [.ref a_h, .int p0, .int p1] (PreW D (ty4 cI cC cJ cB) sz [(a_h, .inr (8, [.ref a_h_d, .long v_account, .ref a_h_was, .ref a_h_accounts, .int v_states, .int v_refused, .ref a_h_text, .int v_typed, .int v_at, .int v_sign, .int v_number, .ref a_h_aside, .ref a_h_places, .ref a_h_told])), (a_h_d, .inl (cI, 2086, .inl v_d_A))]))
      (QI D (ty4 cI cC cJ cB) (va_A [(a_h, .inr (8, [.ref a_h_d, .long v_account, .ref a_h_was, .ref a_h_accounts, .int v_states, .int v_refused, .ref a_h_text, .int v_typed, .int v_at, .int v_sign, .int v_number, .ref a_h_aside, .ref a_h_places, .ref a_h_told])), (a_h_d, .inl (cI, 2086, .inl v_d_A))] sz) [(a_h, .inr (8, [.ref a_h_d, .long v_account, .ref a_h_was, .ref a_h_accounts, .int v_states, .int v_refused, .ref a_h_text, .int v_typed, .int v_at, .int v_sign, .int v_number, .ref a_h_aside, .ref a_h_places, .ref a_h_told])), (a_h_d, .inl (cI, 2086, .inl v_d_A))] u) 0 0 (va_A [(a_h, .inr (8, [.ref a_h_d, .long v_account, .ref a_h_was, .ref a_h_accounts, .int v_states, .int v_refused, .ref a_h_text, .int v_typed, .int v_at, .int v_sign, .int v_number, .ref a_h_aside, .ref a_h_places, .ref a_h_told])), (a_h_d, .inl (cI, 2086, .inl v_d_A))] sz) := by
  refine met_go (y := yX8_chained) (wsy := wsX8_chained) (cc := cX8_chained) (maxL := 5) (ret := (some .int)) (av := [.ref a_h, .int p0, .int p1]) (Qc := fun A => QI D (ty4 cI cC cJ cB) A [(a_h, .inr (8, [.ref a_h_d, .long v_account, .ref a_h_was, .ref a_h_accounts, .int v_states, .int v_refused, .ref a_h_text, .int v_typed, .int v_at, .int v_sign, .int v_number, .ref a_h_aside, .ref a_h_places, .ref a_h_told])), (a_h_d, .inl (cI, 2086, .inl v_d_A))] u) (by decide) rfl (Nat.le_of_ble_eq_true rfl) ?_
  intro p e s m below meth c A ls hx hb hr hml hown hts hlocks hnm hN hK hP hD hS hA hl
  have h := hu
  clear hu
  unfold f_X8_chained at h
  have hl : lv_has ls 5 [(0, .ref a_h), (1, .int p0), (2, .int p1)] := hl
  have B5 : ∀ (k : Nat) (x3 : Int32) (x4 : Int32) (H : Heap) (locs : List Loc) (ls : Array Slot), f_X8_chained_b5 v_d_A p1 k x3 x4 = some u → va_P D vwCl [(a_h, .inr (8, [.ref a_h_d, .long v_account, .ref a_h_was, .ref a_h_accounts, .int v_states, .int v_refused, .ref a_h_text, .int v_typed, .int v_at, .int v_sign, .int v_number, .ref a_h_aside, .ref a_h_places, .ref a_h_told])), (a_h_d, .inl (cI, 2086, .inl v_d_A))] H → va_D A [(a_h, .inr (8, [.ref a_h_d, .long v_account, .ref a_h_was, .ref a_h_accounts, .int v_states, .int v_refused, .ref a_h_text, .int v_typed, .int v_at, .int v_sign, .int v_number, .ref a_h_aside, .ref a_h_places, .ref a_h_told])), (a_h_d, .inl (cI, 2086, .inl v_d_A))] → va_S A s.heap H locs → lv_has ls 5 [(0, .ref a_h), (1, .int p0), (2, .int p1), (3, .int x3), (4, .int x4)] → W p l e ({ frames := 0, cells := 0, slots := 0, locals := 0 } : Room) s m ([.ref a_h, .int p0, .int p1] : List Value).toArray below meth c H locs 0 0 (MQ below (QI D (ty4 cI cC cJ cB) A [(a_h, .inr (8, [.ref a_h_d, .long v_account, .ref a_h_was, .ref a_h_accounts, .int v_states, .int v_refused, .ref a_h_text, .int v_typed, .int v_at, .int v_sign, .int v_number, .ref a_h_aside, .ref a_h_places, .ref a_h_told])), (a_h_d, .inl (cI, 2086, .inl v_d_A))] u) ([.ref a_h, .int p0, .int p1] : List Value).toArray s 0 0 A) (F0 m 5 ls []) := by
    intro k
    induction k with
    | zero =>
      intro x3 x4 H locs ls h
      exact nomatch (show (none : Option (Int32)) = some u from h)
    | succ k ih =>
      intro x3 x4 H locs ls h hP hD hS hl
      rw [f_X8_chained_b5.eq_2] at h
      refine lv_iload hx hb dX8_chained_5 (lv_at hl 4 rfl) ?_
      refine lv_if_lt (tgt := 45) hx hb dX8_chained_7 (by decide) (fun hc1 => ?_) (fun hc1 => ?_)
      · replace h := it_e hc1 h
        refine lv_iload_n hx hb dX8_chained_45 rfl (lv_at hl 3 rfl) ?_
        obtain rfl := sm_e h
        exact rx_i hx hb hr  hP hK hD hS dX8_chained_46 hlocks
      · replace h := if_e hc1 h
        refine lv_iload_n hx hb dX8_chained_10 rfl (lv_at hl 3 rfl) ?_
        refine lv_iload_n hx hb dX8_chained_11 rfl (lv_at hl 2 rfl) ?_
        refine lv_if_ge (tgt := 19) hx hb dX8_chained_12 (by decide) (fun hc2 => ?_) (fun hc2 => ?_)
        · replace h := it_e hc2 h
          refine lv_aload_n hx hb dX8_chained_19 rfl (lv_at hl 0 rfl) ?_
          refine va_get (D := D) (ci := 8) (v := .ref a_h_d) (C := RX8) (T := TX8) (N := 14) hx hb hts in_X8_chained_X8 hown hK hP 0 rfl rfl 0 (by decide) (hts _ q_X8_chained_1) (fun _ h9 => h9) rfl dX8_chained_20 ?_
          refine lv_iload_n hx hb dX8_chained_23 rfl (lv_at hl 2 rfl) ?_
          refine lv_iload hx hb dX8_chained_24 (lv_at hl 4 rfl) ?_
          refine lv_iadd hx hb dX8_chained_26 ?_
          obtain ⟨hi3, h⟩ := gA_e h
          refine wx_iald hx hb hK hP 1 0 rfl rfl (Int32.toNatClampNeg (p1 + x4)) rfl hi3 dX8_chained_27 ?_
          refine lv_iadd hx hb dX8_chained_28 ?_
          refine lv_topi (fun t4 et4 => ?_)
          replace h := nm_at h et4
          refine lv_istore_n (lv' := [(3, .int t4), (0, .ref a_h), (1, .int p0), (2, .int p1), (4, .int x4)]) hx hb dX8_chained_29 rfl hl (by decide) rfl (fun ls hl => ?_)
          refine lv_aload_n hx hb dX8_chained_30 rfl (lv_at hl 1 rfl) ?_
          refine va_get (D := D) (ci := 8) (v := .ref a_h_d) (C := RX8) (T := TX8) (N := 14) hx hb hts in_X8_chained_X8 hown hK hP 0 rfl rfl 0 (by decide) (hts _ q_X8_chained_1) (fun _ h9 => h9) rfl dX8_chained_31 ?_
          refine lv_bipush (v := (66 : Int32)) hx hb dX8_chained_34 (by decide) ?_
          refine lv_iload hx hb dX8_chained_36 (lv_at hl 4 rfl) ?_
          refine lv_iadd hx hb dX8_chained_38 ?_
          obtain ⟨hi5, h⟩ := gA_e h
          refine wx_iald hx hb hK hP 1 0 rfl rfl (Int32.toNatClampNeg ((66 : Int32) + x4)) rfl hi5 dX8_chained_39 ?_
          refine lv_topi (fun t6 et6 => ?_)
          replace h := nm_at h et6
          refine lv_istore (lv' := [(4, .int t6), (3, .int t4), (0, .ref a_h), (1, .int p0), (2, .int p1)]) hx hb dX8_chained_40 hl (by decide) rfl (fun ls hl => ?_)
          refine lv_goto (tgt := 5) hx hb dX8_chained_42 (by decide) ?_
          exact ih t4 t6 _ _ _ h hP hD hS (lv_sub hl [2, 3, 4, 1, 0] rfl)
        · replace h := if_e hc2 h
          refine lv_iconst (v := (1 : Int32)) hx hb dX8_chained_15 (by decide) ?_
          refine lv_goto (tgt := 28) hx hb dX8_chained_16 (by decide) ?_
          refine lv_iadd hx hb dX8_chained_28 ?_
          refine lv_topi (fun t7 et7 => ?_)
          replace h := nm_at h et7
          refine lv_istore_n (lv' := [(3, .int t7), (0, .ref a_h), (1, .int p0), (2, .int p1), (4, .int x4)]) hx hb dX8_chained_29 rfl hl (by decide) rfl (fun ls hl => ?_)
          refine lv_aload_n hx hb dX8_chained_30 rfl (lv_at hl 1 rfl) ?_
          refine va_get (D := D) (ci := 8) (v := .ref a_h_d) (C := RX8) (T := TX8) (N := 14) hx hb hts in_X8_chained_X8 hown hK hP 0 rfl rfl 0 (by decide) (hts _ q_X8_chained_1) (fun _ h9 => h9) rfl dX8_chained_31 ?_
          refine lv_bipush (v := (66 : Int32)) hx hb dX8_chained_34 (by decide) ?_
          refine lv_iload hx hb dX8_chained_36 (lv_at hl 4 rfl) ?_
          refine lv_iadd hx hb dX8_chained_38 ?_
          obtain ⟨hi8, h⟩ := gA_e h
          refine wx_iald hx hb hK hP 1 0 rfl rfl (Int32.toNatClampNeg ((66 : Int32) + x4)) rfl hi8 dX8_chained_39 ?_
          refine lv_topi (fun t9 et9 => ?_)
          replace h := nm_at h et9
          refine lv_istore (lv' := [(4, .int t9), (3, .int t7), (0, .ref a_h), (1, .int p0), (2, .int p1)]) hx hb dX8_chained_40 hl (by decide) rfl (fun ls hl => ?_)
          refine lv_goto (tgt := 5) hx hb dX8_chained_42 (by decide) ?_
          exact ih t7 t9 _ _ _ h hP hD hS (lv_sub hl [2, 3, 4, 1, 0] rfl)
  refine lv_iconst (v := (0 : Int32)) hx hb dX8_chained_0 (by decide) ?_
  refine lv_istore_n (lv' := [(3, .int (0 : Int32)), (0, .ref a_h), (1, .int p0), (2, .int p1)]) hx hb dX8_chained_1 rfl hl (by decide) rfl (fun ls hl => ?_)
  refine lv_iload_n hx hb dX8_chained_2 rfl (lv_at hl 2 rfl) ?_
  refine lv_istore (lv' := [(4, .int p0), (3, .int (0 : Int32)), (0, .ref a_h), (1, .int p0), (2, .int p1)]) hx hb dX8_chained_3 hl (by decide) rfl (fun ls hl => ?_)
  exact B5 N (0 : Int32) p0 _ _ _ h hP hD hS (lv_sub hl [2, 3, 4, 1, 0] rfl)
-- X8_isTraced
def f_X8_isTraced_b5 (v_d_A : Nat → Int32) (p1 : Int32) : Nat → Int32 → Int32 → Option (Int32)
  | 0, _, _ => none
  | k + 1, x3, x4 =>
    (if x4 < 0 then gT (x3 = 0 ∨ x3 = 1) (some x3)
    else (if ¬ x3 = 0 then gA ((66 : Int32) + x4) 2086 (nm (v_d_A (Int32.toNatClampNeg ((66 : Int32) + x4))) (fun t5 => (f_X8_isTraced_b5 v_d_A p1 k (1 : Int32) t5)))
    else (if ¬ x4 = p1 then gA ((66 : Int32) + x4) 2086 (nm (v_d_A (Int32.toNatClampNeg ((66 : Int32) + x4))) (fun t8 => (f_X8_isTraced_b5 v_d_A p1 k (0 : Int32) t8)))
    else gA ((66 : Int32) + x4) 2086 (nm (v_d_A (Int32.toNatClampNeg ((66 : Int32) + x4))) (fun t10 => (f_X8_isTraced_b5 v_d_A p1 k (1 : Int32) t10))))))
def f_X8_isTraced (N : Nat) (v_d_A : Nat → Int32) (p0 : Int32) (p1 : Int32) : Option (Int32) :=
  (f_X8_isTraced_b5 v_d_A p1 N (0 : Int32) p0)
theorem q_X8_isTraced_1 : (.fieldLink RX8 7 "SpringBalanceModel" "d" "[I" : Cond) ∈ wsX8_isTraced := List.mem_of_getElem? (i := 1) (by decide +kernel)
set_option maxRecDepth 20000 in
theorem in_X8_isTraced_X8 : ∀ w ∈ u_ws RX8 TX8 14, w ∈ wsX8_isTraced := by decide +kernel
set_option maxHeartbeats 8000000 in
set_option maxRecDepth 100000 in
theorem k_X8_isTraced (l : Launch) (D : va_G) (cI cC cJ cB : ClassId) (a_h a_h_d a_h_was a_h_accounts a_h_text a_h_aside a_h_places a_h_told : Nat) (v_account : Int64) (v_states : Int32) (v_refused : Int32) (v_typed : Int32) (v_at : Int32) (v_sign : Int32) (v_number : Int32) (v_d_A : Nat → Int32) (N : Nat) (p0 : Int32) (p1 : Int32) (sz : Nat) (u : Int32) (hu : f_X8_isTraced N v_d_A p0 p1 = some u) :
    Met l yX8_isTraced wsX8_isTraced ({ frames := 0, cells := 0, slots := 0, locals := 0 } : Room) (va_Pc [.ref a_h, .int p0, .int p1] (PreW D (ty4 cI cC cJ cB) sz [(a_h, .inr (8, [.ref a_h_d, .long v_account, .ref a_h_was, .ref a_h_accounts, .int v_states, .int v_refused, .ref a_h_text, .int v_typed, .int v_at, .int v_sign, .int v_number, .ref a_h_aside, .ref a_h_places, .ref a_h_told])), (a_h_d, .inl (cI, 2086, .inl v_d_A))]))
      (QI D (ty4 cI cC cJ cB) (va_A [(a_h, .inr (8, [.ref a_h_d, .long v_account, .ref a_h_was, .ref a_h_accounts, .int v_states, .int v_refused, .ref a_h_text, .int v_typed, .int v_at, .int v_sign, .int v_number, .ref a_h_aside, .ref a_h_places, .ref a_h_told])), (a_h_d, .inl (cI, 2086, .inl v_d_A))] sz) [(a_h, .inr (8, [.ref a_h_d, .long v_account, .ref a_h_was, .ref a_h_accounts, .int v_states, .int v_refused, .ref a_h_text, .int v_typed, .int v_at, .int v_sign, .int v_number, .ref a_h_aside, .ref a_h_places, .ref a_h_told])), (a_h_d, .inl (cI, 2086, .inl v_d_A))] u) 0 0 (va_A [(a_h, .inr (8, [.ref a_h_d, .long v_account, .ref a_h_was, .ref a_h_accounts, .int v_states, .int v_refused, .ref a_h_text, .int v_typed, .int v_at, .int v_sign, .int v_number, .ref a_h_aside, .ref a_h_places, .ref a_h_told])), (a_h_d, .inl (cI, 2086, .inl v_d_A))] sz) := by
  refine met_go (y := yX8_isTraced) (wsy := wsX8_isTraced) (cc := cX8_isTraced) (maxL := 5) (ret := (some .boolean)) (av := [.ref a_h, .int p0, .int p1]) (Qc := fun A => QI D (ty4 cI cC cJ cB) A [(a_h, .inr (8, [.ref a_h_d, .long v_account, .ref a_h_was, .ref a_h_accounts, .int v_states, .int v_refused, .ref a_h_text, .int v_typed, .int v_at, .int v_sign, .int v_number, .ref a_h_aside, .ref a_h_places, .ref a_h_told])), (a_h_d, .inl (cI, 2086, .inl v_d_A))] u) (by decide) rfl (Nat.le_of_ble_eq_true rfl) ?_
  intro p e s m below meth c A ls hx hb hr hml hown hts hlocks hnm hN hK hP hD hS hA hl
  have h := hu
  clear hu
  unfold f_X8_isTraced at h
  have hl : lv_has ls 5 [(0, .ref a_h), (1, .int p0), (2, .int p1)] := hl
  have B5 : ∀ (k : Nat) (x3 : Int32) (x4 : Int32) (H : Heap) (locs : List Loc) (ls : Array Slot), f_X8_isTraced_b5 v_d_A p1 k x3 x4 = some u → va_P D vwCl [(a_h, .inr (8, [.ref a_h_d, .long v_account, .ref a_h_was, .ref a_h_accounts, .int v_states, .int v_refused, .ref a_h_text, .int v_typed, .int v_at, .int v_sign, .int v_number, .ref a_h_aside, .ref a_h_places, .ref a_h_told])), (a_h_d, .inl (cI, 2086, .inl v_d_A))] H → va_D A [(a_h, .inr (8, [.ref a_h_d, .long v_account, .ref a_h_was, .ref a_h_accounts, .int v_states, .int v_refused, .ref a_h_text, .int v_typed, .int v_at, .int v_sign, .int v_number, .ref a_h_aside, .ref a_h_places, .ref a_h_told])), (a_h_d, .inl (cI, 2086, .inl v_d_A))] → va_S A s.heap H locs → lv_has ls 5 [(0, .ref a_h), (1, .int p0), (2, .int p1), (3, .int x3), (4, .int x4)] → W p l e ({ frames := 0, cells := 0, slots := 0, locals := 0 } : Room) s m ([.ref a_h, .int p0, .int p1] : List Value).toArray below meth c H locs 0 0 (MQ below (QI D (ty4 cI cC cJ cB) A [(a_h, .inr (8, [.ref a_h_d, .long v_account, .ref a_h_was, .ref a_h_accounts, .int v_states, .int v_refused, .ref a_h_text, .int v_typed, .int v_at, .int v_sign, .int v_number, .ref a_h_aside, .ref a_h_places, .ref a_h_told])), (a_h_d, .inl (cI, 2086, .inl v_d_A))] u) ([.ref a_h, .int p0, .int p1] : List Value).toArray s 0 0 A) (F0 m 5 ls []) := by
    intro k
    induction k with
    | zero =>
      intro x3 x4 H locs ls h
      exact nomatch (show (none : Option (Int32)) = some u from h)
    | succ k ih =>
      intro x3 x4 H locs ls h hP hD hS hl
      rw [f_X8_isTraced_b5.eq_2] at h
      refine lv_iload hx hb dX8_isTraced_5 (lv_at hl 4 rfl) ?_
      refine lv_if_lt (tgt := 41) hx hb dX8_isTraced_7 (by decide) (fun hc1 => ?_) (fun hc1 => ?_)
      · replace h := it_e hc1 h
        refine lv_iload_n hx hb dX8_isTraced_41 rfl (lv_at hl 3 rfl) ?_
        obtain ⟨hz2, h⟩ := gT_e h
        obtain rfl := sm_e h
        exact rx_z hx hb hr (nar_z hz2) hP hK hD hS dX8_isTraced_42 hlocks
      · replace h := if_e hc1 h
        refine lv_iload_n hx hb dX8_isTraced_10 rfl (lv_at hl 3 rfl) ?_
        refine lv_if_ne (tgt := 20) hx hb dX8_isTraced_11 (by decide) (fun hc3 => ?_) (fun hc3 => ?_)
        · replace h := it_e hc3 h
          refine lv_iconst (v := (1 : Int32)) hx hb dX8_isTraced_20 (by decide) ?_
          refine lv_goto (tgt := 25) hx hb dX8_isTraced_21 (by decide) ?_
          refine lv_istore_n (lv' := [(3, .int (1 : Int32)), (0, .ref a_h), (1, .int p0), (2, .int p1), (4, .int x4)]) hx hb dX8_isTraced_25 rfl hl (by decide) rfl (fun ls hl => ?_)
          refine lv_aload_n hx hb dX8_isTraced_26 rfl (lv_at hl 1 rfl) ?_
          refine va_get (D := D) (ci := 8) (v := .ref a_h_d) (C := RX8) (T := TX8) (N := 14) hx hb hts in_X8_isTraced_X8 hown hK hP 0 rfl rfl 0 (by decide) (hts _ q_X8_isTraced_1) (fun _ h9 => h9) rfl dX8_isTraced_27 ?_
          refine lv_bipush (v := (66 : Int32)) hx hb dX8_isTraced_30 (by decide) ?_
          refine lv_iload hx hb dX8_isTraced_32 (lv_at hl 4 rfl) ?_
          refine lv_iadd hx hb dX8_isTraced_34 ?_
          obtain ⟨hi4, h⟩ := gA_e h
          refine wx_iald hx hb hK hP 1 0 rfl rfl (Int32.toNatClampNeg ((66 : Int32) + x4)) rfl hi4 dX8_isTraced_35 ?_
          refine lv_topi (fun t5 et5 => ?_)
          replace h := nm_at h et5
          refine lv_istore (lv' := [(4, .int t5), (3, .int (1 : Int32)), (0, .ref a_h), (1, .int p0), (2, .int p1)]) hx hb dX8_isTraced_36 hl (by decide) rfl (fun ls hl => ?_)
          refine lv_goto (tgt := 5) hx hb dX8_isTraced_38 (by decide) ?_
          exact ih (1 : Int32) t5 _ _ _ h hP hD hS (lv_sub hl [2, 3, 4, 1, 0] rfl)
        · replace h := in_e hc3 h
          refine lv_iload hx hb dX8_isTraced_14 (lv_at hl 4 rfl) ?_
          refine lv_iload_n hx hb dX8_isTraced_16 rfl (lv_at hl 2 rfl) ?_
          refine lv_icmp_ne (tgt := 24) hx hb dX8_isTraced_17 (by decide) (fun hc6 => ?_) (fun hc6 => ?_)
          · replace h := it_e hc6 h
            refine lv_iconst (v := (0 : Int32)) hx hb dX8_isTraced_24 (by decide) ?_
            refine lv_istore_n (lv' := [(3, .int (0 : Int32)), (0, .ref a_h), (1, .int p0), (2, .int p1), (4, .int x4)]) hx hb dX8_isTraced_25 rfl hl (by decide) rfl (fun ls hl => ?_)
            refine lv_aload_n hx hb dX8_isTraced_26 rfl (lv_at hl 1 rfl) ?_
            refine va_get (D := D) (ci := 8) (v := .ref a_h_d) (C := RX8) (T := TX8) (N := 14) hx hb hts in_X8_isTraced_X8 hown hK hP 0 rfl rfl 0 (by decide) (hts _ q_X8_isTraced_1) (fun _ h9 => h9) rfl dX8_isTraced_27 ?_
            refine lv_bipush (v := (66 : Int32)) hx hb dX8_isTraced_30 (by decide) ?_
            refine lv_iload hx hb dX8_isTraced_32 (lv_at hl 4 rfl) ?_
            refine lv_iadd hx hb dX8_isTraced_34 ?_
            obtain ⟨hi7, h⟩ := gA_e h
            refine wx_iald hx hb hK hP 1 0 rfl rfl (Int32.toNatClampNeg ((66 : Int32) + x4)) rfl hi7 dX8_isTraced_35 ?_
            refine lv_topi (fun t8 et8 => ?_)
            replace h := nm_at h et8
            refine lv_istore (lv' := [(4, .int t8), (3, .int (0 : Int32)), (0, .ref a_h), (1, .int p0), (2, .int p1)]) hx hb dX8_isTraced_36 hl (by decide) rfl (fun ls hl => ?_)
            refine lv_goto (tgt := 5) hx hb dX8_isTraced_38 (by decide) ?_
            exact ih (0 : Int32) t8 _ _ _ h hP hD hS (lv_sub hl [2, 3, 4, 1, 0] rfl)
          · replace h := in_e hc6 h
            refine lv_iconst (v := (1 : Int32)) hx hb dX8_isTraced_20 (by decide) ?_
            refine lv_goto (tgt := 25) hx hb dX8_isTraced_21 (by decide) ?_
            refine lv_istore_n (lv' := [(3, .int (1 : Int32)), (0, .ref a_h), (1, .int p0), (2, .int p1), (4, .int x4)]) hx hb dX8_isTraced_25 rfl hl (by decide) rfl (fun ls hl => ?_)
            refine lv_aload_n hx hb dX8_isTraced_26 rfl (lv_at hl 1 rfl) ?_
            refine va_get (D := D) (ci := 8) (v := .ref a_h_d) (C := RX8) (T := TX8) (N := 14) hx hb hts in_X8_isTraced_X8 hown hK hP 0 rfl rfl 0 (by decide) (hts _ q_X8_isTraced_1) (fun _ h9 => h9) rfl dX8_isTraced_27 ?_
            refine lv_bipush (v := (66 : Int32)) hx hb dX8_isTraced_30 (by decide) ?_
            refine lv_iload hx hb dX8_isTraced_32 (lv_at hl 4 rfl) ?_
            refine lv_iadd hx hb dX8_isTraced_34 ?_
            obtain ⟨hi9, h⟩ := gA_e h
            refine wx_iald hx hb hK hP 1 0 rfl rfl (Int32.toNatClampNeg ((66 : Int32) + x4)) rfl hi9 dX8_isTraced_35 ?_
            refine lv_topi (fun t10 et10 => ?_)
            replace h := nm_at h et10
            refine lv_istore (lv' := [(4, .int t10), (3, .int (1 : Int32)), (0, .ref a_h), (1, .int p0), (2, .int p1)]) hx hb dX8_isTraced_36 hl (by decide) rfl (fun ls hl => ?_)
            refine lv_goto (tgt := 5) hx hb dX8_isTraced_38 (by decide) ?_
            exact ih (1 : Int32) t10 _ _ _ h hP hD hS (lv_sub hl [2, 3, 4, 1, 0] rfl)
  refine lv_iconst (v := (0 : Int32)) hx hb dX8_isTraced_0 (by decide) ?_
  refine lv_istore_n (lv' := [(3, .int (0 : Int32)), (0, .ref a_h), (1, .int p0), (2, .int p1)]) hx hb dX8_isTraced_1 rfl hl (by decide) rfl (fun ls hl => ?_)
  refine lv_iload_n hx hb dX8_isTraced_2 rfl (lv_at hl 2 rfl) ?_
  refine lv_istore (lv' := [(4, .int p0), (3, .int (0 : Int32)), (0, .ref a_h), (1, .int p0), (2, .int p1)]) hx hb dX8_isTraced_3 hl (by decide) rfl (fun ls hl => ?_)
  exact B5 N (0 : Int32) p0 _ _ _ h hP hD hS (lv_sub hl [2, 3, 4, 1, 0] rfl)
-- X8_weight
def f_X8_weight_b80 (N : Nat) (v_d_A : Nat → Int32) (p0 : Int32) : Nat → Int32 → Int32 → Option (Int32)
  | 0, _, _ => none
  | k + 1, x3, x4 =>
    (if (v_d_A 41) ≤ x4 then some x3
    else Option.bind (f_X8_isTraced N v_d_A x4 p0) (fun u8 => (if u8 = 0 then nm (x3 + (0 : Int32)) (fun t10 => nm (x4 + (1 : Int32)) (fun t11 => (f_X8_weight_b80 N v_d_A p0 k t10 t11)))
    else nm (x3 + (1 : Int32)) (fun t12 => nm (x4 + (1 : Int32)) (fun t13 => (f_X8_weight_b80 N v_d_A p0 k t12 t13))))))
def f_X8_weight (N : Nat) (v_d_A : Nat → Int32) (p0 : Int32) (p1 : Int32) : Option (Int32) :=
  Option.bind (f_X8_isWeight v_d_A p0) (fun u1 => (if u1 = 0 then some (-2000000001 : Int32)
    else Option.bind (f_X8_in p1 (0 : Int32) (8 : Int32)) (fun u3 => (if ¬ u3 = 0 then (if (5 : Int32) ≤ p1 then (if (8 : Int32) ≤ p1 then (f_X8_weight_b80 N v_d_A p0 N (0 : Int32) (0 : Int32))
    else (if ¬ p1 = (5 : Int32) then (if ¬ p1 = (6 : Int32) then Option.bind (f_X8_chained N v_d_A p0 (-1 : Int32)) (fun u16 => some u16)
    else Option.bind (f_X8_chained N v_d_A p0 (58 : Int32)) (fun u17 => some u17))
    else Option.bind (f_X8_chained N v_d_A p0 (50 : Int32)) (fun u18 => some u18)))
    else gA (((42 : Int32) + ((8 : Int32) * p1)) + p0) 2086 (some (v_d_A (Int32.toNatClampNeg (((42 : Int32) + ((8 : Int32) * p1)) + p0)))))
    else some (-2000000001 : Int32)))))
theorem q_X8_weight_1 : (.constant RX8 64 (-2000000001) : Cond) ∈ wsX8_weight := List.mem_of_getElem? (i := 1) (by decide +kernel)
theorem q_X8_weight_2 : (.fieldLink RX8 7 "SpringBalanceModel" "d" "[I" : Cond) ∈ wsX8_weight := List.mem_of_getElem? (i := 2) (by decide +kernel)
set_option maxRecDepth 20000 in
theorem in_X8_weight_X8 : ∀ w ∈ u_ws RX8 TX8 14, w ∈ wsX8_weight := by decide +kernel
set_option maxHeartbeats 8000000 in
set_option maxRecDepth 100000 in
theorem k_X8_weight (l : Launch) (D : va_G) (cI cC cJ cB : ClassId) (a_h a_h_d a_h_was a_h_accounts a_h_text a_h_aside a_h_places a_h_told : Nat) (v_account : Int64) (v_states : Int32) (v_refused : Int32) (v_typed : Int32) (v_at : Int32) (v_sign : Int32) (v_number : Int32) (v_d_A : Nat → Int32) (N : Nat) (p0 : Int32) (p1 : Int32) (sz : Nat) (u : Int32) (hu : f_X8_weight N v_d_A p0 p1 = some u) :
    Met l yX8_weight wsX8_weight ({ frames := 2, cells := 0, slots := 0, locals := 43 } : Room) (va_Pc [.ref a_h, .int p0, .int p1] (PreW D (ty4 cI cC cJ cB) sz [(a_h, .inr (8, [.ref a_h_d, .long v_account, .ref a_h_was, .ref a_h_accounts, .int v_states, .int v_refused, .ref a_h_text, .int v_typed, .int v_at, .int v_sign, .int v_number, .ref a_h_aside, .ref a_h_places, .ref a_h_told])), (a_h_d, .inl (cI, 2086, .inl v_d_A))]))
      (QI D (ty4 cI cC cJ cB) (va_A [(a_h, .inr (8, [.ref a_h_d, .long v_account, .ref a_h_was, .ref a_h_accounts, .int v_states, .int v_refused, .ref a_h_text, .int v_typed, .int v_at, .int v_sign, .int v_number, .ref a_h_aside, .ref a_h_places, .ref a_h_told])), (a_h_d, .inl (cI, 2086, .inl v_d_A))] sz) [(a_h, .inr (8, [.ref a_h_d, .long v_account, .ref a_h_was, .ref a_h_accounts, .int v_states, .int v_refused, .ref a_h_text, .int v_typed, .int v_at, .int v_sign, .int v_number, .ref a_h_aside, .ref a_h_places, .ref a_h_told])), (a_h_d, .inl (cI, 2086, .inl v_d_A))] u) 0 0 (va_A [(a_h, .inr (8, [.ref a_h_d, .long v_account, .ref a_h_was, .ref a_h_accounts, .int v_states, .int v_refused, .ref a_h_text, .int v_typed, .int v_at, .int v_sign, .int v_number, .ref a_h_aside, .ref a_h_places, .ref a_h_told])), (a_h_d, .inl (cI, 2086, .inl v_d_A))] sz) := by
  refine met_go (y := yX8_weight) (wsy := wsX8_weight) (cc := cX8_weight) (maxL := 5) (ret := (some .int)) (av := [.ref a_h, .int p0, .int p1]) (Qc := fun A => QI D (ty4 cI cC cJ cB) A [(a_h, .inr (8, [.ref a_h_d, .long v_account, .ref a_h_was, .ref a_h_accounts, .int v_states, .int v_refused, .ref a_h_text, .int v_typed, .int v_at, .int v_sign, .int v_number, .ref a_h_aside, .ref a_h_places, .ref a_h_told])), (a_h_d, .inl (cI, 2086, .inl v_d_A))] u) (by decide) rfl (Nat.le_of_ble_eq_true rfl) ?_
  intro p e s m below meth c A ls hx hb hr hml hown hts hlocks hnm hN hK hP hD hS hA hl
  have h := hu
  clear hu
  unfold f_X8_weight at h
  have hl : lv_has ls 5 [(0, .ref a_h), (1, .int p0), (2, .int p1)] := hl
  have B80 : ∀ (k : Nat) (x3 : Int32) (x4 : Int32) (H : Heap) (locs : List Loc) (ls : Array Slot), f_X8_weight_b80 N v_d_A p0 k x3 x4 = some u → va_P D vwCl [(a_h, .inr (8, [.ref a_h_d, .long v_account, .ref a_h_was, .ref a_h_accounts, .int v_states, .int v_refused, .ref a_h_text, .int v_typed, .int v_at, .int v_sign, .int v_number, .ref a_h_aside, .ref a_h_places, .ref a_h_told])), (a_h_d, .inl (cI, 2086, .inl v_d_A))] H → va_D A [(a_h, .inr (8, [.ref a_h_d, .long v_account, .ref a_h_was, .ref a_h_accounts, .int v_states, .int v_refused, .ref a_h_text, .int v_typed, .int v_at, .int v_sign, .int v_number, .ref a_h_aside, .ref a_h_places, .ref a_h_told])), (a_h_d, .inl (cI, 2086, .inl v_d_A))] → va_S A s.heap H locs → lv_has ls 5 [(0, .ref a_h), (1, .int p0), (2, .int p1), (3, .int x3), (4, .int x4)] → W p l e ({ frames := 2, cells := 0, slots := 0, locals := 43 } : Room) s m ([.ref a_h, .int p0, .int p1] : List Value).toArray below meth c H locs 0 0 (MQ below (QI D (ty4 cI cC cJ cB) A [(a_h, .inr (8, [.ref a_h_d, .long v_account, .ref a_h_was, .ref a_h_accounts, .int v_states, .int v_refused, .ref a_h_text, .int v_typed, .int v_at, .int v_sign, .int v_number, .ref a_h_aside, .ref a_h_places, .ref a_h_told])), (a_h_d, .inl (cI, 2086, .inl v_d_A))] u) ([.ref a_h, .int p0, .int p1] : List Value).toArray s 0 0 A) (F0 m 80 ls []) := by
    intro k
    induction k with
    | zero =>
      intro x3 x4 H locs ls h
      exact nomatch (show (none : Option (Int32)) = some u from h)
    | succ k ih =>
      intro x3 x4 H locs ls h hP hD hS hl
      rw [f_X8_weight_b80.eq_2] at h
      refine lv_iload hx hb dX8_weight_80 (lv_at hl 4 rfl) ?_
      refine lv_aload_n hx hb dX8_weight_82 rfl (lv_at hl 0 rfl) ?_
      refine va_get (D := D) (ci := 8) (v := .ref a_h_d) (C := RX8) (T := TX8) (N := 14) hx hb hts in_X8_weight_X8 hown hK hP 0 rfl rfl 0 (by decide) (hts _ q_X8_weight_2) (fun _ h9 => h9) rfl dX8_weight_83 ?_
      refine lv_bipush (v := (41 : Int32)) hx hb dX8_weight_86 (by decide) ?_
      refine wx_iald hx hb hK hP 1 0 rfl rfl 41 (by decide) (by unfold vp_in; decide) dX8_weight_88 ?_
      refine lv_icmp_ge (tgt := 116) hx hb dX8_weight_89 (by decide) (fun hc7 => ?_) (fun hc7 => ?_)
      · replace h := it_e hc7 h
        refine lv_iload_n hx hb dX8_weight_116 rfl (lv_at hl 3 rfl) ?_
        obtain rfl := sm_e h
        exact rx_i hx hb hr  hP hK hD hS dX8_weight_117 hlocks
      · replace h := if_e hc7 h
        refine lv_iload_n hx hb dX8_weight_92 rfl (lv_at hl 3 rfl) ?_
        refine lv_aload_n hx hb dX8_weight_93 rfl (lv_at hl 0 rfl) ?_
        refine lv_iload hx hb dX8_weight_94 (lv_at hl 4 rfl) ?_
        refine lv_iload_n hx hb dX8_weight_96 rfl (lv_at hl 1 rfl) ?_
        obtain ⟨u8, hu8, h⟩ := bd_e h
        refine kx_i (mc := 0) (ms := 0) (wr := []) (ws2 := [(a_h, .inr (8, [.ref a_h_d, .long v_account, .ref a_h_was, .ref a_h_accounts, .int v_states, .int v_refused, .ref a_h_text, .int v_typed, .int v_at, .int v_sign, .int v_number, .ref a_h_aside, .ref a_h_places, .ref a_h_told])), (a_h_d, .inl (cI, 2086, .inl v_d_A))]) (va_runV (As := [.int x4, .int p0]) (rest := [.int x3]) ⟨hx, hb, hml, hown, hts⟩ (k_X8_isTraced l D cI cC cJ cB a_h a_h_d a_h_was a_h_accounts a_h_text a_h_aside a_h_places a_h_told v_account v_states v_refused v_typed v_at v_sign v_number v_d_A N x4 p0 H.size _ hu8) (cwV 2 hts gX8_weight_X8_isTraced rfl rfl rfl (by decide +kernel) ⟨Nat.le_of_ble_eq_true rfl, Nat.le_of_ble_eq_true rfl⟩) (pv_V hP hD hK hN [0, 1] rfl rfl (ci := 8) rfl 0 rfl) rfl rfl hl.1 rfl (lv_room (Nat.le_of_ble_eq_true rfl)) dX8_weight_97 ⟨Nat.zero_le _, Nat.zero_le _⟩) hP hD hS hA [0, 1] [] [0, 1] rfl rfl rfl rfl rfl rfl (fun H locs hP hD hS => ?_)
        refine lv_if_eq (tgt := 107) hx hb dX8_weight_100 (by decide) (fun hc9 => ?_) (fun hc9 => ?_)
        · replace h := it_e hc9 h
          refine lv_iconst (v := (0 : Int32)) hx hb dX8_weight_107 (by decide) ?_
          refine lv_iadd hx hb dX8_weight_108 ?_
          refine lv_topi (fun t10 et10 => ?_)
          replace h := nm_at h et10
          refine lv_istore_n (lv' := [(3, .int t10), (0, .ref a_h), (1, .int p0), (2, .int p1), (4, .int x4)]) hx hb dX8_weight_109 rfl hl (by decide) rfl (fun ls hl => ?_)
          obtain ⟨t11, et11, h⟩ := nm_x h
          refine lv_iinc (v := t11) (lv' := [(4, .int t11), (3, .int t10), (0, .ref a_h), (1, .int p0), (2, .int p1)]) hx hb dX8_weight_110 hl (k := 4) rfl (by rw [et11]; rfl) (by decide) rfl (fun ls hl => ?_)
          refine lv_goto (tgt := 80) hx hb dX8_weight_113 (by decide) ?_
          exact ih t10 t11 _ _ _ h hP hD hS (lv_sub hl [2, 3, 4, 1, 0] rfl)
        · replace h := if_e hc9 h
          refine lv_iconst (v := (1 : Int32)) hx hb dX8_weight_103 (by decide) ?_
          refine lv_goto (tgt := 108) hx hb dX8_weight_104 (by decide) ?_
          refine lv_iadd hx hb dX8_weight_108 ?_
          refine lv_topi (fun t12 et12 => ?_)
          replace h := nm_at h et12
          refine lv_istore_n (lv' := [(3, .int t12), (0, .ref a_h), (1, .int p0), (2, .int p1), (4, .int x4)]) hx hb dX8_weight_109 rfl hl (by decide) rfl (fun ls hl => ?_)
          obtain ⟨t13, et13, h⟩ := nm_x h
          refine lv_iinc (v := t13) (lv' := [(4, .int t13), (3, .int t12), (0, .ref a_h), (1, .int p0), (2, .int p1)]) hx hb dX8_weight_110 hl (k := 4) rfl (by rw [et13]; rfl) (by decide) rfl (fun ls hl => ?_)
          refine lv_goto (tgt := 80) hx hb dX8_weight_113 (by decide) ?_
          exact ih t12 t13 _ _ _ h hP hD hS (lv_sub hl [2, 3, 4, 1, 0] rfl)
  refine lv_aload_n hx hb dX8_weight_0 rfl (lv_at hl 0 rfl) ?_
  refine lv_iload_n hx hb dX8_weight_1 rfl (lv_at hl 1 rfl) ?_
  obtain ⟨u1, hu1, h⟩ := bd_e h
  refine kx_i (mc := 0) (ms := 0) (wr := []) (ws2 := [(a_h, .inr (8, [.ref a_h_d, .long v_account, .ref a_h_was, .ref a_h_accounts, .int v_states, .int v_refused, .ref a_h_text, .int v_typed, .int v_at, .int v_sign, .int v_number, .ref a_h_aside, .ref a_h_places, .ref a_h_told])), (a_h_d, .inl (cI, 2086, .inl v_d_A))]) (va_runV (As := [.int p0]) (rest := []) ⟨hx, hb, hml, hown, hts⟩ (k_X8_isWeight l D cI cC cJ cB a_h a_h_d a_h_was a_h_accounts a_h_text a_h_aside a_h_places a_h_told v_account v_states v_refused v_typed v_at v_sign v_number v_d_A N p0 s.heap.size _ hu1) (cwV 1 hts gX8_weight_X8_isWeight rfl rfl rfl (by decide +kernel) ⟨Nat.le_of_ble_eq_true rfl, Nat.le_of_ble_eq_true rfl⟩) (pv_V hP hD hK hN [0, 1] rfl rfl (ci := 8) rfl 0 rfl) rfl rfl hl.1 rfl (lv_room (Nat.le_of_ble_eq_true rfl)) dX8_weight_2 ⟨Nat.zero_le _, Nat.zero_le _⟩) hP hD hS hA [0, 1] [] [0, 1] rfl rfl rfl rfl rfl rfl (fun H locs hP hD hS => ?_)
  refine lv_if_eq (tgt := 18) hx hb dX8_weight_5 (by decide) (fun hc2 => ?_) (fun hc2 => ?_)
  · replace h := it_e hc2 h
    refine lv_ldc (v := (-2000000001 : Int32)) hx hb hown (hts _ q_X8_weight_1) dX8_weight_18 ?_
    obtain rfl := sm_e h
    exact rx_i hx hb hr  hP hK hD hS dX8_weight_20 hlocks
  · replace h := if_e hc2 h
    refine lv_iload_n hx hb dX8_weight_8 rfl (lv_at hl 2 rfl) ?_
    refine lv_iconst (v := (0 : Int32)) hx hb dX8_weight_9 (by decide) ?_
    refine lv_bipush (v := (8 : Int32)) hx hb dX8_weight_10 (by decide) ?_
    obtain ⟨u3, hu3, h⟩ := bd_e h
    refine kx_i (mc := 0) (ms := 0) (wr := [(a_h, .inr (8, [.ref a_h_d, .long v_account, .ref a_h_was, .ref a_h_accounts, .int v_states, .int v_refused, .ref a_h_text, .int v_typed, .int v_at, .int v_sign, .int v_number, .ref a_h_aside, .ref a_h_places, .ref a_h_told])), (a_h_d, .inl (cI, 2086, .inl v_d_A))]) (ws2 := [(a_h, .inr (8, [.ref a_h_d, .long v_account, .ref a_h_was, .ref a_h_accounts, .int v_states, .int v_refused, .ref a_h_text, .int v_typed, .int v_at, .int v_sign, .int v_number, .ref a_h_aside, .ref a_h_places, .ref a_h_told])), (a_h_d, .inl (cI, 2086, .inl v_d_A))]) (va_runS (As := [.int p1, .int (0 : Int32), .int (8 : Int32)]) (rest := []) ⟨hx, hb, hml, hown, hts⟩ (k_X8_in l D cI cC cJ cB N p1 (0 : Int32) (8 : Int32) H.size _ hu3) (va_cwS 3 hts gX8_weight_X8_in rfl rfl rfl (by decide +kernel) ⟨Nat.le_of_ble_eq_true rfl, Nat.le_of_ble_eq_true rfl⟩) (pv_S hP hD hK hN [] rfl rfl) rfl rfl hl.1 rfl (lv_room (Nat.le_of_ble_eq_true rfl)) dX8_weight_12 ⟨Nat.zero_le _, Nat.zero_le _⟩) hP hD hS hA [] [0, 1] [0, 1] rfl rfl rfl rfl rfl rfl (fun H locs hP hD hS => ?_)
    refine lv_if_ne (tgt := 21) hx hb dX8_weight_15 (by decide) (fun hc4 => ?_) (fun hc4 => ?_)
    · replace h := it_e hc4 h
      refine lv_iload_n hx hb dX8_weight_21 rfl (lv_at hl 2 rfl) ?_
      refine lv_iconst (v := (5 : Int32)) hx hb dX8_weight_22 (by decide) ?_
      refine lv_icmp_ge (tgt := 41) hx hb dX8_weight_23 (by decide) (fun hc5 => ?_) (fun hc5 => ?_)
      · replace h := it_e hc5 h
        refine lv_iload_n hx hb dX8_weight_41 rfl (lv_at hl 2 rfl) ?_
        refine lv_bipush (v := (8 : Int32)) hx hb dX8_weight_42 (by decide) ?_
        refine lv_icmp_ge (tgt := 75) hx hb dX8_weight_44 (by decide) (fun hc6 => ?_) (fun hc6 => ?_)
        · replace h := it_e hc6 h
          refine lv_iconst (v := (0 : Int32)) hx hb dX8_weight_75 (by decide) ?_
          refine lv_istore_n (lv' := [(3, .int (0 : Int32)), (0, .ref a_h), (1, .int p0), (2, .int p1)]) hx hb dX8_weight_76 rfl hl (by decide) rfl (fun ls hl => ?_)
          refine lv_iconst (v := (0 : Int32)) hx hb dX8_weight_77 (by decide) ?_
          refine lv_istore (lv' := [(4, .int (0 : Int32)), (3, .int (0 : Int32)), (0, .ref a_h), (1, .int p0), (2, .int p1)]) hx hb dX8_weight_78 hl (by decide) rfl (fun ls hl => ?_)
          exact B80 N (0 : Int32) (0 : Int32) _ _ _ h hP hD hS (lv_sub hl [2, 3, 4, 1, 0] rfl)
        · replace h := if_e hc6 h
          refine lv_aload_n hx hb dX8_weight_47 rfl (lv_at hl 0 rfl) ?_
          refine lv_iload_n hx hb dX8_weight_48 rfl (lv_at hl 1 rfl) ?_
          refine lv_iload_n hx hb dX8_weight_49 rfl (lv_at hl 2 rfl) ?_
          refine lv_iconst (v := (5 : Int32)) hx hb dX8_weight_50 (by decide) ?_
          refine lv_icmp_ne (tgt := 59) hx hb dX8_weight_51 (by decide) (fun hc14 => ?_) (fun hc14 => ?_)
          · replace h := it_e hc14 h
            refine lv_iload_n hx hb dX8_weight_59 rfl (lv_at hl 2 rfl) ?_
            refine lv_bipush (v := (6 : Int32)) hx hb dX8_weight_60 (by decide) ?_
            refine lv_icmp_ne (tgt := 70) hx hb dX8_weight_62 (by decide) (fun hc15 => ?_) (fun hc15 => ?_)
            · replace h := it_e hc15 h
              refine lv_iconst (v := (-1 : Int32)) hx hb dX8_weight_70 (by decide) ?_
              obtain ⟨u16, hu16, h⟩ := bd_e h
              refine kx_i (mc := 0) (ms := 0) (wr := []) (ws2 := [(a_h, .inr (8, [.ref a_h_d, .long v_account, .ref a_h_was, .ref a_h_accounts, .int v_states, .int v_refused, .ref a_h_text, .int v_typed, .int v_at, .int v_sign, .int v_number, .ref a_h_aside, .ref a_h_places, .ref a_h_told])), (a_h_d, .inl (cI, 2086, .inl v_d_A))]) (va_runV (As := [.int p0, .int (-1 : Int32)]) (rest := []) ⟨hx, hb, hml, hown, hts⟩ (k_X8_chained l D cI cC cJ cB a_h a_h_d a_h_was a_h_accounts a_h_text a_h_aside a_h_places a_h_told v_account v_states v_refused v_typed v_at v_sign v_number v_d_A N p0 (-1 : Int32) H.size _ hu16) (cwV 2 hts gX8_weight_X8_chained rfl rfl rfl (by decide +kernel) ⟨Nat.le_of_ble_eq_true rfl, Nat.le_of_ble_eq_true rfl⟩) (pv_V hP hD hK hN [0, 1] rfl rfl (ci := 8) rfl 0 rfl) rfl rfl hl.1 rfl (lv_room (Nat.le_of_ble_eq_true rfl)) dX8_weight_71 ⟨Nat.zero_le _, Nat.zero_le _⟩) hP hD hS hA [0, 1] [] [0, 1] rfl rfl rfl rfl rfl rfl (fun H locs hP hD hS => ?_)
              obtain rfl := sm_e h
              exact rx_i hx hb hr  hP hK hD hS dX8_weight_74 hlocks
            · replace h := in_e hc15 h
              refine lv_bipush (v := (58 : Int32)) hx hb dX8_weight_65 (by decide) ?_
              refine lv_goto (tgt := 71) hx hb dX8_weight_67 (by decide) ?_
              obtain ⟨u17, hu17, h⟩ := bd_e h
              refine kx_i (mc := 0) (ms := 0) (wr := []) (ws2 := [(a_h, .inr (8, [.ref a_h_d, .long v_account, .ref a_h_was, .ref a_h_accounts, .int v_states, .int v_refused, .ref a_h_text, .int v_typed, .int v_at, .int v_sign, .int v_number, .ref a_h_aside, .ref a_h_places, .ref a_h_told])), (a_h_d, .inl (cI, 2086, .inl v_d_A))]) (va_runV (As := [.int p0, .int (58 : Int32)]) (rest := []) ⟨hx, hb, hml, hown, hts⟩ (k_X8_chained l D cI cC cJ cB a_h a_h_d a_h_was a_h_accounts a_h_text a_h_aside a_h_places a_h_told v_account v_states v_refused v_typed v_at v_sign v_number v_d_A N p0 (58 : Int32) H.size _ hu17) (cwV 2 hts gX8_weight_X8_chained rfl rfl rfl (by decide +kernel) ⟨Nat.le_of_ble_eq_true rfl, Nat.le_of_ble_eq_true rfl⟩) (pv_V hP hD hK hN [0, 1] rfl rfl (ci := 8) rfl 0 rfl) rfl rfl hl.1 rfl (lv_room (Nat.le_of_ble_eq_true rfl)) dX8_weight_71 ⟨Nat.zero_le _, Nat.zero_le _⟩) hP hD hS hA [0, 1] [] [0, 1] rfl rfl rfl rfl rfl rfl (fun H locs hP hD hS => ?_)
              obtain rfl := sm_e h
              exact rx_i hx hb hr  hP hK hD hS dX8_weight_74 hlocks
          · replace h := in_e hc14 h
            refine lv_bipush (v := (50 : Int32)) hx hb dX8_weight_54 (by decide) ?_
            refine lv_goto (tgt := 71) hx hb dX8_weight_56 (by decide) ?_
            obtain ⟨u18, hu18, h⟩ := bd_e h
            refine kx_i (mc := 0) (ms := 0) (wr := []) (ws2 := [(a_h, .inr (8, [.ref a_h_d, .long v_account, .ref a_h_was, .ref a_h_accounts, .int v_states, .int v_refused, .ref a_h_text, .int v_typed, .int v_at, .int v_sign, .int v_number, .ref a_h_aside, .ref a_h_places, .ref a_h_told])), (a_h_d, .inl (cI, 2086, .inl v_d_A))]) (va_runV (As := [.int p0, .int (50 : Int32)]) (rest := []) ⟨hx, hb, hml, hown, hts⟩ (k_X8_chained l D cI cC cJ cB a_h a_h_d a_h_was a_h_accounts a_h_text a_h_aside a_h_places a_h_told v_account v_states v_refused v_typed v_at v_sign v_number v_d_A N p0 (50 : Int32) H.size _ hu18) (cwV 2 hts gX8_weight_X8_chained rfl rfl rfl (by decide +kernel) ⟨Nat.le_of_ble_eq_true rfl, Nat.le_of_ble_eq_true rfl⟩) (pv_V hP hD hK hN [0, 1] rfl rfl (ci := 8) rfl 0 rfl) rfl rfl hl.1 rfl (lv_room (Nat.le_of_ble_eq_true rfl)) dX8_weight_71 ⟨Nat.zero_le _, Nat.zero_le _⟩) hP hD hS hA [0, 1] [] [0, 1] rfl rfl rfl rfl rfl rfl (fun H locs hP hD hS => ?_)
            obtain rfl := sm_e h
            exact rx_i hx hb hr  hP hK hD hS dX8_weight_74 hlocks
      · replace h := if_e hc5 h
        refine lv_aload_n hx hb dX8_weight_26 rfl (lv_at hl 0 rfl) ?_
        refine va_get (D := D) (ci := 8) (v := .ref a_h_d) (C := RX8) (T := TX8) (N := 14) hx hb hts in_X8_weight_X8 hown hK hP 0 rfl rfl 0 (by decide) (hts _ q_X8_weight_2) (fun _ h9 => h9) rfl dX8_weight_27 ?_
        refine lv_bipush (v := (42 : Int32)) hx hb dX8_weight_30 (by decide) ?_
        refine lv_bipush (v := (8 : Int32)) hx hb dX8_weight_32 (by decide) ?_
        refine lv_iload_n hx hb dX8_weight_34 rfl (lv_at hl 2 rfl) ?_
        refine lv_imul hx hb dX8_weight_35 ?_
        refine lv_iadd hx hb dX8_weight_36 ?_
        refine lv_iload_n hx hb dX8_weight_37 rfl (lv_at hl 1 rfl) ?_
        refine lv_iadd hx hb dX8_weight_38 ?_
        obtain ⟨hi19, h⟩ := gA_e h
        refine wx_iald hx hb hK hP 1 0 rfl rfl (Int32.toNatClampNeg (((42 : Int32) + ((8 : Int32) * p1)) + p0)) rfl hi19 dX8_weight_39 ?_
        obtain rfl := sm_e h
        exact rx_i hx hb hr  hP hK hD hS dX8_weight_40 hlocks
    · replace h := in_e hc4 h
      refine lv_ldc (v := (-2000000001 : Int32)) hx hb hown (hts _ q_X8_weight_1) dX8_weight_18 ?_
      obtain rfl := sm_e h
      exact rx_i hx hb hr  hP hK hD hS dX8_weight_20 hlocks
-- X8_ones
def f_X8_ones_b4  : Nat → Int32 → Int32 → Option (Int32)
  | 0, _, _ => none
  | k + 1, x1, x2 =>
    (if x2 = 0 then some x1
    else nm (x1 + (1 : Int32)) (fun t2 => nm (x2 &&& (x2 - (1 : Int32))) (fun t3 => (f_X8_ones_b4  k t2 t3))))
def f_X8_ones (N : Nat) (p0 : Int32) : Option (Int32) :=
  (f_X8_ones_b4  N (0 : Int32) p0)

set_option maxHeartbeats 8000000 in
set_option maxRecDepth 100000 in
theorem k_X8_ones (l : Launch) (D : va_G) (cI cC cJ cB : ClassId) (N : Nat) (p0 : Int32) (sz : Nat) (u : Int32) (hu : f_X8_ones N p0 = some u) :
    Met l yX8_ones wsX8_ones ({ frames := 0, cells := 0, slots := 0, locals := 0 } : Room) (va_Pc [.int p0] (PreW D (ty4 cI cC cJ cB) sz []))
      (QI D (ty4 cI cC cJ cB) (va_A [] sz) [] u) 0 0 (va_A [] sz) := by
  refine met_go (y := yX8_ones) (wsy := wsX8_ones) (cc := cX8_ones) (maxL := 3) (ret := (some .int)) (av := [.int p0]) (Qc := fun A => QI D (ty4 cI cC cJ cB) A [] u) (by decide) rfl (Nat.le_of_ble_eq_true rfl) ?_
  intro p e s m below meth c A ls hx hb hr hml hown hts hlocks hnm hN hK hP hD hS hA hl
  have h := hu
  clear hu
  unfold f_X8_ones at h
  have hl : lv_has ls 3 [(0, .int p0)] := hl
  have B4 : ∀ (k : Nat) (x1 : Int32) (x2 : Int32) (H : Heap) (locs : List Loc) (ls : Array Slot), f_X8_ones_b4  k x1 x2 = some u → va_P D vwCl [] H → va_D A [] → va_S A s.heap H locs → lv_has ls 3 [(0, .int p0), (1, .int x1), (2, .int x2)] → W p l e ({ frames := 0, cells := 0, slots := 0, locals := 0 } : Room) s m ([.int p0] : List Value).toArray below meth c H locs 0 0 (MQ below (QI D (ty4 cI cC cJ cB) A [] u) ([.int p0] : List Value).toArray s 0 0 A) (F0 m 4 ls []) := by
    intro k
    induction k with
    | zero =>
      intro x1 x2 H locs ls h
      exact nomatch (show (none : Option (Int32)) = some u from h)
    | succ k ih =>
      intro x1 x2 H locs ls h hP hD hS hl
      rw [f_X8_ones_b4.eq_2] at h
      refine lv_iload_n hx hb dX8_ones_4 rfl (lv_at hl 2 rfl) ?_
      refine lv_if_eq (tgt := 20) hx hb dX8_ones_5 (by decide) (fun hc1 => ?_) (fun hc1 => ?_)
      · replace h := it_e hc1 h
        refine lv_iload_n hx hb dX8_ones_20 rfl (lv_at hl 1 rfl) ?_
        obtain rfl := sm_e h
        exact rx_i hx hb hr  hP hK hD hS dX8_ones_21 hlocks
      · replace h := if_e hc1 h
        obtain ⟨t2, et2, h⟩ := nm_x h
        refine lv_iinc (v := t2) (lv' := [(1, .int t2), (0, .int p0), (2, .int x2)]) hx hb dX8_ones_8 hl (k := 1) rfl (by rw [et2]; rfl) (by decide) rfl (fun ls hl => ?_)
        refine lv_iload_n hx hb dX8_ones_11 rfl (lv_at hl 2 rfl) ?_
        refine lv_iload_n hx hb dX8_ones_12 rfl (lv_at hl 2 rfl) ?_
        refine lv_iconst (v := (1 : Int32)) hx hb dX8_ones_13 (by decide) ?_
        refine lv_isub hx hb dX8_ones_14 ?_
        refine lv_iand hx hb dX8_ones_15 ?_
        refine lv_topi (fun t3 et3 => ?_)
        replace h := nm_at h et3
        refine lv_istore_n (lv' := [(2, .int t3), (1, .int t2), (0, .int p0)]) hx hb dX8_ones_16 rfl hl (by decide) rfl (fun ls hl => ?_)
        refine lv_goto (tgt := 4) hx hb dX8_ones_17 (by decide) ?_
        exact ih t2 t3 _ _ _ h hP hD hS (lv_sub hl [2, 1, 0] rfl)
  refine lv_iconst (v := (0 : Int32)) hx hb dX8_ones_0 (by decide) ?_
  refine lv_istore_n (lv' := [(1, .int (0 : Int32)), (0, .int p0)]) hx hb dX8_ones_1 rfl hl (by decide) rfl (fun ls hl => ?_)
  refine lv_iload_n hx hb dX8_ones_2 rfl (lv_at hl 1 rfl) ?_
  refine lv_istore_n (lv' := [(2, .int p0), (1, .int (0 : Int32)), (0, .int p0)]) hx hb dX8_ones_3 rfl hl (by decide) rfl (fun ls hl => ?_)
  exact B4 N (0 : Int32) p0 _ _ _ h hP hD hS (lv_sub hl [2, 1, 0] rfl)
-- X8_isSet
def f_X8_isSet (N : Nat) (v_d_A : Nat → Int32) (p0 : Int32) : Option (Int32) :=
  (if p0 ≤ 0 then some (0 : Int32)
    else (if ¬ (p0 >>> ((v_d_A 41) &&& 31)) = 0 then some (0 : Int32)
    else Option.bind (f_X8_ones N p0) (fun u3 => (if (5 : Int32) < u3 then some (0 : Int32)
    else some (1 : Int32)))))
theorem q_X8_isSet_1 : (.fieldLink RX8 7 "SpringBalanceModel" "d" "[I" : Cond) ∈ wsX8_isSet := List.mem_of_getElem? (i := 1) (by decide +kernel)
set_option maxRecDepth 20000 in
theorem in_X8_isSet_X8 : ∀ w ∈ u_ws RX8 TX8 14, w ∈ wsX8_isSet := by decide +kernel
set_option maxHeartbeats 8000000 in
set_option maxRecDepth 100000 in
theorem k_X8_isSet (l : Launch) (D : va_G) (cI cC cJ cB : ClassId) (a_h a_h_d a_h_was a_h_accounts a_h_text a_h_aside a_h_places a_h_told : Nat) (v_account : Int64) (v_states : Int32) (v_refused : Int32) (v_typed : Int32) (v_at : Int32) (v_sign : Int32) (v_number : Int32) (v_d_A : Nat → Int32) (N : Nat) (p0 : Int32) (sz : Nat) (u : Int32) (hu : f_X8_isSet N v_d_A p0 = some u) :
    Met l yX8_isSet wsX8_isSet ({ frames := 1, cells := 0, slots := 0, locals := 22 } : Room) (va_Pc [.ref a_h, .int p0] (PreW D (ty4 cI cC cJ cB) sz [(a_h, .inr (8, [.ref a_h_d, .long v_account, .ref a_h_was, .ref a_h_accounts, .int v_states, .int v_refused, .ref a_h_text, .int v_typed, .int v_at, .int v_sign, .int v_number, .ref a_h_aside, .ref a_h_places, .ref a_h_told])), (a_h_d, .inl (cI, 2086, .inl v_d_A))]))
      (QI D (ty4 cI cC cJ cB) (va_A [(a_h, .inr (8, [.ref a_h_d, .long v_account, .ref a_h_was, .ref a_h_accounts, .int v_states, .int v_refused, .ref a_h_text, .int v_typed, .int v_at, .int v_sign, .int v_number, .ref a_h_aside, .ref a_h_places, .ref a_h_told])), (a_h_d, .inl (cI, 2086, .inl v_d_A))] sz) [(a_h, .inr (8, [.ref a_h_d, .long v_account, .ref a_h_was, .ref a_h_accounts, .int v_states, .int v_refused, .ref a_h_text, .int v_typed, .int v_at, .int v_sign, .int v_number, .ref a_h_aside, .ref a_h_places, .ref a_h_told])), (a_h_d, .inl (cI, 2086, .inl v_d_A))] u) 0 0 (va_A [(a_h, .inr (8, [.ref a_h_d, .long v_account, .ref a_h_was, .ref a_h_accounts, .int v_states, .int v_refused, .ref a_h_text, .int v_typed, .int v_at, .int v_sign, .int v_number, .ref a_h_aside, .ref a_h_places, .ref a_h_told])), (a_h_d, .inl (cI, 2086, .inl v_d_A))] sz) := by
  refine met_go (y := yX8_isSet) (wsy := wsX8_isSet) (cc := cX8_isSet) (maxL := 2) (ret := (some .boolean)) (av := [.ref a_h, .int p0]) (Qc := fun A => QI D (ty4 cI cC cJ cB) A [(a_h, .inr (8, [.ref a_h_d, .long v_account, .ref a_h_was, .ref a_h_accounts, .int v_states, .int v_refused, .ref a_h_text, .int v_typed, .int v_at, .int v_sign, .int v_number, .ref a_h_aside, .ref a_h_places, .ref a_h_told])), (a_h_d, .inl (cI, 2086, .inl v_d_A))] u) (by decide) rfl (Nat.le_of_ble_eq_true rfl) ?_
  intro p e s m below meth c A ls hx hb hr hml hown hts hlocks hnm hN hK hP hD hS hA hl
  have h := hu
  clear hu
  unfold f_X8_isSet at h
  have hl : lv_has ls 2 [(0, .ref a_h), (1, .int p0)] := hl
  refine lv_iload_n hx hb dX8_isSet_0 rfl (lv_at hl 1 rfl) ?_
  refine lv_if_le (tgt := 28) hx hb dX8_isSet_1 (by decide) (fun hc1 => ?_) (fun hc1 => ?_)
  · replace h := it_e hc1 h
    refine lv_iconst (v := (0 : Int32)) hx hb dX8_isSet_28 (by decide) ?_
    obtain rfl := sm_e h
    exact rx_z hx hb hr rfl hP hK hD hS dX8_isSet_29 hlocks
  · replace h := if_e hc1 h
    refine lv_iload_n hx hb dX8_isSet_4 rfl (lv_at hl 1 rfl) ?_
    refine lv_aload_n hx hb dX8_isSet_5 rfl (lv_at hl 0 rfl) ?_
    refine va_get (D := D) (ci := 8) (v := .ref a_h_d) (C := RX8) (T := TX8) (N := 14) hx hb hts in_X8_isSet_X8 hown hK hP 0 rfl rfl 0 (by decide) (hts _ q_X8_isSet_1) (fun _ h9 => h9) rfl dX8_isSet_6 ?_
    refine lv_bipush (v := (41 : Int32)) hx hb dX8_isSet_9 (by decide) ?_
    refine wx_iald hx hb hK hP 1 0 rfl rfl 41 (by decide) (by unfold vp_in; decide) dX8_isSet_11 ?_
    refine lv_ishr hx hb dX8_isSet_12 ?_
    refine lv_if_ne (tgt := 28) hx hb dX8_isSet_13 (by decide) (fun hc2 => ?_) (fun hc2 => ?_)
    · replace h := it_e hc2 h
      refine lv_iconst (v := (0 : Int32)) hx hb dX8_isSet_28 (by decide) ?_
      obtain rfl := sm_e h
      exact rx_z hx hb hr rfl hP hK hD hS dX8_isSet_29 hlocks
    · replace h := in_e hc2 h
      refine lv_iload_n hx hb dX8_isSet_16 rfl (lv_at hl 1 rfl) ?_
      obtain ⟨u3, hu3, h⟩ := bd_e h
      refine kx_i (mc := 0) (ms := 0) (wr := [(a_h, .inr (8, [.ref a_h_d, .long v_account, .ref a_h_was, .ref a_h_accounts, .int v_states, .int v_refused, .ref a_h_text, .int v_typed, .int v_at, .int v_sign, .int v_number, .ref a_h_aside, .ref a_h_places, .ref a_h_told])), (a_h_d, .inl (cI, 2086, .inl v_d_A))]) (ws2 := [(a_h, .inr (8, [.ref a_h_d, .long v_account, .ref a_h_was, .ref a_h_accounts, .int v_states, .int v_refused, .ref a_h_text, .int v_typed, .int v_at, .int v_sign, .int v_number, .ref a_h_aside, .ref a_h_places, .ref a_h_told])), (a_h_d, .inl (cI, 2086, .inl v_d_A))]) (va_runS (As := [.int p0]) (rest := []) ⟨hx, hb, hml, hown, hts⟩ (k_X8_ones l D cI cC cJ cB N p0 s.heap.size _ hu3) (va_cwS 1 hts gX8_isSet_X8_ones rfl rfl rfl (by decide +kernel) ⟨Nat.le_of_ble_eq_true rfl, Nat.le_of_ble_eq_true rfl⟩) (pv_S hP hD hK hN [] rfl rfl) rfl rfl hl.1 rfl (lv_room (Nat.le_of_ble_eq_true rfl)) dX8_isSet_17 ⟨Nat.zero_le _, Nat.zero_le _⟩) hP hD hS hA [] [0, 1] [0, 1] rfl rfl rfl rfl rfl rfl (fun H locs hP hD hS => ?_)
      refine lv_iconst (v := (5 : Int32)) hx hb dX8_isSet_20 (by decide) ?_
      refine lv_icmp_gt (tgt := 28) hx hb dX8_isSet_21 (by decide) (fun hc4 => ?_) (fun hc4 => ?_)
      · replace h := it_e hc4 h
        refine lv_iconst (v := (0 : Int32)) hx hb dX8_isSet_28 (by decide) ?_
        obtain rfl := sm_e h
        exact rx_z hx hb hr rfl hP hK hD hS dX8_isSet_29 hlocks
      · replace h := if_e hc4 h
        refine lv_iconst (v := (1 : Int32)) hx hb dX8_isSet_24 (by decide) ?_
        refine lv_goto (tgt := 29) hx hb dX8_isSet_25 (by decide) ?_
        obtain rfl := sm_e h
        exact rx_z hx hb hr rfl hP hK hD hS dX8_isSet_29 hlocks
-- X8_isCalibrating
def f_X8_isCalibrating_b7 (v_d_A : Nat → Int32) (p0 : Int32) : Nat → Int32 → Int32 → Int32 → Option (Int32)
  | 0, _, _, _ => none
  | k + 1, x2, x3, x4 =>
    (if (v_d_A 41) ≤ x4 then (if x3 = 0 then some (0 : Int32)
    else (if (1000 : Int32) < x2 then some (0 : Int32)
    else some (1 : Int32)))
    else (if ¬ ((p0 >>> (x4 &&& 31)) &&& (1 : Int32)) = (1 : Int32) then nm (x4 + (1 : Int32)) (fun t5 => (f_X8_isCalibrating_b7 v_d_A p0 k x2 x3 t5))
    else gA ((42 : Int32) + x4) 2086 (nm (x2 + (v_d_A (Int32.toNatClampNeg ((42 : Int32) + x4)))) (fun t7 => (if x3 = 0 then nm (x4 + (1 : Int32)) (fun t9 => (f_X8_isCalibrating_b7 v_d_A p0 k t7 (0 : Int32) t9))
    else gA ((74 : Int32) + x4) 2086 ((if ¬ (v_d_A (Int32.toNatClampNeg ((74 : Int32) + x4))) = 0 then nm (x4 + (1 : Int32)) (fun t12 => (f_X8_isCalibrating_b7 v_d_A p0 k t7 (0 : Int32) t12))
    else nm (x4 + (1 : Int32)) (fun t13 => (f_X8_isCalibrating_b7 v_d_A p0 k t7 (1 : Int32) t13)))))))))
def f_X8_isCalibrating (N : Nat) (v_d_A : Nat → Int32) (p0 : Int32) : Option (Int32) :=
  (f_X8_isCalibrating_b7 v_d_A p0 N (0 : Int32) (1 : Int32) (0 : Int32))
theorem q_X8_isCalibrating_1 : (.fieldLink RX8 7 "SpringBalanceModel" "d" "[I" : Cond) ∈ wsX8_isCalibrating := List.mem_of_getElem? (i := 1) (by decide +kernel)
set_option maxRecDepth 20000 in
theorem in_X8_isCalibrating_X8 : ∀ w ∈ u_ws RX8 TX8 14, w ∈ wsX8_isCalibrating := by decide +kernel
set_option maxHeartbeats 8000000 in
set_option maxRecDepth 100000 in
theorem k_X8_isCalibrating (l : Launch) (D : va_G) (cI cC cJ cB : ClassId) (a_h a_h_d a_h_was a_h_accounts a_h_text a_h_aside a_h_places a_h_told : Nat) (v_account : Int64) (v_states : Int32) (v_refused : Int32) (v_typed : Int32) (v_at : Int32) (v_sign : Int32) (v_number : Int32) (v_d_A : Nat → Int32) (N : Nat) (p0 : Int32) (sz : Nat) (u : Int32) (hu : f_X8_isCalibrating N v_d_A p0 = some u) :
    Met l yX8_isCalibrating wsX8_isCalibrating ({ frames := 0, cells := 0, slots := 0, locals := 0 } : Room) (va_Pc [.ref a_h, .int p0] (PreW D (ty4 cI cC cJ cB) sz [(a_h, .inr (8, [.ref a_h_d, .long v_account, .ref a_h_was, .ref a_h_accounts, .int v_states, .int v_refused, .ref a_h_text, .int v_typed, .int v_at, .int v_sign, .int v_number, .ref a_h_aside, .ref a_h_places, .ref a_h_told])), (a_h_d, .inl (cI, 2086, .inl v_d_A))]))
      (QI D (ty4 cI cC cJ cB) (va_A [(a_h, .inr (8, [.ref a_h_d, .long v_account, .ref a_h_was, .ref a_h_accounts, .int v_states, .int v_refused, .ref a_h_text, .int v_typed, .int v_at, .int v_sign, .int v_number, .ref a_h_aside, .ref a_h_places, .ref a_h_told])), (a_h_d, .inl (cI, 2086, .inl v_d_A))] sz) [(a_h, .inr (8, [.ref a_h_d, .long v_account, .ref a_h_was, .ref a_h_accounts, .int v_states, .int v_refused, .ref a_h_text, .int v_typed, .int v_at, .int v_sign, .int v_number, .ref a_h_aside, .ref a_h_places, .ref a_h_told])), (a_h_d, .inl (cI, 2086, .inl v_d_A))] u) 0 0 (va_A [(a_h, .inr (8, [.ref a_h_d, .long v_account, .ref a_h_was, .ref a_h_accounts, .int v_states, .int v_refused, .ref a_h_text, .int v_typed, .int v_at, .int v_sign, .int v_number, .ref a_h_aside, .ref a_h_places, .ref a_h_told])), (a_h_d, .inl (cI, 2086, .inl v_d_A))] sz) := by
  refine met_go (y := yX8_isCalibrating) (wsy := wsX8_isCalibrating) (cc := cX8_isCalibrating) (maxL := 5) (ret := (some .boolean)) (av := [.ref a_h, .int p0]) (Qc := fun A => QI D (ty4 cI cC cJ cB) A [(a_h, .inr (8, [.ref a_h_d, .long v_account, .ref a_h_was, .ref a_h_accounts, .int v_states, .int v_refused, .ref a_h_text, .int v_typed, .int v_at, .int v_sign, .int v_number, .ref a_h_aside, .ref a_h_places, .ref a_h_told])), (a_h_d, .inl (cI, 2086, .inl v_d_A))] u) (by decide) rfl (Nat.le_of_ble_eq_true rfl) ?_
  intro p e s m below meth c A ls hx hb hr hml hown hts hlocks hnm hN hK hP hD hS hA hl
  have h := hu
  clear hu
  unfold f_X8_isCalibrating at h
  have hl : lv_has ls 5 [(0, .ref a_h), (1, .int p0)] := hl
  have B7 : ∀ (k : Nat) (x2 : Int32) (x3 : Int32) (x4 : Int32) (H : Heap) (locs : List Loc) (ls : Array Slot), f_X8_isCalibrating_b7 v_d_A p0 k x2 x3 x4 = some u → va_P D vwCl [(a_h, .inr (8, [.ref a_h_d, .long v_account, .ref a_h_was, .ref a_h_accounts, .int v_states, .int v_refused, .ref a_h_text, .int v_typed, .int v_at, .int v_sign, .int v_number, .ref a_h_aside, .ref a_h_places, .ref a_h_told])), (a_h_d, .inl (cI, 2086, .inl v_d_A))] H → va_D A [(a_h, .inr (8, [.ref a_h_d, .long v_account, .ref a_h_was, .ref a_h_accounts, .int v_states, .int v_refused, .ref a_h_text, .int v_typed, .int v_at, .int v_sign, .int v_number, .ref a_h_aside, .ref a_h_places, .ref a_h_told])), (a_h_d, .inl (cI, 2086, .inl v_d_A))] → va_S A s.heap H locs → lv_has ls 5 [(0, .ref a_h), (1, .int p0), (2, .int x2), (3, .int x3), (4, .int x4)] → W p l e ({ frames := 0, cells := 0, slots := 0, locals := 0 } : Room) s m ([.ref a_h, .int p0] : List Value).toArray below meth c H locs 0 0 (MQ below (QI D (ty4 cI cC cJ cB) A [(a_h, .inr (8, [.ref a_h_d, .long v_account, .ref a_h_was, .ref a_h_accounts, .int v_states, .int v_refused, .ref a_h_text, .int v_typed, .int v_at, .int v_sign, .int v_number, .ref a_h_aside, .ref a_h_places, .ref a_h_told])), (a_h_d, .inl (cI, 2086, .inl v_d_A))] u) ([.ref a_h, .int p0] : List Value).toArray s 0 0 A) (F0 m 7 ls []) := by
    intro k
    induction k with
    | zero =>
      intro x2 x3 x4 H locs ls h
      exact nomatch (show (none : Option (Int32)) = some u from h)
    | succ k ih =>
      intro x2 x3 x4 H locs ls h hP hD hS hl
      rw [f_X8_isCalibrating_b7.eq_2] at h
      refine lv_iload hx hb dX8_isCalibrating_7 (lv_at hl 4 rfl) ?_
      refine lv_aload_n hx hb dX8_isCalibrating_9 rfl (lv_at hl 0 rfl) ?_
      refine va_get (D := D) (ci := 8) (v := .ref a_h_d) (C := RX8) (T := TX8) (N := 14) hx hb hts in_X8_isCalibrating_X8 hown hK hP 0 rfl rfl 0 (by decide) (hts _ q_X8_isCalibrating_1) (fun _ h9 => h9) rfl dX8_isCalibrating_10 ?_
      refine lv_bipush (v := (41 : Int32)) hx hb dX8_isCalibrating_13 (by decide) ?_
      refine wx_iald hx hb hK hP 1 0 rfl rfl 41 (by decide) (by unfold vp_in; decide) dX8_isCalibrating_15 ?_
      refine lv_icmp_ge (tgt := 71) hx hb dX8_isCalibrating_16 (by decide) (fun hc1 => ?_) (fun hc1 => ?_)
      · replace h := it_e hc1 h
        refine lv_iload_n hx hb dX8_isCalibrating_71 rfl (lv_at hl 3 rfl) ?_
        refine lv_if_eq (tgt := 86) hx hb dX8_isCalibrating_72 (by decide) (fun hc2 => ?_) (fun hc2 => ?_)
        · replace h := it_e hc2 h
          refine lv_iconst (v := (0 : Int32)) hx hb dX8_isCalibrating_86 (by decide) ?_
          obtain rfl := sm_e h
          exact rx_z hx hb hr rfl hP hK hD hS dX8_isCalibrating_87 hlocks
        · replace h := if_e hc2 h
          refine lv_iload_n hx hb dX8_isCalibrating_75 rfl (lv_at hl 2 rfl) ?_
          refine lv_sipush (v := (1000 : Int32)) hx hb dX8_isCalibrating_76 (by decide) ?_
          refine lv_icmp_gt (tgt := 86) hx hb dX8_isCalibrating_79 (by decide) (fun hc3 => ?_) (fun hc3 => ?_)
          · replace h := it_e hc3 h
            refine lv_iconst (v := (0 : Int32)) hx hb dX8_isCalibrating_86 (by decide) ?_
            obtain rfl := sm_e h
            exact rx_z hx hb hr rfl hP hK hD hS dX8_isCalibrating_87 hlocks
          · replace h := if_e hc3 h
            refine lv_iconst (v := (1 : Int32)) hx hb dX8_isCalibrating_82 (by decide) ?_
            refine lv_goto (tgt := 87) hx hb dX8_isCalibrating_83 (by decide) ?_
            obtain rfl := sm_e h
            exact rx_z hx hb hr rfl hP hK hD hS dX8_isCalibrating_87 hlocks
      · replace h := if_e hc1 h
        refine lv_iload_n hx hb dX8_isCalibrating_19 rfl (lv_at hl 1 rfl) ?_
        refine lv_iload hx hb dX8_isCalibrating_20 (lv_at hl 4 rfl) ?_
        refine lv_ishr hx hb dX8_isCalibrating_22 ?_
        refine lv_iconst (v := (1 : Int32)) hx hb dX8_isCalibrating_23 (by decide) ?_
        refine lv_iand hx hb dX8_isCalibrating_24 ?_
        refine lv_iconst (v := (1 : Int32)) hx hb dX8_isCalibrating_25 (by decide) ?_
        refine lv_icmp_ne (tgt := 65) hx hb dX8_isCalibrating_26 (by decide) (fun hc4 => ?_) (fun hc4 => ?_)
        · replace h := it_e hc4 h
          obtain ⟨t5, et5, h⟩ := nm_x h
          refine lv_iinc (v := t5) (lv' := [(4, .int t5), (0, .ref a_h), (1, .int p0), (2, .int x2), (3, .int x3)]) hx hb dX8_isCalibrating_65 hl (k := 4) rfl (by rw [et5]; rfl) (by decide) rfl (fun ls hl => ?_)
          refine lv_goto (tgt := 7) hx hb dX8_isCalibrating_68 (by decide) ?_
          exact ih x2 x3 t5 _ _ _ h hP hD hS (lv_sub hl [1, 2, 3, 4, 0] rfl)
        · replace h := in_e hc4 h
          refine lv_iload_n hx hb dX8_isCalibrating_29 rfl (lv_at hl 2 rfl) ?_
          refine lv_aload_n hx hb dX8_isCalibrating_30 rfl (lv_at hl 0 rfl) ?_
          refine va_get (D := D) (ci := 8) (v := .ref a_h_d) (C := RX8) (T := TX8) (N := 14) hx hb hts in_X8_isCalibrating_X8 hown hK hP 0 rfl rfl 0 (by decide) (hts _ q_X8_isCalibrating_1) (fun _ h9 => h9) rfl dX8_isCalibrating_31 ?_
          refine lv_bipush (v := (42 : Int32)) hx hb dX8_isCalibrating_34 (by decide) ?_
          refine lv_iload hx hb dX8_isCalibrating_36 (lv_at hl 4 rfl) ?_
          refine lv_iadd hx hb dX8_isCalibrating_38 ?_
          obtain ⟨hi6, h⟩ := gA_e h
          refine wx_iald hx hb hK hP 1 0 rfl rfl (Int32.toNatClampNeg ((42 : Int32) + x4)) rfl hi6 dX8_isCalibrating_39 ?_
          refine lv_iadd hx hb dX8_isCalibrating_40 ?_
          refine lv_topi (fun t7 et7 => ?_)
          replace h := nm_at h et7
          refine lv_istore_n (lv' := [(2, .int t7), (0, .ref a_h), (1, .int p0), (3, .int x3), (4, .int x4)]) hx hb dX8_isCalibrating_41 rfl hl (by decide) rfl (fun ls hl => ?_)
          refine lv_iload_n hx hb dX8_isCalibrating_42 rfl (lv_at hl 3 rfl) ?_
          refine lv_if_eq (tgt := 63) hx hb dX8_isCalibrating_43 (by decide) (fun hc8 => ?_) (fun hc8 => ?_)
          · replace h := it_e hc8 h
            refine lv_iconst (v := (0 : Int32)) hx hb dX8_isCalibrating_63 (by decide) ?_
            refine lv_istore_n (lv' := [(3, .int (0 : Int32)), (2, .int t7), (0, .ref a_h), (1, .int p0), (4, .int x4)]) hx hb dX8_isCalibrating_64 rfl hl (by decide) rfl (fun ls hl => ?_)
            obtain ⟨t9, et9, h⟩ := nm_x h
            refine lv_iinc (v := t9) (lv' := [(4, .int t9), (3, .int (0 : Int32)), (2, .int t7), (0, .ref a_h), (1, .int p0)]) hx hb dX8_isCalibrating_65 hl (k := 4) rfl (by rw [et9]; rfl) (by decide) rfl (fun ls hl => ?_)
            refine lv_goto (tgt := 7) hx hb dX8_isCalibrating_68 (by decide) ?_
            exact ih t7 (0 : Int32) t9 _ _ _ h hP hD hS (lv_sub hl [3, 4, 2, 1, 0] rfl)
          · replace h := if_e hc8 h
            refine lv_aload_n hx hb dX8_isCalibrating_46 rfl (lv_at hl 1 rfl) ?_
            refine va_get (D := D) (ci := 8) (v := .ref a_h_d) (C := RX8) (T := TX8) (N := 14) hx hb hts in_X8_isCalibrating_X8 hown hK hP 0 rfl rfl 0 (by decide) (hts _ q_X8_isCalibrating_1) (fun _ h9 => h9) rfl dX8_isCalibrating_47 ?_
            refine lv_bipush (v := (74 : Int32)) hx hb dX8_isCalibrating_50 (by decide) ?_
            refine lv_iload hx hb dX8_isCalibrating_52 (lv_at hl 4 rfl) ?_
            refine lv_iadd hx hb dX8_isCalibrating_54 ?_
            obtain ⟨hi10, h⟩ := gA_e h
            refine wx_iald hx hb hK hP 1 0 rfl rfl (Int32.toNatClampNeg ((74 : Int32) + x4)) rfl hi10 dX8_isCalibrating_55 ?_
            refine lv_if_ne (tgt := 63) hx hb dX8_isCalibrating_56 (by decide) (fun hc11 => ?_) (fun hc11 => ?_)
            · replace h := it_e hc11 h
              refine lv_iconst (v := (0 : Int32)) hx hb dX8_isCalibrating_63 (by decide) ?_
              refine lv_istore_n (lv' := [(3, .int (0 : Int32)), (2, .int t7), (0, .ref a_h), (1, .int p0), (4, .int x4)]) hx hb dX8_isCalibrating_64 rfl hl (by decide) rfl (fun ls hl => ?_)
              obtain ⟨t12, et12, h⟩ := nm_x h
              refine lv_iinc (v := t12) (lv' := [(4, .int t12), (3, .int (0 : Int32)), (2, .int t7), (0, .ref a_h), (1, .int p0)]) hx hb dX8_isCalibrating_65 hl (k := 4) rfl (by rw [et12]; rfl) (by decide) rfl (fun ls hl => ?_)
              refine lv_goto (tgt := 7) hx hb dX8_isCalibrating_68 (by decide) ?_
              exact ih t7 (0 : Int32) t12 _ _ _ h hP hD hS (lv_sub hl [3, 4, 2, 1, 0] rfl)
            · replace h := in_e hc11 h
              refine lv_iconst (v := (1 : Int32)) hx hb dX8_isCalibrating_59 (by decide) ?_
              refine lv_goto (tgt := 64) hx hb dX8_isCalibrating_60 (by decide) ?_
              refine lv_istore_n (lv' := [(3, .int (1 : Int32)), (2, .int t7), (0, .ref a_h), (1, .int p0), (4, .int x4)]) hx hb dX8_isCalibrating_64 rfl hl (by decide) rfl (fun ls hl => ?_)
              obtain ⟨t13, et13, h⟩ := nm_x h
              refine lv_iinc (v := t13) (lv' := [(4, .int t13), (3, .int (1 : Int32)), (2, .int t7), (0, .ref a_h), (1, .int p0)]) hx hb dX8_isCalibrating_65 hl (k := 4) rfl (by rw [et13]; rfl) (by decide) rfl (fun ls hl => ?_)
              refine lv_goto (tgt := 7) hx hb dX8_isCalibrating_68 (by decide) ?_
              exact ih t7 (1 : Int32) t13 _ _ _ h hP hD hS (lv_sub hl [3, 4, 2, 1, 0] rfl)
  refine lv_iconst (v := (0 : Int32)) hx hb dX8_isCalibrating_0 (by decide) ?_
  refine lv_istore_n (lv' := [(2, .int (0 : Int32)), (0, .ref a_h), (1, .int p0)]) hx hb dX8_isCalibrating_1 rfl hl (by decide) rfl (fun ls hl => ?_)
  refine lv_iconst (v := (1 : Int32)) hx hb dX8_isCalibrating_2 (by decide) ?_
  refine lv_istore_n (lv' := [(3, .int (1 : Int32)), (2, .int (0 : Int32)), (0, .ref a_h), (1, .int p0)]) hx hb dX8_isCalibrating_3 rfl hl (by decide) rfl (fun ls hl => ?_)
  refine lv_iconst (v := (0 : Int32)) hx hb dX8_isCalibrating_4 (by decide) ?_
  refine lv_istore (lv' := [(4, .int (0 : Int32)), (3, .int (1 : Int32)), (2, .int (0 : Int32)), (0, .ref a_h), (1, .int p0)]) hx hb dX8_isCalibrating_5 hl (by decide) rfl (fun ls hl => ?_)
  exact B7 N (0 : Int32) (1 : Int32) (0 : Int32) _ _ _ h hP hD hS (lv_sub hl [3, 4, 2, 1, 0] rfl)
-- X8_calibrates
def f_X8_calibrates_b258 (x2 : Int64) (m_aside_A : Nat → Int32) (m_places_A : Nat → Int32) (m_told_A : Nat → Int32) : Nat → Int32 → (Nat → Int32) → Option (Int64 × (Nat → Int32) × (Nat → Int32) × (Nat → Int32) × (Nat → Int32))
  | 0, _, _ => none
  | k + 1, x5, m_d_A =>
    (if (2086 : Int32) ≤ x5 then some (x2, m_d_A, m_aside_A, m_places_A, m_told_A)
    else gA x5 2086 (nm (m_aside_A (Int32.toNatClampNeg x5)) (fun t15 => gA x5 2086 (nm (upd m_d_A (Int32.toNatClampNeg x5) t15) (fun g17 => nm (x5 + (1 : Int32)) (fun t18 => (f_X8_calibrates_b258 x2 m_aside_A m_places_A m_told_A k t18 g17)))))))
def f_X8_calibrates_b194 (N : Nat) (p0 : Int32) (x2 : Int64) (m_aside_A : Nat → Int32) (m_told_A : Nat → Int32) : Nat → Int32 → Int32 → Int64 → (Nat → Int32) → (Nat → Int32) → Option (Int64 × (Nat → Int32) × (Nat → Int32) × (Nat → Int32) × (Nat → Int32))
  | 0, _, _, _, _, _ => none
  | k + 1, x4, x5, m_account, m_d_A, m_places_A =>
    (if x5 < 0 then (f_X8_calibrates_b258 x2 m_aside_A m_places_A m_told_A N (0 : Int32) m_d_A)
    else (if ¬ ((p0 >>> (x5 &&& 31)) &&& (1 : Int32)) = (1 : Int32) then nm (x5 + (-1 : Int32)) (fun t20 => (f_X8_calibrates_b194 N p0 x2 m_aside_A m_told_A k x4 t20 m_account m_d_A m_places_A))
    else gA ((42 : Int32) + x5) 2086 (Option.bind (f_X8_goes N m_account m_d_A ((m_d_A 0) - (m_d_A (Int32.toNatClampNeg ((42 : Int32) + x5))))) (fun u22 => nm (x4 + (-1 : Int32)) (fun t23 => nm (u22.2 3) (fun t24 => gA ((6 : Int32) + t23) 12 (nm (upd m_places_A (Int32.toNatClampNeg ((6 : Int32) + t23)) t24) (fun g26 => nm (x5 + (-1 : Int32)) (fun t27 => (f_X8_calibrates_b194 N p0 x2 m_aside_A m_told_A k t23 t27 u22.1 u22.2 g26))))))))))
def f_X8_calibrates_b63 (N : Nat) (p0 : Int32) (x2 : Int64) (m_aside_A : Nat → Int32) : Nat → Int32 → Int32 → Int64 → (Nat → Int32) → (Nat → Int32) → (Nat → Int32) → Option (Int64 × (Nat → Int32) × (Nat → Int32) × (Nat → Int32) × (Nat → Int32))
  | 0, _, _, _, _, _, _ => none
  | k + 1, x4, x5, m_account, m_d_A, m_places_A, m_told_A =>
    (if (m_d_A 41) ≤ x5 then gA x4 12 (nm (m_places_A (Int32.toNatClampNeg x4)) (fun t8 => gA ((6 : Int32) + x4) 12 (nm (upd m_places_A (Int32.toNatClampNeg ((6 : Int32) + x4)) t8) (fun g10 => nm ((m_d_A 41) - (1 : Int32)) (fun t11 => (f_X8_calibrates_b194 N p0 x2 m_aside_A m_told_A N x4 t11 m_account m_d_A g10))))))
    else (if ¬ ((p0 >>> (x5 &&& 31)) &&& (1 : Int32)) = (1 : Int32) then nm (x5 + (1 : Int32)) (fun t29 => (f_X8_calibrates_b63 N p0 x2 m_aside_A k x4 t29 m_account m_d_A m_places_A m_told_A))
    else gA ((42 : Int32) + x5) 2086 (Option.bind (f_X8_goes N m_account m_d_A ((m_d_A 0) + (m_d_A (Int32.toNatClampNeg ((42 : Int32) + x5))))) (fun u31 => nm (x4 + (1 : Int32)) (fun t32 => nm (u31.2 3) (fun t33 => gA t32 12 (nm (upd m_places_A (Int32.toNatClampNeg t32) t33) (fun g35 => gA (t32 - (1 : Int32)) 6 (gA ((42 : Int32) + x5) 2086 (gA ((50 : Int32) + x5) 2086 (nm (((m_told_A (Int32.toNatClampNeg (t32 - (1 : Int32)))) + (u31.2 (Int32.toNatClampNeg ((42 : Int32) + x5)))) + (u31.2 (Int32.toNatClampNeg ((50 : Int32) + x5)))) (fun t39 => gA t32 6 (nm (upd m_told_A (Int32.toNatClampNeg t32) t39) (fun g41 => nm (x5 + (1 : Int32)) (fun t42 => (f_X8_calibrates_b63 N p0 x2 m_aside_A k t32 t42 u31.1 u31.2 g35 g41))))))))))))))))
def f_X8_calibrates_b2 (N : Nat) (p0 : Int32) (m_account : Int64) (m_d_A : Nat → Int32) (m_places_A : Nat → Int32) (m_told_A : Nat → Int32) : Nat → Int32 → (Nat → Int32) → Option (Int64 × (Nat → Int32) × (Nat → Int32) × (Nat → Int32) × (Nat → Int32))
  | 0, _, _ => none
  | k + 1, x2, m_aside_A =>
    (if (2086 : Int32) ≤ x2 then nm (upd m_d_A 0 (0 : Int32)) (fun g2 => Option.bind (f_X8_zeroes g2) (fun u3 => nm (upd m_places_A 0 (0 : Int32)) (fun g4 => nm (upd m_told_A 0 (0 : Int32)) (fun g5 => (f_X8_calibrates_b63 N p0 m_account m_aside_A N (0 : Int32) (0 : Int32) u3.1 u3.2 g4 g5)))))
    else gA x2 2086 (nm (m_d_A (Int32.toNatClampNeg x2)) (fun t44 => gA x2 2086 (nm (upd m_aside_A (Int32.toNatClampNeg x2) t44) (fun g46 => nm (x2 + (1 : Int32)) (fun t47 => (f_X8_calibrates_b2 N p0 m_account m_d_A m_places_A m_told_A k t47 g46)))))))
def f_X8_calibrates (N : Nat) (v_account : Int64) (v_d_A : Nat → Int32) (v_aside_A : Nat → Int32) (v_places_A : Nat → Int32) (v_told_A : Nat → Int32) (p0 : Int32) : Option (Int64 × (Nat → Int32) × (Nat → Int32) × (Nat → Int32) × (Nat → Int32)) :=
  (f_X8_calibrates_b2 N p0 v_account v_d_A v_places_A v_told_A N (0 : Int32) v_aside_A)
theorem q_X8_calibrates_3 : (.fieldLink RX8 37 "SpringBalanceModel" "account" "J" : Cond) ∈ wsX8_calibrates := List.mem_of_getElem? (i := 3) (by decide +kernel)
set_option maxRecDepth 20000 in
theorem in_X8_calibrates_X8 : ∀ w ∈ u_ws RX8 TX8 14, w ∈ wsX8_calibrates := by decide +kernel
theorem q_X8_calibrates_2 : (.fieldLink RX8 7 "SpringBalanceModel" "d" "[I" : Cond) ∈ wsX8_calibrates := List.mem_of_getElem? (i := 2) (by decide +kernel)
theorem q_X8_calibrates_4 : (.fieldLink RX8 27 "SpringBalanceModel" "places" "[I" : Cond) ∈ wsX8_calibrates := List.mem_of_getElem? (i := 4) (by decide +kernel)
theorem q_X8_calibrates_5 : (.fieldLink RX8 30 "SpringBalanceModel" "told" "[I" : Cond) ∈ wsX8_calibrates := List.mem_of_getElem? (i := 5) (by decide +kernel)
theorem q_X8_calibrates_1 : (.fieldLink RX8 24 "SpringBalanceModel" "aside" "[I" : Cond) ∈ wsX8_calibrates := List.mem_of_getElem? (i := 1) (by decide +kernel)
set_option maxHeartbeats 8000000 in
set_option maxRecDepth 100000 in
theorem k_X8_calibrates (l : Launch) (D : va_G) (cI cC cJ cB : ClassId) (a_h a_h_d a_h_was a_h_accounts a_h_text a_h_aside a_h_places a_h_told : Nat) (v_account : Int64) (v_states : Int32) (v_refused : Int32) (v_typed : Int32) (v_at : Int32) (v_sign : Int32) (v_number : Int32) (v_d_A : Nat → Int32) (v_aside_A : Nat → Int32) (v_places_A : Nat → Int32) (v_told_A : Nat → Int32) (N : Nat) (p0 : Int32) (sz : Nat) (u : Int64 × (Nat → Int32) × (Nat → Int32) × (Nat → Int32) × (Nat → Int32)) (hu : f_X8_calibrates N v_account v_d_A v_aside_A v_places_A v_told_A p0 = some u) :
    Met l yX8_calibrates wsX8_calibrates ({ frames := 3, cells := 0, slots := 0, locals := 76 } : Room) (va_Pc [.ref a_h, .int p0] (PreW D (ty4 cI cC cJ cB) sz [(a_h, .inr (8, [.ref a_h_d, .long v_account, .ref a_h_was, .ref a_h_accounts, .int v_states, .int v_refused, .ref a_h_text, .int v_typed, .int v_at, .int v_sign, .int v_number, .ref a_h_aside, .ref a_h_places, .ref a_h_told])), (a_h_d, .inl (cI, 2086, .inl v_d_A)), (a_h_aside, .inl (cI, 2086, .inl v_aside_A)), (a_h_places, .inl (cI, 12, .inl v_places_A)), (a_h_told, .inl (cI, 6, .inl v_told_A))]))
      (QV D (ty4 cI cC cJ cB) (va_A [(a_h, .inr (8, [.ref a_h_d, .long v_account, .ref a_h_was, .ref a_h_accounts, .int v_states, .int v_refused, .ref a_h_text, .int v_typed, .int v_at, .int v_sign, .int v_number, .ref a_h_aside, .ref a_h_places, .ref a_h_told])), (a_h_d, .inl (cI, 2086, .inl v_d_A)), (a_h_aside, .inl (cI, 2086, .inl v_aside_A)), (a_h_places, .inl (cI, 12, .inl v_places_A)), (a_h_told, .inl (cI, 6, .inl v_told_A))] sz) [(a_h, .inr (8, [.ref a_h_d, .long u.1, .ref a_h_was, .ref a_h_accounts, .int v_states, .int v_refused, .ref a_h_text, .int v_typed, .int v_at, .int v_sign, .int v_number, .ref a_h_aside, .ref a_h_places, .ref a_h_told])), (a_h_d, .inl (cI, 2086, .inl u.2.1)), (a_h_aside, .inl (cI, 2086, .inl u.2.2.1)), (a_h_places, .inl (cI, 12, .inl u.2.2.2.1)), (a_h_told, .inl (cI, 6, .inl u.2.2.2.2))]) 0 0 (va_A [(a_h, .inr (8, [.ref a_h_d, .long v_account, .ref a_h_was, .ref a_h_accounts, .int v_states, .int v_refused, .ref a_h_text, .int v_typed, .int v_at, .int v_sign, .int v_number, .ref a_h_aside, .ref a_h_places, .ref a_h_told])), (a_h_d, .inl (cI, 2086, .inl v_d_A)), (a_h_aside, .inl (cI, 2086, .inl v_aside_A)), (a_h_places, .inl (cI, 12, .inl v_places_A)), (a_h_told, .inl (cI, 6, .inl v_told_A))] sz) := by
  refine met_go (y := yX8_calibrates) (wsy := wsX8_calibrates) (cc := cX8_calibrates) (maxL := 6) (ret := none) (av := [.ref a_h, .int p0]) (Qc := fun A => QV D (ty4 cI cC cJ cB) A [(a_h, .inr (8, [.ref a_h_d, .long u.1, .ref a_h_was, .ref a_h_accounts, .int v_states, .int v_refused, .ref a_h_text, .int v_typed, .int v_at, .int v_sign, .int v_number, .ref a_h_aside, .ref a_h_places, .ref a_h_told])), (a_h_d, .inl (cI, 2086, .inl u.2.1)), (a_h_aside, .inl (cI, 2086, .inl u.2.2.1)), (a_h_places, .inl (cI, 12, .inl u.2.2.2.1)), (a_h_told, .inl (cI, 6, .inl u.2.2.2.2))]) (by decide) rfl (Nat.le_of_ble_eq_true rfl) ?_
  intro p e s m below meth c A ls hx hb hr hml hown hts hlocks hnm hN hK hP hD hS hA hl
  have h := hu
  clear hu
  unfold f_X8_calibrates at h
  have hl : lv_has ls 6 [(0, .ref a_h), (1, .int p0)] := hl
  have B258 : ∀ (k : Nat) (x2 : Int64) (x4 : Int32) (x5 : Int32) (m_account : Int64) (m_d_A : Nat → Int32) (m_aside_A : Nat → Int32) (m_places_A : Nat → Int32) (m_told_A : Nat → Int32) (H : Heap) (locs : List Loc) (ls : Array Slot), f_X8_calibrates_b258 x2 m_aside_A m_places_A m_told_A k x5 m_d_A = some u → va_P D vwCl [(a_h, .inr (8, [.ref a_h_d, .long m_account, .ref a_h_was, .ref a_h_accounts, .int v_states, .int v_refused, .ref a_h_text, .int v_typed, .int v_at, .int v_sign, .int v_number, .ref a_h_aside, .ref a_h_places, .ref a_h_told])), (a_h_d, .inl (cI, 2086, .inl m_d_A)), (a_h_aside, .inl (cI, 2086, .inl m_aside_A)), (a_h_places, .inl (cI, 12, .inl m_places_A)), (a_h_told, .inl (cI, 6, .inl m_told_A))] H → va_D A [(a_h, .inr (8, [.ref a_h_d, .long m_account, .ref a_h_was, .ref a_h_accounts, .int v_states, .int v_refused, .ref a_h_text, .int v_typed, .int v_at, .int v_sign, .int v_number, .ref a_h_aside, .ref a_h_places, .ref a_h_told])), (a_h_d, .inl (cI, 2086, .inl m_d_A)), (a_h_aside, .inl (cI, 2086, .inl m_aside_A)), (a_h_places, .inl (cI, 12, .inl m_places_A)), (a_h_told, .inl (cI, 6, .inl m_told_A))] → va_S A s.heap H locs → lv_has ls 6 [(0, .ref a_h), (1, .int p0), (2, .long x2), (4, .int x4), (5, .int x5)] → W p l e ({ frames := 3, cells := 0, slots := 0, locals := 76 } : Room) s m ([.ref a_h, .int p0] : List Value).toArray below meth c H locs 0 0 (MQ below (QV D (ty4 cI cC cJ cB) A [(a_h, .inr (8, [.ref a_h_d, .long u.1, .ref a_h_was, .ref a_h_accounts, .int v_states, .int v_refused, .ref a_h_text, .int v_typed, .int v_at, .int v_sign, .int v_number, .ref a_h_aside, .ref a_h_places, .ref a_h_told])), (a_h_d, .inl (cI, 2086, .inl u.2.1)), (a_h_aside, .inl (cI, 2086, .inl u.2.2.1)), (a_h_places, .inl (cI, 12, .inl u.2.2.2.1)), (a_h_told, .inl (cI, 6, .inl u.2.2.2.2))]) ([.ref a_h, .int p0] : List Value).toArray s 0 0 A) (F0 m 258 ls []) := by
    intro k
    induction k with
    | zero =>
      intro x2 x4 x5 m_account m_d_A m_aside_A m_places_A m_told_A H locs ls h
      exact nomatch (show (none : Option (Int64 × (Nat → Int32) × (Nat → Int32) × (Nat → Int32) × (Nat → Int32))) = some u from h)
    | succ k ih =>
      intro x2 x4 x5 m_account m_d_A m_aside_A m_places_A m_told_A H locs ls h hP hD hS hl
      rw [f_X8_calibrates_b258.eq_2] at h
      refine lv_iload hx hb dX8_calibrates_258 (lv_at hl 4 rfl) ?_
      refine lv_sipush (v := (2086 : Int32)) hx hb dX8_calibrates_260 (by decide) ?_
      refine lv_icmp_ge (tgt := 286) hx hb dX8_calibrates_263 (by decide) (fun hc13 => ?_) (fun hc13 => ?_)
      · replace h := it_e hc13 h
        refine lv_aload_n hx hb dX8_calibrates_286 rfl (lv_at hl 0 rfl) ?_
        refine lv_lload_n hx hb dX8_calibrates_287 rfl (lv_at hl 2 rfl) ?_
        refine va_put (D := D) (ci := 8) (v := .long x2) (ty := .long) (C := RX8) (T := TX8) (N := 14) hx hb hts in_X8_calibrates_X8 tyX8 tyX8_ok nmX8 hown hK hP hD hS 0 rfl rfl 1 (by decide) (hts _ q_X8_calibrates_3) (fun _ h9 => h9) rfl (by decide +kernel) rfl rfl (Nat.le_of_ble_eq_true rfl) dX8_calibrates_288 (fun H locs hP hD hS => ?_)
        have hP : va_P D vwCl [(a_h, .inr (8, [.ref a_h_d, .long x2, .ref a_h_was, .ref a_h_accounts, .int v_states, .int v_refused, .ref a_h_text, .int v_typed, .int v_at, .int v_sign, .int v_number, .ref a_h_aside, .ref a_h_places, .ref a_h_told])), (a_h_d, .inl (cI, 2086, .inl m_d_A)), (a_h_aside, .inl (cI, 2086, .inl m_aside_A)), (a_h_places, .inl (cI, 12, .inl m_places_A)), (a_h_told, .inl (cI, 6, .inl m_told_A))] H := hP
        have hD : va_D A [(a_h, .inr (8, [.ref a_h_d, .long x2, .ref a_h_was, .ref a_h_accounts, .int v_states, .int v_refused, .ref a_h_text, .int v_typed, .int v_at, .int v_sign, .int v_number, .ref a_h_aside, .ref a_h_places, .ref a_h_told])), (a_h_d, .inl (cI, 2086, .inl m_d_A)), (a_h_aside, .inl (cI, 2086, .inl m_aside_A)), (a_h_places, .inl (cI, 12, .inl m_places_A)), (a_h_told, .inl (cI, 6, .inl m_told_A))] := hD
        obtain rfl := sm_e h
        exact rx_v hx hb hr  hP hK hD hS dX8_calibrates_291 hlocks
      · replace h := if_e hc13 h
        refine lv_aload_n hx hb dX8_calibrates_266 rfl (lv_at hl 0 rfl) ?_
        refine va_get (D := D) (ci := 8) (v := .ref a_h_d) (C := RX8) (T := TX8) (N := 14) hx hb hts in_X8_calibrates_X8 hown hK hP 0 rfl rfl 0 (by decide) (hts _ q_X8_calibrates_2) (fun _ h9 => h9) rfl dX8_calibrates_267 ?_
        refine lv_iload hx hb dX8_calibrates_270 (lv_at hl 4 rfl) ?_
        refine lv_aload_n hx hb dX8_calibrates_272 rfl (lv_at hl 0 rfl) ?_
        refine va_get (D := D) (ci := 8) (v := .ref a_h_aside) (C := RX8) (T := TX8) (N := 14) hx hb hts in_X8_calibrates_X8 hown hK hP 0 rfl rfl 11 (by decide) (hts _ q_X8_calibrates_1) (fun _ h9 => h9) rfl dX8_calibrates_273 ?_
        refine lv_iload hx hb dX8_calibrates_276 (lv_at hl 4 rfl) ?_
        obtain ⟨hi14, h⟩ := gA_e h
        refine wx_iald hx hb hK hP 2 0 rfl rfl (Int32.toNatClampNeg x5) rfl hi14 dX8_calibrates_278 ?_
        refine lv_topi (fun t15 et15 => ?_)
        replace h := nm_at h et15
        obtain ⟨hi16, h⟩ := gA_e h
        refine wx_iast hx hb hK hP hD hS 1 0 rfl rfl (Int32.toNatClampNeg x5) rfl hi16 dX8_calibrates_279 rfl (fun H locs hP hD hS => ?_)
        obtain ⟨g17, eg17, h⟩ := nm_x h
        have hP : va_P D vwCl [(a_h, .inr (8, [.ref a_h_d, .long m_account, .ref a_h_was, .ref a_h_accounts, .int v_states, .int v_refused, .ref a_h_text, .int v_typed, .int v_at, .int v_sign, .int v_number, .ref a_h_aside, .ref a_h_places, .ref a_h_told])), (a_h_d, .inl (cI, 2086, .inl g17)), (a_h_aside, .inl (cI, 2086, .inl m_aside_A)), (a_h_places, .inl (cI, 12, .inl m_places_A)), (a_h_told, .inl (cI, 6, .inl m_told_A))] H := by rw [eg17]; exact hP
        have hD : va_D A [(a_h, .inr (8, [.ref a_h_d, .long m_account, .ref a_h_was, .ref a_h_accounts, .int v_states, .int v_refused, .ref a_h_text, .int v_typed, .int v_at, .int v_sign, .int v_number, .ref a_h_aside, .ref a_h_places, .ref a_h_told])), (a_h_d, .inl (cI, 2086, .inl g17)), (a_h_aside, .inl (cI, 2086, .inl m_aside_A)), (a_h_places, .inl (cI, 12, .inl m_places_A)), (a_h_told, .inl (cI, 6, .inl m_told_A))] := by rw [eg17]; exact hD
        obtain ⟨t18, et18, h⟩ := nm_x h
        refine lv_iinc (v := t18) (lv' := [(5, .int t18), (0, .ref a_h), (1, .int p0), (2, .long x2), (4, .int x4)]) hx hb dX8_calibrates_280 hl (k := 4) rfl (by rw [et18]; rfl) (by decide) rfl (fun ls hl => ?_)
        refine lv_goto (tgt := 258) hx hb dX8_calibrates_283 (by decide) ?_
        exact ih x2 x4 t18 m_account g17 m_aside_A m_places_A m_told_A _ _ _ h hP hD hS (lv_sub hl [1, 2, 3, 4, 0] rfl)
  have B194 : ∀ (k : Nat) (x2 : Int64) (x4 : Int32) (x5 : Int32) (m_account : Int64) (m_d_A : Nat → Int32) (m_aside_A : Nat → Int32) (m_places_A : Nat → Int32) (m_told_A : Nat → Int32) (H : Heap) (locs : List Loc) (ls : Array Slot), f_X8_calibrates_b194 N p0 x2 m_aside_A m_told_A k x4 x5 m_account m_d_A m_places_A = some u → va_P D vwCl [(a_h, .inr (8, [.ref a_h_d, .long m_account, .ref a_h_was, .ref a_h_accounts, .int v_states, .int v_refused, .ref a_h_text, .int v_typed, .int v_at, .int v_sign, .int v_number, .ref a_h_aside, .ref a_h_places, .ref a_h_told])), (a_h_d, .inl (cI, 2086, .inl m_d_A)), (a_h_aside, .inl (cI, 2086, .inl m_aside_A)), (a_h_places, .inl (cI, 12, .inl m_places_A)), (a_h_told, .inl (cI, 6, .inl m_told_A))] H → va_D A [(a_h, .inr (8, [.ref a_h_d, .long m_account, .ref a_h_was, .ref a_h_accounts, .int v_states, .int v_refused, .ref a_h_text, .int v_typed, .int v_at, .int v_sign, .int v_number, .ref a_h_aside, .ref a_h_places, .ref a_h_told])), (a_h_d, .inl (cI, 2086, .inl m_d_A)), (a_h_aside, .inl (cI, 2086, .inl m_aside_A)), (a_h_places, .inl (cI, 12, .inl m_places_A)), (a_h_told, .inl (cI, 6, .inl m_told_A))] → va_S A s.heap H locs → lv_has ls 6 [(0, .ref a_h), (1, .int p0), (2, .long x2), (4, .int x4), (5, .int x5)] → W p l e ({ frames := 3, cells := 0, slots := 0, locals := 76 } : Room) s m ([.ref a_h, .int p0] : List Value).toArray below meth c H locs 0 0 (MQ below (QV D (ty4 cI cC cJ cB) A [(a_h, .inr (8, [.ref a_h_d, .long u.1, .ref a_h_was, .ref a_h_accounts, .int v_states, .int v_refused, .ref a_h_text, .int v_typed, .int v_at, .int v_sign, .int v_number, .ref a_h_aside, .ref a_h_places, .ref a_h_told])), (a_h_d, .inl (cI, 2086, .inl u.2.1)), (a_h_aside, .inl (cI, 2086, .inl u.2.2.1)), (a_h_places, .inl (cI, 12, .inl u.2.2.2.1)), (a_h_told, .inl (cI, 6, .inl u.2.2.2.2))]) ([.ref a_h, .int p0] : List Value).toArray s 0 0 A) (F0 m 194 ls []) := by
    intro k
    induction k with
    | zero =>
      intro x2 x4 x5 m_account m_d_A m_aside_A m_places_A m_told_A H locs ls h
      exact nomatch (show (none : Option (Int64 × (Nat → Int32) × (Nat → Int32) × (Nat → Int32) × (Nat → Int32))) = some u from h)
    | succ k ih =>
      intro x2 x4 x5 m_account m_d_A m_aside_A m_places_A m_told_A H locs ls h hP hD hS hl
      rw [f_X8_calibrates_b194.eq_2] at h
      refine lv_iload hx hb dX8_calibrates_194 (lv_at hl 4 rfl) ?_
      refine lv_if_lt (tgt := 255) hx hb dX8_calibrates_196 (by decide) (fun hc12 => ?_) (fun hc12 => ?_)
      · replace h := it_e hc12 h
        refine lv_iconst (v := (0 : Int32)) hx hb dX8_calibrates_255 (by decide) ?_
        refine lv_istore (lv' := [(5, .int (0 : Int32)), (0, .ref a_h), (1, .int p0), (2, .long x2), (4, .int x4)]) hx hb dX8_calibrates_256 hl (by decide) rfl (fun ls hl => ?_)
        exact B258 N x2 x4 (0 : Int32) m_account m_d_A m_aside_A m_places_A m_told_A _ _ _ h hP hD hS (lv_sub hl [1, 2, 3, 4, 0] rfl)
      · replace h := if_e hc12 h
        refine lv_iload_n hx hb dX8_calibrates_199 rfl (lv_at hl 1 rfl) ?_
        refine lv_iload hx hb dX8_calibrates_200 (lv_at hl 4 rfl) ?_
        refine lv_ishr hx hb dX8_calibrates_202 ?_
        refine lv_iconst (v := (1 : Int32)) hx hb dX8_calibrates_203 (by decide) ?_
        refine lv_iand hx hb dX8_calibrates_204 ?_
        refine lv_iconst (v := (1 : Int32)) hx hb dX8_calibrates_205 (by decide) ?_
        refine lv_icmp_ne (tgt := 249) hx hb dX8_calibrates_206 (by decide) (fun hc19 => ?_) (fun hc19 => ?_)
        · replace h := it_e hc19 h
          obtain ⟨t20, et20, h⟩ := nm_x h
          refine lv_iinc (v := t20) (lv' := [(5, .int t20), (0, .ref a_h), (1, .int p0), (2, .long x2), (4, .int x4)]) hx hb dX8_calibrates_249 hl (k := 4) rfl (by rw [et20]; rfl) (by decide) rfl (fun ls hl => ?_)
          refine lv_goto (tgt := 194) hx hb dX8_calibrates_252 (by decide) ?_
          exact ih x2 x4 t20 m_account m_d_A m_aside_A m_places_A m_told_A _ _ _ h hP hD hS (lv_sub hl [1, 2, 3, 4, 0] rfl)
        · replace h := in_e hc19 h
          refine lv_aload_n hx hb dX8_calibrates_209 rfl (lv_at hl 0 rfl) ?_
          refine lv_aload_n hx hb dX8_calibrates_210 rfl (lv_at hl 0 rfl) ?_
          refine va_get (D := D) (ci := 8) (v := .ref a_h_d) (C := RX8) (T := TX8) (N := 14) hx hb hts in_X8_calibrates_X8 hown hK hP 0 rfl rfl 0 (by decide) (hts _ q_X8_calibrates_2) (fun _ h9 => h9) rfl dX8_calibrates_211 ?_
          refine lv_iconst (v := (0 : Int32)) hx hb dX8_calibrates_214 (by decide) ?_
          refine wx_iald hx hb hK hP 1 0 rfl rfl 0 (by decide) (by unfold vp_in; decide) dX8_calibrates_215 ?_
          refine lv_aload_n hx hb dX8_calibrates_216 rfl (lv_at hl 0 rfl) ?_
          refine va_get (D := D) (ci := 8) (v := .ref a_h_d) (C := RX8) (T := TX8) (N := 14) hx hb hts in_X8_calibrates_X8 hown hK hP 0 rfl rfl 0 (by decide) (hts _ q_X8_calibrates_2) (fun _ h9 => h9) rfl dX8_calibrates_217 ?_
          refine lv_bipush (v := (42 : Int32)) hx hb dX8_calibrates_220 (by decide) ?_
          refine lv_iload hx hb dX8_calibrates_222 (lv_at hl 4 rfl) ?_
          refine lv_iadd hx hb dX8_calibrates_224 ?_
          obtain ⟨hi21, h⟩ := gA_e h
          refine wx_iald hx hb hK hP 1 0 rfl rfl (Int32.toNatClampNeg ((42 : Int32) + x5)) rfl hi21 dX8_calibrates_225 ?_
          refine lv_isub hx hb dX8_calibrates_226 ?_
          obtain ⟨u22, hu22, h⟩ := bd_e h
          refine kx_v (mc := 0) (ms := 0) (wr := [(a_h_aside, .inl (cI, 2086, .inl m_aside_A)), (a_h_places, .inl (cI, 12, .inl m_places_A)), (a_h_told, .inl (cI, 6, .inl m_told_A))]) (ws2 := [(a_h, .inr (8, [.ref a_h_d, .long u22.1, .ref a_h_was, .ref a_h_accounts, .int v_states, .int v_refused, .ref a_h_text, .int v_typed, .int v_at, .int v_sign, .int v_number, .ref a_h_aside, .ref a_h_places, .ref a_h_told])), (a_h_d, .inl (cI, 2086, .inl u22.2)), (a_h_aside, .inl (cI, 2086, .inl m_aside_A)), (a_h_places, .inl (cI, 12, .inl m_places_A)), (a_h_told, .inl (cI, 6, .inl m_told_A))]) (va_runV (As := [.int ((m_d_A 0) - (m_d_A (Int32.toNatClampNeg ((42 : Int32) + x5))))]) (rest := []) ⟨hx, hb, hml, hown, hts⟩ (k_X8_goes l D cI cC cJ cB a_h a_h_d a_h_was a_h_accounts a_h_text a_h_aside a_h_places a_h_told m_account v_states v_refused v_typed v_at v_sign v_number m_d_A N ((m_d_A 0) - (m_d_A (Int32.toNatClampNeg ((42 : Int32) + x5)))) H.size _ hu22) (cwV 1 hts gX8_calibrates_X8_goes rfl rfl rfl (by decide +kernel) ⟨Nat.le_of_ble_eq_true rfl, Nat.le_of_ble_eq_true rfl⟩) (pv_V hP hD hK hN [0, 1] rfl rfl (ci := 8) rfl 0 rfl) rfl rfl hl.1 rfl (lv_room (Nat.le_of_ble_eq_true rfl)) dX8_calibrates_227 ⟨Nat.zero_le _, Nat.zero_le _⟩) hP hD hS hA [0, 1] [2, 3, 4] [3, 4, 0, 1, 2] rfl rfl rfl rfl rfl rfl (fun H locs hP hD hS => ?_)
          obtain ⟨t23, et23, h⟩ := nm_x h
          refine lv_iinc (v := t23) (lv' := [(4, .int t23), (0, .ref a_h), (1, .int p0), (2, .long x2), (5, .int x5)]) hx hb dX8_calibrates_230 hl (k := 3) rfl (by rw [et23]; rfl) (by decide) rfl (fun ls hl => ?_)
          refine lv_aload_n hx hb dX8_calibrates_233 rfl (lv_at hl 1 rfl) ?_
          refine va_get (D := D) (ci := 8) (v := .ref a_h_places) (C := RX8) (T := TX8) (N := 14) hx hb hts in_X8_calibrates_X8 hown hK hP 0 rfl rfl 12 (by decide) (hts _ q_X8_calibrates_4) (fun _ h9 => h9) rfl dX8_calibrates_234 ?_
          refine lv_bipush (v := (6 : Int32)) hx hb dX8_calibrates_237 (by decide) ?_
          refine lv_iload hx hb dX8_calibrates_239 (lv_at hl 0 rfl) ?_
          refine lv_iadd hx hb dX8_calibrates_241 ?_
          refine lv_aload_n hx hb dX8_calibrates_242 rfl (lv_at hl 1 rfl) ?_
          refine va_get (D := D) (ci := 8) (v := .ref a_h_d) (C := RX8) (T := TX8) (N := 14) hx hb hts in_X8_calibrates_X8 hown hK hP 0 rfl rfl 0 (by decide) (hts _ q_X8_calibrates_2) (fun _ h9 => h9) rfl dX8_calibrates_243 ?_
          refine lv_iconst (v := (3 : Int32)) hx hb dX8_calibrates_246 (by decide) ?_
          refine wx_iald hx hb hK hP 1 0 rfl rfl 3 (by decide) (by unfold vp_in; decide) dX8_calibrates_247 ?_
          refine lv_topi (fun t24 et24 => ?_)
          replace h := nm_at h et24
          obtain ⟨hi25, h⟩ := gA_e h
          refine wx_iast hx hb hK hP hD hS 3 0 rfl rfl (Int32.toNatClampNeg ((6 : Int32) + t23)) rfl hi25 dX8_calibrates_248 rfl (fun H locs hP hD hS => ?_)
          obtain ⟨g26, eg26, h⟩ := nm_x h
          have hP : va_P D vwCl [(a_h, .inr (8, [.ref a_h_d, .long u22.1, .ref a_h_was, .ref a_h_accounts, .int v_states, .int v_refused, .ref a_h_text, .int v_typed, .int v_at, .int v_sign, .int v_number, .ref a_h_aside, .ref a_h_places, .ref a_h_told])), (a_h_d, .inl (cI, 2086, .inl u22.2)), (a_h_aside, .inl (cI, 2086, .inl m_aside_A)), (a_h_places, .inl (cI, 12, .inl g26)), (a_h_told, .inl (cI, 6, .inl m_told_A))] H := by rw [eg26]; exact hP
          have hD : va_D A [(a_h, .inr (8, [.ref a_h_d, .long u22.1, .ref a_h_was, .ref a_h_accounts, .int v_states, .int v_refused, .ref a_h_text, .int v_typed, .int v_at, .int v_sign, .int v_number, .ref a_h_aside, .ref a_h_places, .ref a_h_told])), (a_h_d, .inl (cI, 2086, .inl u22.2)), (a_h_aside, .inl (cI, 2086, .inl m_aside_A)), (a_h_places, .inl (cI, 12, .inl g26)), (a_h_told, .inl (cI, 6, .inl m_told_A))] := by rw [eg26]; exact hD
          obtain ⟨t27, et27, h⟩ := nm_x h
          refine lv_iinc (v := t27) (lv' := [(5, .int t27), (4, .int t23), (0, .ref a_h), (1, .int p0), (2, .long x2)]) hx hb dX8_calibrates_249 hl (k := 4) rfl (by rw [et27]; rfl) (by decide) rfl (fun ls hl => ?_)
          refine lv_goto (tgt := 194) hx hb dX8_calibrates_252 (by decide) ?_
          exact ih x2 t23 t27 u22.1 u22.2 m_aside_A g26 m_told_A _ _ _ h hP hD hS (lv_sub hl [2, 3, 4, 1, 0] rfl)
  have B63 : ∀ (k : Nat) (x2 : Int64) (x4 : Int32) (x5 : Int32) (m_account : Int64) (m_d_A : Nat → Int32) (m_aside_A : Nat → Int32) (m_places_A : Nat → Int32) (m_told_A : Nat → Int32) (H : Heap) (locs : List Loc) (ls : Array Slot), f_X8_calibrates_b63 N p0 x2 m_aside_A k x4 x5 m_account m_d_A m_places_A m_told_A = some u → va_P D vwCl [(a_h, .inr (8, [.ref a_h_d, .long m_account, .ref a_h_was, .ref a_h_accounts, .int v_states, .int v_refused, .ref a_h_text, .int v_typed, .int v_at, .int v_sign, .int v_number, .ref a_h_aside, .ref a_h_places, .ref a_h_told])), (a_h_d, .inl (cI, 2086, .inl m_d_A)), (a_h_aside, .inl (cI, 2086, .inl m_aside_A)), (a_h_places, .inl (cI, 12, .inl m_places_A)), (a_h_told, .inl (cI, 6, .inl m_told_A))] H → va_D A [(a_h, .inr (8, [.ref a_h_d, .long m_account, .ref a_h_was, .ref a_h_accounts, .int v_states, .int v_refused, .ref a_h_text, .int v_typed, .int v_at, .int v_sign, .int v_number, .ref a_h_aside, .ref a_h_places, .ref a_h_told])), (a_h_d, .inl (cI, 2086, .inl m_d_A)), (a_h_aside, .inl (cI, 2086, .inl m_aside_A)), (a_h_places, .inl (cI, 12, .inl m_places_A)), (a_h_told, .inl (cI, 6, .inl m_told_A))] → va_S A s.heap H locs → lv_has ls 6 [(0, .ref a_h), (1, .int p0), (2, .long x2), (4, .int x4), (5, .int x5)] → W p l e ({ frames := 3, cells := 0, slots := 0, locals := 76 } : Room) s m ([.ref a_h, .int p0] : List Value).toArray below meth c H locs 0 0 (MQ below (QV D (ty4 cI cC cJ cB) A [(a_h, .inr (8, [.ref a_h_d, .long u.1, .ref a_h_was, .ref a_h_accounts, .int v_states, .int v_refused, .ref a_h_text, .int v_typed, .int v_at, .int v_sign, .int v_number, .ref a_h_aside, .ref a_h_places, .ref a_h_told])), (a_h_d, .inl (cI, 2086, .inl u.2.1)), (a_h_aside, .inl (cI, 2086, .inl u.2.2.1)), (a_h_places, .inl (cI, 12, .inl u.2.2.2.1)), (a_h_told, .inl (cI, 6, .inl u.2.2.2.2))]) ([.ref a_h, .int p0] : List Value).toArray s 0 0 A) (F0 m 63 ls []) := by
    intro k
    induction k with
    | zero =>
      intro x2 x4 x5 m_account m_d_A m_aside_A m_places_A m_told_A H locs ls h
      exact nomatch (show (none : Option (Int64 × (Nat → Int32) × (Nat → Int32) × (Nat → Int32) × (Nat → Int32))) = some u from h)
    | succ k ih =>
      intro x2 x4 x5 m_account m_d_A m_aside_A m_places_A m_told_A H locs ls h hP hD hS hl
      rw [f_X8_calibrates_b63.eq_2] at h
      refine lv_iload hx hb dX8_calibrates_63 (lv_at hl 4 rfl) ?_
      refine lv_aload_n hx hb dX8_calibrates_65 rfl (lv_at hl 0 rfl) ?_
      refine va_get (D := D) (ci := 8) (v := .ref a_h_d) (C := RX8) (T := TX8) (N := 14) hx hb hts in_X8_calibrates_X8 hown hK hP 0 rfl rfl 0 (by decide) (hts _ q_X8_calibrates_2) (fun _ h9 => h9) rfl dX8_calibrates_66 ?_
      refine lv_bipush (v := (41 : Int32)) hx hb dX8_calibrates_69 (by decide) ?_
      refine wx_iald hx hb hK hP 1 0 rfl rfl 41 (by decide) (by unfold vp_in; decide) dX8_calibrates_71 ?_
      refine lv_icmp_ge (tgt := 166) hx hb dX8_calibrates_72 (by decide) (fun hc6 => ?_) (fun hc6 => ?_)
      · replace h := it_e hc6 h
        refine lv_aload_n hx hb dX8_calibrates_166 rfl (lv_at hl 0 rfl) ?_
        refine va_get (D := D) (ci := 8) (v := .ref a_h_places) (C := RX8) (T := TX8) (N := 14) hx hb hts in_X8_calibrates_X8 hown hK hP 0 rfl rfl 12 (by decide) (hts _ q_X8_calibrates_4) (fun _ h9 => h9) rfl dX8_calibrates_167 ?_
        refine lv_bipush (v := (6 : Int32)) hx hb dX8_calibrates_170 (by decide) ?_
        refine lv_iload hx hb dX8_calibrates_172 (lv_at hl 3 rfl) ?_
        refine lv_iadd hx hb dX8_calibrates_174 ?_
        refine lv_aload_n hx hb dX8_calibrates_175 rfl (lv_at hl 0 rfl) ?_
        refine va_get (D := D) (ci := 8) (v := .ref a_h_places) (C := RX8) (T := TX8) (N := 14) hx hb hts in_X8_calibrates_X8 hown hK hP 0 rfl rfl 12 (by decide) (hts _ q_X8_calibrates_4) (fun _ h9 => h9) rfl dX8_calibrates_176 ?_
        refine lv_iload hx hb dX8_calibrates_179 (lv_at hl 3 rfl) ?_
        obtain ⟨hi7, h⟩ := gA_e h
        refine wx_iald hx hb hK hP 3 0 rfl rfl (Int32.toNatClampNeg x4) rfl hi7 dX8_calibrates_181 ?_
        refine lv_topi (fun t8 et8 => ?_)
        replace h := nm_at h et8
        obtain ⟨hi9, h⟩ := gA_e h
        refine wx_iast hx hb hK hP hD hS 3 0 rfl rfl (Int32.toNatClampNeg ((6 : Int32) + x4)) rfl hi9 dX8_calibrates_182 rfl (fun H locs hP hD hS => ?_)
        obtain ⟨g10, eg10, h⟩ := nm_x h
        have hP : va_P D vwCl [(a_h, .inr (8, [.ref a_h_d, .long m_account, .ref a_h_was, .ref a_h_accounts, .int v_states, .int v_refused, .ref a_h_text, .int v_typed, .int v_at, .int v_sign, .int v_number, .ref a_h_aside, .ref a_h_places, .ref a_h_told])), (a_h_d, .inl (cI, 2086, .inl m_d_A)), (a_h_aside, .inl (cI, 2086, .inl m_aside_A)), (a_h_places, .inl (cI, 12, .inl g10)), (a_h_told, .inl (cI, 6, .inl m_told_A))] H := by rw [eg10]; exact hP
        have hD : va_D A [(a_h, .inr (8, [.ref a_h_d, .long m_account, .ref a_h_was, .ref a_h_accounts, .int v_states, .int v_refused, .ref a_h_text, .int v_typed, .int v_at, .int v_sign, .int v_number, .ref a_h_aside, .ref a_h_places, .ref a_h_told])), (a_h_d, .inl (cI, 2086, .inl m_d_A)), (a_h_aside, .inl (cI, 2086, .inl m_aside_A)), (a_h_places, .inl (cI, 12, .inl g10)), (a_h_told, .inl (cI, 6, .inl m_told_A))] := by rw [eg10]; exact hD
        refine lv_aload_n hx hb dX8_calibrates_183 rfl (lv_at hl 0 rfl) ?_
        refine va_get (D := D) (ci := 8) (v := .ref a_h_d) (C := RX8) (T := TX8) (N := 14) hx hb hts in_X8_calibrates_X8 hown hK hP 0 rfl rfl 0 (by decide) (hts _ q_X8_calibrates_2) (fun _ h9 => h9) rfl dX8_calibrates_184 ?_
        refine lv_bipush (v := (41 : Int32)) hx hb dX8_calibrates_187 (by decide) ?_
        refine wx_iald hx hb hK hP 1 0 rfl rfl 41 (by decide) (by unfold vp_in; decide) dX8_calibrates_189 ?_
        refine lv_iconst (v := (1 : Int32)) hx hb dX8_calibrates_190 (by decide) ?_
        refine lv_isub hx hb dX8_calibrates_191 ?_
        refine lv_topi (fun t11 et11 => ?_)
        replace h := nm_at h et11
        refine lv_istore (lv' := [(5, .int t11), (0, .ref a_h), (1, .int p0), (2, .long x2), (4, .int x4)]) hx hb dX8_calibrates_192 hl (by decide) rfl (fun ls hl => ?_)
        exact B194 N x2 x4 t11 m_account m_d_A m_aside_A g10 m_told_A _ _ _ h hP hD hS (lv_sub hl [1, 2, 3, 4, 0] rfl)
      · replace h := if_e hc6 h
        refine lv_iload_n hx hb dX8_calibrates_75 rfl (lv_at hl 1 rfl) ?_
        refine lv_iload hx hb dX8_calibrates_76 (lv_at hl 4 rfl) ?_
        refine lv_ishr hx hb dX8_calibrates_78 ?_
        refine lv_iconst (v := (1 : Int32)) hx hb dX8_calibrates_79 (by decide) ?_
        refine lv_iand hx hb dX8_calibrates_80 ?_
        refine lv_iconst (v := (1 : Int32)) hx hb dX8_calibrates_81 (by decide) ?_
        refine lv_icmp_ne (tgt := 160) hx hb dX8_calibrates_82 (by decide) (fun hc28 => ?_) (fun hc28 => ?_)
        · replace h := it_e hc28 h
          obtain ⟨t29, et29, h⟩ := nm_x h
          refine lv_iinc (v := t29) (lv' := [(5, .int t29), (0, .ref a_h), (1, .int p0), (2, .long x2), (4, .int x4)]) hx hb dX8_calibrates_160 hl (k := 4) rfl (by rw [et29]; rfl) (by decide) rfl (fun ls hl => ?_)
          refine lv_goto (tgt := 63) hx hb dX8_calibrates_163 (by decide) ?_
          exact ih x2 x4 t29 m_account m_d_A m_aside_A m_places_A m_told_A _ _ _ h hP hD hS (lv_sub hl [1, 2, 3, 4, 0] rfl)
        · replace h := in_e hc28 h
          refine lv_aload_n hx hb dX8_calibrates_85 rfl (lv_at hl 0 rfl) ?_
          refine lv_aload_n hx hb dX8_calibrates_86 rfl (lv_at hl 0 rfl) ?_
          refine va_get (D := D) (ci := 8) (v := .ref a_h_d) (C := RX8) (T := TX8) (N := 14) hx hb hts in_X8_calibrates_X8 hown hK hP 0 rfl rfl 0 (by decide) (hts _ q_X8_calibrates_2) (fun _ h9 => h9) rfl dX8_calibrates_87 ?_
          refine lv_iconst (v := (0 : Int32)) hx hb dX8_calibrates_90 (by decide) ?_
          refine wx_iald hx hb hK hP 1 0 rfl rfl 0 (by decide) (by unfold vp_in; decide) dX8_calibrates_91 ?_
          refine lv_aload_n hx hb dX8_calibrates_92 rfl (lv_at hl 0 rfl) ?_
          refine va_get (D := D) (ci := 8) (v := .ref a_h_d) (C := RX8) (T := TX8) (N := 14) hx hb hts in_X8_calibrates_X8 hown hK hP 0 rfl rfl 0 (by decide) (hts _ q_X8_calibrates_2) (fun _ h9 => h9) rfl dX8_calibrates_93 ?_
          refine lv_bipush (v := (42 : Int32)) hx hb dX8_calibrates_96 (by decide) ?_
          refine lv_iload hx hb dX8_calibrates_98 (lv_at hl 4 rfl) ?_
          refine lv_iadd hx hb dX8_calibrates_100 ?_
          obtain ⟨hi30, h⟩ := gA_e h
          refine wx_iald hx hb hK hP 1 0 rfl rfl (Int32.toNatClampNeg ((42 : Int32) + x5)) rfl hi30 dX8_calibrates_101 ?_
          refine lv_iadd hx hb dX8_calibrates_102 ?_
          obtain ⟨u31, hu31, h⟩ := bd_e h
          refine kx_v (mc := 0) (ms := 0) (wr := [(a_h_aside, .inl (cI, 2086, .inl m_aside_A)), (a_h_places, .inl (cI, 12, .inl m_places_A)), (a_h_told, .inl (cI, 6, .inl m_told_A))]) (ws2 := [(a_h, .inr (8, [.ref a_h_d, .long u31.1, .ref a_h_was, .ref a_h_accounts, .int v_states, .int v_refused, .ref a_h_text, .int v_typed, .int v_at, .int v_sign, .int v_number, .ref a_h_aside, .ref a_h_places, .ref a_h_told])), (a_h_d, .inl (cI, 2086, .inl u31.2)), (a_h_aside, .inl (cI, 2086, .inl m_aside_A)), (a_h_places, .inl (cI, 12, .inl m_places_A)), (a_h_told, .inl (cI, 6, .inl m_told_A))]) (va_runV (As := [.int ((m_d_A 0) + (m_d_A (Int32.toNatClampNeg ((42 : Int32) + x5))))]) (rest := []) ⟨hx, hb, hml, hown, hts⟩ (k_X8_goes l D cI cC cJ cB a_h a_h_d a_h_was a_h_accounts a_h_text a_h_aside a_h_places a_h_told m_account v_states v_refused v_typed v_at v_sign v_number m_d_A N ((m_d_A 0) + (m_d_A (Int32.toNatClampNeg ((42 : Int32) + x5)))) H.size _ hu31) (cwV 1 hts gX8_calibrates_X8_goes rfl rfl rfl (by decide +kernel) ⟨Nat.le_of_ble_eq_true rfl, Nat.le_of_ble_eq_true rfl⟩) (pv_V hP hD hK hN [0, 1] rfl rfl (ci := 8) rfl 0 rfl) rfl rfl hl.1 rfl (lv_room (Nat.le_of_ble_eq_true rfl)) dX8_calibrates_103 ⟨Nat.zero_le _, Nat.zero_le _⟩) hP hD hS hA [0, 1] [2, 3, 4] [3, 4, 0, 1, 2] rfl rfl rfl rfl rfl rfl (fun H locs hP hD hS => ?_)
          obtain ⟨t32, et32, h⟩ := nm_x h
          refine lv_iinc (v := t32) (lv' := [(4, .int t32), (0, .ref a_h), (1, .int p0), (2, .long x2), (5, .int x5)]) hx hb dX8_calibrates_106 hl (k := 3) rfl (by rw [et32]; rfl) (by decide) rfl (fun ls hl => ?_)
          refine lv_aload_n hx hb dX8_calibrates_109 rfl (lv_at hl 1 rfl) ?_
          refine va_get (D := D) (ci := 8) (v := .ref a_h_places) (C := RX8) (T := TX8) (N := 14) hx hb hts in_X8_calibrates_X8 hown hK hP 0 rfl rfl 12 (by decide) (hts _ q_X8_calibrates_4) (fun _ h9 => h9) rfl dX8_calibrates_110 ?_
          refine lv_iload hx hb dX8_calibrates_113 (lv_at hl 0 rfl) ?_
          refine lv_aload_n hx hb dX8_calibrates_115 rfl (lv_at hl 1 rfl) ?_
          refine va_get (D := D) (ci := 8) (v := .ref a_h_d) (C := RX8) (T := TX8) (N := 14) hx hb hts in_X8_calibrates_X8 hown hK hP 0 rfl rfl 0 (by decide) (hts _ q_X8_calibrates_2) (fun _ h9 => h9) rfl dX8_calibrates_116 ?_
          refine lv_iconst (v := (3 : Int32)) hx hb dX8_calibrates_119 (by decide) ?_
          refine wx_iald hx hb hK hP 1 0 rfl rfl 3 (by decide) (by unfold vp_in; decide) dX8_calibrates_120 ?_
          refine lv_topi (fun t33 et33 => ?_)
          replace h := nm_at h et33
          obtain ⟨hi34, h⟩ := gA_e h
          refine wx_iast hx hb hK hP hD hS 3 0 rfl rfl (Int32.toNatClampNeg t32) rfl hi34 dX8_calibrates_121 rfl (fun H locs hP hD hS => ?_)
          obtain ⟨g35, eg35, h⟩ := nm_x h
          have hP : va_P D vwCl [(a_h, .inr (8, [.ref a_h_d, .long u31.1, .ref a_h_was, .ref a_h_accounts, .int v_states, .int v_refused, .ref a_h_text, .int v_typed, .int v_at, .int v_sign, .int v_number, .ref a_h_aside, .ref a_h_places, .ref a_h_told])), (a_h_d, .inl (cI, 2086, .inl u31.2)), (a_h_aside, .inl (cI, 2086, .inl m_aside_A)), (a_h_places, .inl (cI, 12, .inl g35)), (a_h_told, .inl (cI, 6, .inl m_told_A))] H := by rw [eg35]; exact hP
          have hD : va_D A [(a_h, .inr (8, [.ref a_h_d, .long u31.1, .ref a_h_was, .ref a_h_accounts, .int v_states, .int v_refused, .ref a_h_text, .int v_typed, .int v_at, .int v_sign, .int v_number, .ref a_h_aside, .ref a_h_places, .ref a_h_told])), (a_h_d, .inl (cI, 2086, .inl u31.2)), (a_h_aside, .inl (cI, 2086, .inl m_aside_A)), (a_h_places, .inl (cI, 12, .inl g35)), (a_h_told, .inl (cI, 6, .inl m_told_A))] := by rw [eg35]; exact hD
          refine lv_aload_n hx hb dX8_calibrates_122 rfl (lv_at hl 1 rfl) ?_
          refine va_get (D := D) (ci := 8) (v := .ref a_h_told) (C := RX8) (T := TX8) (N := 14) hx hb hts in_X8_calibrates_X8 hown hK hP 0 rfl rfl 13 (by decide) (hts _ q_X8_calibrates_5) (fun _ h9 => h9) rfl dX8_calibrates_123 ?_
          refine lv_iload hx hb dX8_calibrates_126 (lv_at hl 0 rfl) ?_
          refine lv_aload_n hx hb dX8_calibrates_128 rfl (lv_at hl 1 rfl) ?_
          refine va_get (D := D) (ci := 8) (v := .ref a_h_told) (C := RX8) (T := TX8) (N := 14) hx hb hts in_X8_calibrates_X8 hown hK hP 0 rfl rfl 13 (by decide) (hts _ q_X8_calibrates_5) (fun _ h9 => h9) rfl dX8_calibrates_129 ?_
          refine lv_iload hx hb dX8_calibrates_132 (lv_at hl 0 rfl) ?_
          refine lv_iconst (v := (1 : Int32)) hx hb dX8_calibrates_134 (by decide) ?_
          refine lv_isub hx hb dX8_calibrates_135 ?_
          obtain ⟨hi36, h⟩ := gA_e h
          refine wx_iald hx hb hK hP 4 0 rfl rfl (Int32.toNatClampNeg (t32 - (1 : Int32))) rfl hi36 dX8_calibrates_136 ?_
          refine lv_aload_n hx hb dX8_calibrates_137 rfl (lv_at hl 1 rfl) ?_
          refine va_get (D := D) (ci := 8) (v := .ref a_h_d) (C := RX8) (T := TX8) (N := 14) hx hb hts in_X8_calibrates_X8 hown hK hP 0 rfl rfl 0 (by decide) (hts _ q_X8_calibrates_2) (fun _ h9 => h9) rfl dX8_calibrates_138 ?_
          refine lv_bipush (v := (42 : Int32)) hx hb dX8_calibrates_141 (by decide) ?_
          refine lv_iload hx hb dX8_calibrates_143 (lv_at hl 4 rfl) ?_
          refine lv_iadd hx hb dX8_calibrates_145 ?_
          obtain ⟨hi37, h⟩ := gA_e h
          refine wx_iald hx hb hK hP 1 0 rfl rfl (Int32.toNatClampNeg ((42 : Int32) + x5)) rfl hi37 dX8_calibrates_146 ?_
          refine lv_iadd hx hb dX8_calibrates_147 ?_
          refine lv_aload_n hx hb dX8_calibrates_148 rfl (lv_at hl 1 rfl) ?_
          refine va_get (D := D) (ci := 8) (v := .ref a_h_d) (C := RX8) (T := TX8) (N := 14) hx hb hts in_X8_calibrates_X8 hown hK hP 0 rfl rfl 0 (by decide) (hts _ q_X8_calibrates_2) (fun _ h9 => h9) rfl dX8_calibrates_149 ?_
          refine lv_bipush (v := (50 : Int32)) hx hb dX8_calibrates_152 (by decide) ?_
          refine lv_iload hx hb dX8_calibrates_154 (lv_at hl 4 rfl) ?_
          refine lv_iadd hx hb dX8_calibrates_156 ?_
          obtain ⟨hi38, h⟩ := gA_e h
          refine wx_iald hx hb hK hP 1 0 rfl rfl (Int32.toNatClampNeg ((50 : Int32) + x5)) rfl hi38 dX8_calibrates_157 ?_
          refine lv_iadd hx hb dX8_calibrates_158 ?_
          refine lv_topi (fun t39 et39 => ?_)
          replace h := nm_at h et39
          obtain ⟨hi40, h⟩ := gA_e h
          refine wx_iast hx hb hK hP hD hS 4 0 rfl rfl (Int32.toNatClampNeg t32) rfl hi40 dX8_calibrates_159 rfl (fun H locs hP hD hS => ?_)
          obtain ⟨g41, eg41, h⟩ := nm_x h
          have hP : va_P D vwCl [(a_h, .inr (8, [.ref a_h_d, .long u31.1, .ref a_h_was, .ref a_h_accounts, .int v_states, .int v_refused, .ref a_h_text, .int v_typed, .int v_at, .int v_sign, .int v_number, .ref a_h_aside, .ref a_h_places, .ref a_h_told])), (a_h_d, .inl (cI, 2086, .inl u31.2)), (a_h_aside, .inl (cI, 2086, .inl m_aside_A)), (a_h_places, .inl (cI, 12, .inl g35)), (a_h_told, .inl (cI, 6, .inl g41))] H := by rw [eg41]; exact hP
          have hD : va_D A [(a_h, .inr (8, [.ref a_h_d, .long u31.1, .ref a_h_was, .ref a_h_accounts, .int v_states, .int v_refused, .ref a_h_text, .int v_typed, .int v_at, .int v_sign, .int v_number, .ref a_h_aside, .ref a_h_places, .ref a_h_told])), (a_h_d, .inl (cI, 2086, .inl u31.2)), (a_h_aside, .inl (cI, 2086, .inl m_aside_A)), (a_h_places, .inl (cI, 12, .inl g35)), (a_h_told, .inl (cI, 6, .inl g41))] := by rw [eg41]; exact hD
          obtain ⟨t42, et42, h⟩ := nm_x h
          refine lv_iinc (v := t42) (lv' := [(5, .int t42), (4, .int t32), (0, .ref a_h), (1, .int p0), (2, .long x2)]) hx hb dX8_calibrates_160 hl (k := 4) rfl (by rw [et42]; rfl) (by decide) rfl (fun ls hl => ?_)
          refine lv_goto (tgt := 63) hx hb dX8_calibrates_163 (by decide) ?_
          exact ih x2 t32 t42 u31.1 u31.2 m_aside_A g35 g41 _ _ _ h hP hD hS (lv_sub hl [2, 3, 4, 1, 0] rfl)
  have B2 : ∀ (k : Nat) (x2 : Int32) (m_account : Int64) (m_d_A : Nat → Int32) (m_aside_A : Nat → Int32) (m_places_A : Nat → Int32) (m_told_A : Nat → Int32) (H : Heap) (locs : List Loc) (ls : Array Slot), f_X8_calibrates_b2 N p0 m_account m_d_A m_places_A m_told_A k x2 m_aside_A = some u → va_P D vwCl [(a_h, .inr (8, [.ref a_h_d, .long m_account, .ref a_h_was, .ref a_h_accounts, .int v_states, .int v_refused, .ref a_h_text, .int v_typed, .int v_at, .int v_sign, .int v_number, .ref a_h_aside, .ref a_h_places, .ref a_h_told])), (a_h_d, .inl (cI, 2086, .inl m_d_A)), (a_h_aside, .inl (cI, 2086, .inl m_aside_A)), (a_h_places, .inl (cI, 12, .inl m_places_A)), (a_h_told, .inl (cI, 6, .inl m_told_A))] H → va_D A [(a_h, .inr (8, [.ref a_h_d, .long m_account, .ref a_h_was, .ref a_h_accounts, .int v_states, .int v_refused, .ref a_h_text, .int v_typed, .int v_at, .int v_sign, .int v_number, .ref a_h_aside, .ref a_h_places, .ref a_h_told])), (a_h_d, .inl (cI, 2086, .inl m_d_A)), (a_h_aside, .inl (cI, 2086, .inl m_aside_A)), (a_h_places, .inl (cI, 12, .inl m_places_A)), (a_h_told, .inl (cI, 6, .inl m_told_A))] → va_S A s.heap H locs → lv_has ls 6 [(0, .ref a_h), (1, .int p0), (2, .int x2)] → W p l e ({ frames := 3, cells := 0, slots := 0, locals := 76 } : Room) s m ([.ref a_h, .int p0] : List Value).toArray below meth c H locs 0 0 (MQ below (QV D (ty4 cI cC cJ cB) A [(a_h, .inr (8, [.ref a_h_d, .long u.1, .ref a_h_was, .ref a_h_accounts, .int v_states, .int v_refused, .ref a_h_text, .int v_typed, .int v_at, .int v_sign, .int v_number, .ref a_h_aside, .ref a_h_places, .ref a_h_told])), (a_h_d, .inl (cI, 2086, .inl u.2.1)), (a_h_aside, .inl (cI, 2086, .inl u.2.2.1)), (a_h_places, .inl (cI, 12, .inl u.2.2.2.1)), (a_h_told, .inl (cI, 6, .inl u.2.2.2.2))]) ([.ref a_h, .int p0] : List Value).toArray s 0 0 A) (F0 m 2 ls []) := by
    intro k
    induction k with
    | zero =>
      intro x2 m_account m_d_A m_aside_A m_places_A m_told_A H locs ls h
      exact nomatch (show (none : Option (Int64 × (Nat → Int32) × (Nat → Int32) × (Nat → Int32) × (Nat → Int32))) = some u from h)
    | succ k ih =>
      intro x2 m_account m_d_A m_aside_A m_places_A m_told_A H locs ls h hP hD hS hl
      rw [f_X8_calibrates_b2.eq_2] at h
      refine lv_iload_n hx hb dX8_calibrates_2 rfl (lv_at hl 2 rfl) ?_
      refine lv_sipush (v := (2086 : Int32)) hx hb dX8_calibrates_3 (by decide) ?_
      refine lv_icmp_ge (tgt := 27) hx hb dX8_calibrates_6 (by decide) (fun hc1 => ?_) (fun hc1 => ?_)
      · replace h := it_e hc1 h
        refine lv_aload_n hx hb dX8_calibrates_27 rfl (lv_at hl 0 rfl) ?_
        refine va_get (D := D) (ci := 8) (v := .long m_account) (C := RX8) (T := TX8) (N := 14) hx hb hts in_X8_calibrates_X8 hown hK hP 0 rfl rfl 1 (by decide) (hts _ q_X8_calibrates_3) (fun _ h9 => h9) rfl dX8_calibrates_28 ?_
        refine lv_lstore_n (lv' := [(2, .long m_account), (0, .ref a_h), (1, .int p0)]) hx hb dX8_calibrates_31 rfl hl (by decide) rfl (fun ls hl => ?_)
        refine lv_aload_n hx hb dX8_calibrates_32 rfl (lv_at hl 1 rfl) ?_
        refine va_get (D := D) (ci := 8) (v := .ref a_h_d) (C := RX8) (T := TX8) (N := 14) hx hb hts in_X8_calibrates_X8 hown hK hP 0 rfl rfl 0 (by decide) (hts _ q_X8_calibrates_2) (fun _ h9 => h9) rfl dX8_calibrates_33 ?_
        refine lv_iconst (v := (0 : Int32)) hx hb dX8_calibrates_36 (by decide) ?_
        refine lv_iconst (v := (0 : Int32)) hx hb dX8_calibrates_37 (by decide) ?_
        refine wx_iast hx hb hK hP hD hS 1 0 rfl rfl 0 (by decide) (by unfold vp_in; decide) dX8_calibrates_38 rfl (fun H locs hP hD hS => ?_)
        obtain ⟨g2, eg2, h⟩ := nm_x h
        have hP : va_P D vwCl [(a_h, .inr (8, [.ref a_h_d, .long m_account, .ref a_h_was, .ref a_h_accounts, .int v_states, .int v_refused, .ref a_h_text, .int v_typed, .int v_at, .int v_sign, .int v_number, .ref a_h_aside, .ref a_h_places, .ref a_h_told])), (a_h_d, .inl (cI, 2086, .inl g2)), (a_h_aside, .inl (cI, 2086, .inl m_aside_A)), (a_h_places, .inl (cI, 12, .inl m_places_A)), (a_h_told, .inl (cI, 6, .inl m_told_A))] H := by rw [eg2]; exact hP
        have hD : va_D A [(a_h, .inr (8, [.ref a_h_d, .long m_account, .ref a_h_was, .ref a_h_accounts, .int v_states, .int v_refused, .ref a_h_text, .int v_typed, .int v_at, .int v_sign, .int v_number, .ref a_h_aside, .ref a_h_places, .ref a_h_told])), (a_h_d, .inl (cI, 2086, .inl g2)), (a_h_aside, .inl (cI, 2086, .inl m_aside_A)), (a_h_places, .inl (cI, 12, .inl m_places_A)), (a_h_told, .inl (cI, 6, .inl m_told_A))] := by rw [eg2]; exact hD
        refine lv_aload_n hx hb dX8_calibrates_39 rfl (lv_at hl 1 rfl) ?_
        obtain ⟨u3, hu3, h⟩ := bd_e h
        refine kx_v (mc := 0) (ms := 0) (wr := [(a_h_aside, .inl (cI, 2086, .inl m_aside_A)), (a_h_places, .inl (cI, 12, .inl m_places_A)), (a_h_told, .inl (cI, 6, .inl m_told_A))]) (ws2 := [(a_h, .inr (8, [.ref a_h_d, .long u3.1, .ref a_h_was, .ref a_h_accounts, .int v_states, .int v_refused, .ref a_h_text, .int v_typed, .int v_at, .int v_sign, .int v_number, .ref a_h_aside, .ref a_h_places, .ref a_h_told])), (a_h_d, .inl (cI, 2086, .inl u3.2)), (a_h_aside, .inl (cI, 2086, .inl m_aside_A)), (a_h_places, .inl (cI, 12, .inl m_places_A)), (a_h_told, .inl (cI, 6, .inl m_told_A))]) (va_runV (As := []) (rest := []) ⟨hx, hb, hml, hown, hts⟩ (k_X8_zeroes l D cI cC cJ cB a_h a_h_d a_h_was a_h_accounts a_h_text a_h_aside a_h_places a_h_told m_account v_states v_refused v_typed v_at v_sign v_number g2 N H.size _ hu3) (cwV 0 hts gX8_calibrates_X8_zeroes rfl rfl rfl (by decide +kernel) ⟨Nat.le_of_ble_eq_true rfl, Nat.le_of_ble_eq_true rfl⟩) (pv_V hP hD hK hN [0, 1] rfl rfl (ci := 8) rfl 0 rfl) rfl rfl hl.1 rfl (lv_room (Nat.le_of_ble_eq_true rfl)) dX8_calibrates_40 ⟨Nat.zero_le _, Nat.zero_le _⟩) hP hD hS hA [0, 1] [2, 3, 4] [3, 4, 0, 1, 2] rfl rfl rfl rfl rfl rfl (fun H locs hP hD hS => ?_)
        refine lv_iconst (v := (0 : Int32)) hx hb dX8_calibrates_43 (by decide) ?_
        refine lv_istore (lv' := [(4, .int (0 : Int32)), (2, .long m_account), (0, .ref a_h), (1, .int p0)]) hx hb dX8_calibrates_44 hl (by decide) rfl (fun ls hl => ?_)
        refine lv_aload_n hx hb dX8_calibrates_46 rfl (lv_at hl 2 rfl) ?_
        refine va_get (D := D) (ci := 8) (v := .ref a_h_places) (C := RX8) (T := TX8) (N := 14) hx hb hts in_X8_calibrates_X8 hown hK hP 0 rfl rfl 12 (by decide) (hts _ q_X8_calibrates_4) (fun _ h9 => h9) rfl dX8_calibrates_47 ?_
        refine lv_iconst (v := (0 : Int32)) hx hb dX8_calibrates_50 (by decide) ?_
        refine lv_iconst (v := (0 : Int32)) hx hb dX8_calibrates_51 (by decide) ?_
        refine wx_iast hx hb hK hP hD hS 3 0 rfl rfl 0 (by decide) (by unfold vp_in; decide) dX8_calibrates_52 rfl (fun H locs hP hD hS => ?_)
        obtain ⟨g4, eg4, h⟩ := nm_x h
        have hP : va_P D vwCl [(a_h, .inr (8, [.ref a_h_d, .long u3.1, .ref a_h_was, .ref a_h_accounts, .int v_states, .int v_refused, .ref a_h_text, .int v_typed, .int v_at, .int v_sign, .int v_number, .ref a_h_aside, .ref a_h_places, .ref a_h_told])), (a_h_d, .inl (cI, 2086, .inl u3.2)), (a_h_aside, .inl (cI, 2086, .inl m_aside_A)), (a_h_places, .inl (cI, 12, .inl g4)), (a_h_told, .inl (cI, 6, .inl m_told_A))] H := by rw [eg4]; exact hP
        have hD : va_D A [(a_h, .inr (8, [.ref a_h_d, .long u3.1, .ref a_h_was, .ref a_h_accounts, .int v_states, .int v_refused, .ref a_h_text, .int v_typed, .int v_at, .int v_sign, .int v_number, .ref a_h_aside, .ref a_h_places, .ref a_h_told])), (a_h_d, .inl (cI, 2086, .inl u3.2)), (a_h_aside, .inl (cI, 2086, .inl m_aside_A)), (a_h_places, .inl (cI, 12, .inl g4)), (a_h_told, .inl (cI, 6, .inl m_told_A))] := by rw [eg4]; exact hD
        refine lv_aload_n hx hb dX8_calibrates_53 rfl (lv_at hl 2 rfl) ?_
        refine va_get (D := D) (ci := 8) (v := .ref a_h_told) (C := RX8) (T := TX8) (N := 14) hx hb hts in_X8_calibrates_X8 hown hK hP 0 rfl rfl 13 (by decide) (hts _ q_X8_calibrates_5) (fun _ h9 => h9) rfl dX8_calibrates_54 ?_
        refine lv_iconst (v := (0 : Int32)) hx hb dX8_calibrates_57 (by decide) ?_
        refine lv_iconst (v := (0 : Int32)) hx hb dX8_calibrates_58 (by decide) ?_
        refine wx_iast hx hb hK hP hD hS 4 0 rfl rfl 0 (by decide) (by unfold vp_in; decide) dX8_calibrates_59 rfl (fun H locs hP hD hS => ?_)
        obtain ⟨g5, eg5, h⟩ := nm_x h
        have hP : va_P D vwCl [(a_h, .inr (8, [.ref a_h_d, .long u3.1, .ref a_h_was, .ref a_h_accounts, .int v_states, .int v_refused, .ref a_h_text, .int v_typed, .int v_at, .int v_sign, .int v_number, .ref a_h_aside, .ref a_h_places, .ref a_h_told])), (a_h_d, .inl (cI, 2086, .inl u3.2)), (a_h_aside, .inl (cI, 2086, .inl m_aside_A)), (a_h_places, .inl (cI, 12, .inl g4)), (a_h_told, .inl (cI, 6, .inl g5))] H := by rw [eg5]; exact hP
        have hD : va_D A [(a_h, .inr (8, [.ref a_h_d, .long u3.1, .ref a_h_was, .ref a_h_accounts, .int v_states, .int v_refused, .ref a_h_text, .int v_typed, .int v_at, .int v_sign, .int v_number, .ref a_h_aside, .ref a_h_places, .ref a_h_told])), (a_h_d, .inl (cI, 2086, .inl u3.2)), (a_h_aside, .inl (cI, 2086, .inl m_aside_A)), (a_h_places, .inl (cI, 12, .inl g4)), (a_h_told, .inl (cI, 6, .inl g5))] := by rw [eg5]; exact hD
        refine lv_iconst (v := (0 : Int32)) hx hb dX8_calibrates_60 (by decide) ?_
        refine lv_istore (lv' := [(5, .int (0 : Int32)), (4, .int (0 : Int32)), (2, .long m_account), (0, .ref a_h), (1, .int p0)]) hx hb dX8_calibrates_61 hl (by decide) rfl (fun ls hl => ?_)
        exact B63 N m_account (0 : Int32) (0 : Int32) u3.1 u3.2 m_aside_A g4 g5 _ _ _ h hP hD hS (lv_sub hl [3, 4, 2, 1, 0] rfl)
      · replace h := if_e hc1 h
        refine lv_aload_n hx hb dX8_calibrates_9 rfl (lv_at hl 0 rfl) ?_
        refine va_get (D := D) (ci := 8) (v := .ref a_h_aside) (C := RX8) (T := TX8) (N := 14) hx hb hts in_X8_calibrates_X8 hown hK hP 0 rfl rfl 11 (by decide) (hts _ q_X8_calibrates_1) (fun _ h9 => h9) rfl dX8_calibrates_10 ?_
        refine lv_iload_n hx hb dX8_calibrates_13 rfl (lv_at hl 2 rfl) ?_
        refine lv_aload_n hx hb dX8_calibrates_14 rfl (lv_at hl 0 rfl) ?_
        refine va_get (D := D) (ci := 8) (v := .ref a_h_d) (C := RX8) (T := TX8) (N := 14) hx hb hts in_X8_calibrates_X8 hown hK hP 0 rfl rfl 0 (by decide) (hts _ q_X8_calibrates_2) (fun _ h9 => h9) rfl dX8_calibrates_15 ?_
        refine lv_iload_n hx hb dX8_calibrates_18 rfl (lv_at hl 2 rfl) ?_
        obtain ⟨hi43, h⟩ := gA_e h
        refine wx_iald hx hb hK hP 1 0 rfl rfl (Int32.toNatClampNeg x2) rfl hi43 dX8_calibrates_19 ?_
        refine lv_topi (fun t44 et44 => ?_)
        replace h := nm_at h et44
        obtain ⟨hi45, h⟩ := gA_e h
        refine wx_iast hx hb hK hP hD hS 2 0 rfl rfl (Int32.toNatClampNeg x2) rfl hi45 dX8_calibrates_20 rfl (fun H locs hP hD hS => ?_)
        obtain ⟨g46, eg46, h⟩ := nm_x h
        have hP : va_P D vwCl [(a_h, .inr (8, [.ref a_h_d, .long m_account, .ref a_h_was, .ref a_h_accounts, .int v_states, .int v_refused, .ref a_h_text, .int v_typed, .int v_at, .int v_sign, .int v_number, .ref a_h_aside, .ref a_h_places, .ref a_h_told])), (a_h_d, .inl (cI, 2086, .inl m_d_A)), (a_h_aside, .inl (cI, 2086, .inl g46)), (a_h_places, .inl (cI, 12, .inl m_places_A)), (a_h_told, .inl (cI, 6, .inl m_told_A))] H := by rw [eg46]; exact hP
        have hD : va_D A [(a_h, .inr (8, [.ref a_h_d, .long m_account, .ref a_h_was, .ref a_h_accounts, .int v_states, .int v_refused, .ref a_h_text, .int v_typed, .int v_at, .int v_sign, .int v_number, .ref a_h_aside, .ref a_h_places, .ref a_h_told])), (a_h_d, .inl (cI, 2086, .inl m_d_A)), (a_h_aside, .inl (cI, 2086, .inl g46)), (a_h_places, .inl (cI, 12, .inl m_places_A)), (a_h_told, .inl (cI, 6, .inl m_told_A))] := by rw [eg46]; exact hD
        obtain ⟨t47, et47, h⟩ := nm_x h
        refine lv_iinc (v := t47) (lv' := [(2, .int t47), (0, .ref a_h), (1, .int p0)]) hx hb dX8_calibrates_21 hl (k := 2) rfl (by rw [et47]; rfl) (by decide) rfl (fun ls hl => ?_)
        refine lv_goto (tgt := 2) hx hb dX8_calibrates_24 (by decide) ?_
        exact ih t47 m_account m_d_A g46 m_places_A m_told_A _ _ _ h hP hD hS (lv_sub hl [1, 2, 0] rfl)
  refine lv_iconst (v := (0 : Int32)) hx hb dX8_calibrates_0 (by decide) ?_
  refine lv_istore_n (lv' := [(2, .int (0 : Int32)), (0, .ref a_h), (1, .int p0)]) hx hb dX8_calibrates_1 rfl hl (by decide) rfl (fun ls hl => ?_)
  exact B2 N (0 : Int32) v_account v_d_A v_aside_A v_places_A v_told_A _ _ _ h hP hD hS (lv_sub hl [1, 2, 0] rfl)
-- X8_middle
def f_X8_middle (v_places_A : Nat → Int32) (p0 : Int32) : Option (Int32) :=
  gA p0 12 (gA ((6 : Int32) + p0) 12 (Option.bind (f_X8_down ((Int32.toInt64 (v_places_A (Int32.toNatClampNeg p0))) + (Int32.toInt64 (v_places_A (Int32.toNatClampNeg ((6 : Int32) + p0))))) (2 : Int64)) (fun u3 => some u3)))
theorem q_X8_middle_1 : (.fieldLink RX8 27 "SpringBalanceModel" "places" "[I" : Cond) ∈ wsX8_middle := List.mem_of_getElem? (i := 1) (by decide +kernel)
set_option maxRecDepth 20000 in
theorem in_X8_middle_X8 : ∀ w ∈ u_ws RX8 TX8 14, w ∈ wsX8_middle := by decide +kernel
theorem q_X8_middle_2 : (.constantLong RX8 125 (2) : Cond) ∈ wsX8_middle := List.mem_of_getElem? (i := 2) (by decide +kernel)
set_option maxHeartbeats 8000000 in
set_option maxRecDepth 100000 in
theorem k_X8_middle (l : Launch) (D : va_G) (cI cC cJ cB : ClassId) (a_h a_h_d a_h_was a_h_accounts a_h_text a_h_aside a_h_places a_h_told : Nat) (v_account : Int64) (v_states : Int32) (v_refused : Int32) (v_typed : Int32) (v_at : Int32) (v_sign : Int32) (v_number : Int32) (v_places_A : Nat → Int32) (N : Nat) (p0 : Int32) (sz : Nat) (u : Int32) (hu : f_X8_middle v_places_A p0 = some u) :
    Met l yX8_middle wsX8_middle ({ frames := 1, cells := 0, slots := 0, locals := 25 } : Room) (va_Pc [.ref a_h, .int p0] (PreW D (ty4 cI cC cJ cB) sz [(a_h, .inr (8, [.ref a_h_d, .long v_account, .ref a_h_was, .ref a_h_accounts, .int v_states, .int v_refused, .ref a_h_text, .int v_typed, .int v_at, .int v_sign, .int v_number, .ref a_h_aside, .ref a_h_places, .ref a_h_told])), (a_h_places, .inl (cI, 12, .inl v_places_A))]))
      (QI D (ty4 cI cC cJ cB) (va_A [(a_h, .inr (8, [.ref a_h_d, .long v_account, .ref a_h_was, .ref a_h_accounts, .int v_states, .int v_refused, .ref a_h_text, .int v_typed, .int v_at, .int v_sign, .int v_number, .ref a_h_aside, .ref a_h_places, .ref a_h_told])), (a_h_places, .inl (cI, 12, .inl v_places_A))] sz) [(a_h, .inr (8, [.ref a_h_d, .long v_account, .ref a_h_was, .ref a_h_accounts, .int v_states, .int v_refused, .ref a_h_text, .int v_typed, .int v_at, .int v_sign, .int v_number, .ref a_h_aside, .ref a_h_places, .ref a_h_told])), (a_h_places, .inl (cI, 12, .inl v_places_A))] u) 0 0 (va_A [(a_h, .inr (8, [.ref a_h_d, .long v_account, .ref a_h_was, .ref a_h_accounts, .int v_states, .int v_refused, .ref a_h_text, .int v_typed, .int v_at, .int v_sign, .int v_number, .ref a_h_aside, .ref a_h_places, .ref a_h_told])), (a_h_places, .inl (cI, 12, .inl v_places_A))] sz) := by
  refine met_go (y := yX8_middle) (wsy := wsX8_middle) (cc := cX8_middle) (maxL := 2) (ret := (some .int)) (av := [.ref a_h, .int p0]) (Qc := fun A => QI D (ty4 cI cC cJ cB) A [(a_h, .inr (8, [.ref a_h_d, .long v_account, .ref a_h_was, .ref a_h_accounts, .int v_states, .int v_refused, .ref a_h_text, .int v_typed, .int v_at, .int v_sign, .int v_number, .ref a_h_aside, .ref a_h_places, .ref a_h_told])), (a_h_places, .inl (cI, 12, .inl v_places_A))] u) (by decide) rfl (Nat.le_of_ble_eq_true rfl) ?_
  intro p e s m below meth c A ls hx hb hr hml hown hts hlocks hnm hN hK hP hD hS hA hl
  have h := hu
  clear hu
  unfold f_X8_middle at h
  have hl : lv_has ls 2 [(0, .ref a_h), (1, .int p0)] := hl
  refine lv_aload_n hx hb dX8_middle_0 rfl (lv_at hl 0 rfl) ?_
  refine va_get (D := D) (ci := 8) (v := .ref a_h_places) (C := RX8) (T := TX8) (N := 14) hx hb hts in_X8_middle_X8 hown hK hP 0 rfl rfl 12 (by decide) (hts _ q_X8_middle_1) (fun _ h9 => h9) rfl dX8_middle_1 ?_
  refine lv_iload_n hx hb dX8_middle_4 rfl (lv_at hl 1 rfl) ?_
  obtain ⟨hi1, h⟩ := gA_e h
  refine wx_iald hx hb hK hP 1 0 rfl rfl (Int32.toNatClampNeg p0) rfl hi1 dX8_middle_5 ?_
  refine lv_i2l (v := (Int32.toInt64 (v_places_A (Int32.toNatClampNeg p0)))) hx hb dX8_middle_6 rfl ?_
  refine lv_aload_n hx hb dX8_middle_7 rfl (lv_at hl 0 rfl) ?_
  refine va_get (D := D) (ci := 8) (v := .ref a_h_places) (C := RX8) (T := TX8) (N := 14) hx hb hts in_X8_middle_X8 hown hK hP 0 rfl rfl 12 (by decide) (hts _ q_X8_middle_1) (fun _ h9 => h9) rfl dX8_middle_8 ?_
  refine lv_bipush (v := (6 : Int32)) hx hb dX8_middle_11 (by decide) ?_
  refine lv_iload_n hx hb dX8_middle_13 rfl (lv_at hl 1 rfl) ?_
  refine lv_iadd hx hb dX8_middle_14 ?_
  obtain ⟨hi2, h⟩ := gA_e h
  refine wx_iald hx hb hK hP 1 0 rfl rfl (Int32.toNatClampNeg ((6 : Int32) + p0)) rfl hi2 dX8_middle_15 ?_
  refine lv_i2l (v := (Int32.toInt64 (v_places_A (Int32.toNatClampNeg ((6 : Int32) + p0))))) hx hb dX8_middle_16 rfl ?_
  refine lv_ladd hx hb dX8_middle_17 ?_
  refine lv_ldc2 (v := (2 : Int64)) hx hb hown (hts _ q_X8_middle_2) dX8_middle_18 ?_
  obtain ⟨u3, hu3, h⟩ := bd_e h
  refine kx_i (mc := 0) (ms := 0) (wr := [(a_h, .inr (8, [.ref a_h_d, .long v_account, .ref a_h_was, .ref a_h_accounts, .int v_states, .int v_refused, .ref a_h_text, .int v_typed, .int v_at, .int v_sign, .int v_number, .ref a_h_aside, .ref a_h_places, .ref a_h_told])), (a_h_places, .inl (cI, 12, .inl v_places_A))]) (ws2 := [(a_h, .inr (8, [.ref a_h_d, .long v_account, .ref a_h_was, .ref a_h_accounts, .int v_states, .int v_refused, .ref a_h_text, .int v_typed, .int v_at, .int v_sign, .int v_number, .ref a_h_aside, .ref a_h_places, .ref a_h_told])), (a_h_places, .inl (cI, 12, .inl v_places_A))]) (va_runS (As := [.long ((Int32.toInt64 (v_places_A (Int32.toNatClampNeg p0))) + (Int32.toInt64 (v_places_A (Int32.toNatClampNeg ((6 : Int32) + p0))))), .long (2 : Int64)]) (rest := []) ⟨hx, hb, hml, hown, hts⟩ (k_X8_down l D cI cC cJ cB N ((Int32.toInt64 (v_places_A (Int32.toNatClampNeg p0))) + (Int32.toInt64 (v_places_A (Int32.toNatClampNeg ((6 : Int32) + p0))))) (2 : Int64) s.heap.size _ hu3) (va_cwS 2 hts gX8_middle_X8_down rfl rfl rfl (by decide +kernel) ⟨Nat.le_of_ble_eq_true rfl, Nat.le_of_ble_eq_true rfl⟩) (pv_S hP hD hK hN [] rfl rfl) rfl rfl hl.1 rfl (lv_room (Nat.le_of_ble_eq_true rfl)) dX8_middle_21 ⟨Nat.zero_le _, Nat.zero_le _⟩) hP hD hS hA [] [0, 1] [0, 1] rfl rfl rfl rfl rfl rfl (fun H locs hP hD hS => ?_)
  obtain rfl := sm_e h
  exact rx_i hx hb hr  hP hK hD hS dX8_middle_24 hlocks
-- X8_isScale
def f_X8_isScale_b4 (v_places_A : Nat → Int32) (v_told_A : Nat → Int32) (p0 : Int32) : Nat → Int32 → Int32 → Option (Int32)
  | 0, _, _ => none
  | k + 1, x2, x3 =>
    (if p0 < x3 then gT (x2 = 0 ∨ x2 = 1) (some x2)
    else (if x2 = 0 then nm (x3 + (1 : Int32)) (fun t4 => (f_X8_isScale_b4 v_places_A v_told_A p0 k (0 : Int32) t4))
    else Option.bind (f_X8_middle v_places_A x3) (fun u5 => Option.bind (f_X8_in u5 (-1000 : Int32) (30000 : Int32)) (fun u6 => (if u6 = 0 then nm (x3 + (1 : Int32)) (fun t8 => (f_X8_isScale_b4 v_places_A v_told_A p0 k (0 : Int32) t8))
    else gA x3 6 (Option.bind (f_X8_in (v_told_A (Int32.toNatClampNeg x3)) (0 : Int32) (1000 : Int32)) (fun u10 => (if u10 = 0 then nm (x3 + (1 : Int32)) (fun t12 => (f_X8_isScale_b4 v_places_A v_told_A p0 k (0 : Int32) t12))
    else (if x3 = 0 then nm (x3 + (1 : Int32)) (fun t14 => (f_X8_isScale_b4 v_places_A v_told_A p0 k (1 : Int32) t14))
    else Option.bind (f_X8_middle v_places_A x3) (fun u15 => Option.bind (f_X8_middle v_places_A (x3 - (1 : Int32))) (fun u16 => (if u15 ≤ u16 then nm (x3 + (1 : Int32)) (fun t18 => (f_X8_isScale_b4 v_places_A v_told_A p0 k (0 : Int32) t18))
    else gA x3 6 (gA (x3 - (1 : Int32)) 6 ((if (v_told_A (Int32.toNatClampNeg x3)) ≤ (v_told_A (Int32.toNatClampNeg (x3 - (1 : Int32)))) then nm (x3 + (1 : Int32)) (fun t22 => (f_X8_isScale_b4 v_places_A v_told_A p0 k (0 : Int32) t22))
    else nm (x3 + (1 : Int32)) (fun t23 => (f_X8_isScale_b4 v_places_A v_told_A p0 k (1 : Int32) t23)))))))))))))))))
def f_X8_isScale (N : Nat) (v_places_A : Nat → Int32) (v_told_A : Nat → Int32) (p0 : Int32) : Option (Int32) :=
  (f_X8_isScale_b4 v_places_A v_told_A p0 N (1 : Int32) (0 : Int32))
theorem q_X8_isScale_1 : (.fieldLink RX8 30 "SpringBalanceModel" "told" "[I" : Cond) ∈ wsX8_isScale := List.mem_of_getElem? (i := 1) (by decide +kernel)
set_option maxRecDepth 20000 in
theorem in_X8_isScale_X8 : ∀ w ∈ u_ws RX8 TX8 14, w ∈ wsX8_isScale := by decide +kernel
set_option maxHeartbeats 8000000 in
set_option maxRecDepth 100000 in
theorem k_X8_isScale (l : Launch) (D : va_G) (cI cC cJ cB : ClassId) (a_h a_h_d a_h_was a_h_accounts a_h_text a_h_aside a_h_places a_h_told : Nat) (v_account : Int64) (v_states : Int32) (v_refused : Int32) (v_typed : Int32) (v_at : Int32) (v_sign : Int32) (v_number : Int32) (v_places_A : Nat → Int32) (v_told_A : Nat → Int32) (N : Nat) (p0 : Int32) (sz : Nat) (u : Int32) (hu : f_X8_isScale N v_places_A v_told_A p0 = some u) :
    Met l yX8_isScale wsX8_isScale ({ frames := 2, cells := 0, slots := 0, locals := 46 } : Room) (va_Pc [.ref a_h, .int p0] (PreW D (ty4 cI cC cJ cB) sz [(a_h, .inr (8, [.ref a_h_d, .long v_account, .ref a_h_was, .ref a_h_accounts, .int v_states, .int v_refused, .ref a_h_text, .int v_typed, .int v_at, .int v_sign, .int v_number, .ref a_h_aside, .ref a_h_places, .ref a_h_told])), (a_h_places, .inl (cI, 12, .inl v_places_A)), (a_h_told, .inl (cI, 6, .inl v_told_A))]))
      (QI D (ty4 cI cC cJ cB) (va_A [(a_h, .inr (8, [.ref a_h_d, .long v_account, .ref a_h_was, .ref a_h_accounts, .int v_states, .int v_refused, .ref a_h_text, .int v_typed, .int v_at, .int v_sign, .int v_number, .ref a_h_aside, .ref a_h_places, .ref a_h_told])), (a_h_places, .inl (cI, 12, .inl v_places_A)), (a_h_told, .inl (cI, 6, .inl v_told_A))] sz) [(a_h, .inr (8, [.ref a_h_d, .long v_account, .ref a_h_was, .ref a_h_accounts, .int v_states, .int v_refused, .ref a_h_text, .int v_typed, .int v_at, .int v_sign, .int v_number, .ref a_h_aside, .ref a_h_places, .ref a_h_told])), (a_h_places, .inl (cI, 12, .inl v_places_A)), (a_h_told, .inl (cI, 6, .inl v_told_A))] u) 0 0 (va_A [(a_h, .inr (8, [.ref a_h_d, .long v_account, .ref a_h_was, .ref a_h_accounts, .int v_states, .int v_refused, .ref a_h_text, .int v_typed, .int v_at, .int v_sign, .int v_number, .ref a_h_aside, .ref a_h_places, .ref a_h_told])), (a_h_places, .inl (cI, 12, .inl v_places_A)), (a_h_told, .inl (cI, 6, .inl v_told_A))] sz) := by
  refine met_go (y := yX8_isScale) (wsy := wsX8_isScale) (cc := cX8_isScale) (maxL := 4) (ret := (some .boolean)) (av := [.ref a_h, .int p0]) (Qc := fun A => QI D (ty4 cI cC cJ cB) A [(a_h, .inr (8, [.ref a_h_d, .long v_account, .ref a_h_was, .ref a_h_accounts, .int v_states, .int v_refused, .ref a_h_text, .int v_typed, .int v_at, .int v_sign, .int v_number, .ref a_h_aside, .ref a_h_places, .ref a_h_told])), (a_h_places, .inl (cI, 12, .inl v_places_A)), (a_h_told, .inl (cI, 6, .inl v_told_A))] u) (by decide) rfl (Nat.le_of_ble_eq_true rfl) ?_
  intro p e s m below meth c A ls hx hb hr hml hown hts hlocks hnm hN hK hP hD hS hA hl
  have h := hu
  clear hu
  unfold f_X8_isScale at h
  have hl : lv_has ls 4 [(0, .ref a_h), (1, .int p0)] := hl
  have B4 : ∀ (k : Nat) (x2 : Int32) (x3 : Int32) (H : Heap) (locs : List Loc) (ls : Array Slot), f_X8_isScale_b4 v_places_A v_told_A p0 k x2 x3 = some u → va_P D vwCl [(a_h, .inr (8, [.ref a_h_d, .long v_account, .ref a_h_was, .ref a_h_accounts, .int v_states, .int v_refused, .ref a_h_text, .int v_typed, .int v_at, .int v_sign, .int v_number, .ref a_h_aside, .ref a_h_places, .ref a_h_told])), (a_h_places, .inl (cI, 12, .inl v_places_A)), (a_h_told, .inl (cI, 6, .inl v_told_A))] H → va_D A [(a_h, .inr (8, [.ref a_h_d, .long v_account, .ref a_h_was, .ref a_h_accounts, .int v_states, .int v_refused, .ref a_h_text, .int v_typed, .int v_at, .int v_sign, .int v_number, .ref a_h_aside, .ref a_h_places, .ref a_h_told])), (a_h_places, .inl (cI, 12, .inl v_places_A)), (a_h_told, .inl (cI, 6, .inl v_told_A))] → va_S A s.heap H locs → lv_has ls 4 [(0, .ref a_h), (1, .int p0), (2, .int x2), (3, .int x3)] → W p l e ({ frames := 2, cells := 0, slots := 0, locals := 46 } : Room) s m ([.ref a_h, .int p0] : List Value).toArray below meth c H locs 0 0 (MQ below (QI D (ty4 cI cC cJ cB) A [(a_h, .inr (8, [.ref a_h_d, .long v_account, .ref a_h_was, .ref a_h_accounts, .int v_states, .int v_refused, .ref a_h_text, .int v_typed, .int v_at, .int v_sign, .int v_number, .ref a_h_aside, .ref a_h_places, .ref a_h_told])), (a_h_places, .inl (cI, 12, .inl v_places_A)), (a_h_told, .inl (cI, 6, .inl v_told_A))] u) ([.ref a_h, .int p0] : List Value).toArray s 0 0 A) (F0 m 4 ls []) := by
    intro k
    induction k with
    | zero =>
      intro x2 x3 H locs ls h
      exact nomatch (show (none : Option (Int32)) = some u from h)
    | succ k ih =>
      intro x2 x3 H locs ls h hP hD hS hl
      rw [f_X8_isScale_b4.eq_2] at h
      refine lv_iload_n hx hb dX8_isScale_4 rfl (lv_at hl 3 rfl) ?_
      refine lv_iload_n hx hb dX8_isScale_5 rfl (lv_at hl 1 rfl) ?_
      refine lv_icmp_gt (tgt := 94) hx hb dX8_isScale_6 (by decide) (fun hc1 => ?_) (fun hc1 => ?_)
      · replace h := it_e hc1 h
        refine lv_iload_n hx hb dX8_isScale_94 rfl (lv_at hl 2 rfl) ?_
        obtain ⟨hz2, h⟩ := gT_e h
        obtain rfl := sm_e h
        exact rx_z hx hb hr (nar_z hz2) hP hK hD hS dX8_isScale_95 hlocks
      · replace h := if_e hc1 h
        refine lv_iload_n hx hb dX8_isScale_9 rfl (lv_at hl 2 rfl) ?_
        refine lv_if_eq (tgt := 86) hx hb dX8_isScale_10 (by decide) (fun hc3 => ?_) (fun hc3 => ?_)
        · replace h := it_e hc3 h
          refine lv_iconst (v := (0 : Int32)) hx hb dX8_isScale_86 (by decide) ?_
          refine lv_istore_n (lv' := [(2, .int (0 : Int32)), (0, .ref a_h), (1, .int p0), (3, .int x3)]) hx hb dX8_isScale_87 rfl hl (by decide) rfl (fun ls hl => ?_)
          obtain ⟨t4, et4, h⟩ := nm_x h
          refine lv_iinc (v := t4) (lv' := [(3, .int t4), (2, .int (0 : Int32)), (0, .ref a_h), (1, .int p0)]) hx hb dX8_isScale_88 hl (k := 3) rfl (by rw [et4]; rfl) (by decide) rfl (fun ls hl => ?_)
          refine lv_goto (tgt := 4) hx hb dX8_isScale_91 (by decide) ?_
          exact ih (0 : Int32) t4 _ _ _ h hP hD hS (lv_sub hl [2, 3, 1, 0] rfl)
        · replace h := if_e hc3 h
          refine lv_aload_n hx hb dX8_isScale_13 rfl (lv_at hl 0 rfl) ?_
          refine lv_iload_n hx hb dX8_isScale_14 rfl (lv_at hl 3 rfl) ?_
          obtain ⟨u5, hu5, h⟩ := bd_e h
          refine kx_i (mc := 0) (ms := 0) (wr := [(a_h_told, .inl (cI, 6, .inl v_told_A))]) (ws2 := [(a_h, .inr (8, [.ref a_h_d, .long v_account, .ref a_h_was, .ref a_h_accounts, .int v_states, .int v_refused, .ref a_h_text, .int v_typed, .int v_at, .int v_sign, .int v_number, .ref a_h_aside, .ref a_h_places, .ref a_h_told])), (a_h_places, .inl (cI, 12, .inl v_places_A)), (a_h_told, .inl (cI, 6, .inl v_told_A))]) (va_runV (As := [.int x3]) (rest := []) ⟨hx, hb, hml, hown, hts⟩ (k_X8_middle l D cI cC cJ cB a_h a_h_d a_h_was a_h_accounts a_h_text a_h_aside a_h_places a_h_told v_account v_states v_refused v_typed v_at v_sign v_number v_places_A N x3 H.size _ hu5) (cwV 1 hts gX8_isScale_X8_middle rfl rfl rfl (by decide +kernel) ⟨Nat.le_of_ble_eq_true rfl, Nat.le_of_ble_eq_true rfl⟩) (pv_V hP hD hK hN [0, 1] rfl rfl (ci := 8) rfl 0 rfl) rfl rfl hl.1 rfl (lv_room (Nat.le_of_ble_eq_true rfl)) dX8_isScale_15 ⟨Nat.zero_le _, Nat.zero_le _⟩) hP hD hS hA [0, 1] [2] [1, 2, 0] rfl rfl rfl rfl rfl rfl (fun H locs hP hD hS => ?_)
          refine lv_sipush (v := (-1000 : Int32)) hx hb dX8_isScale_18 (by decide) ?_
          refine lv_sipush (v := (30000 : Int32)) hx hb dX8_isScale_21 (by decide) ?_
          obtain ⟨u6, hu6, h⟩ := bd_e h
          refine kx_i (mc := 0) (ms := 0) (wr := [(a_h, .inr (8, [.ref a_h_d, .long v_account, .ref a_h_was, .ref a_h_accounts, .int v_states, .int v_refused, .ref a_h_text, .int v_typed, .int v_at, .int v_sign, .int v_number, .ref a_h_aside, .ref a_h_places, .ref a_h_told])), (a_h_places, .inl (cI, 12, .inl v_places_A)), (a_h_told, .inl (cI, 6, .inl v_told_A))]) (ws2 := [(a_h, .inr (8, [.ref a_h_d, .long v_account, .ref a_h_was, .ref a_h_accounts, .int v_states, .int v_refused, .ref a_h_text, .int v_typed, .int v_at, .int v_sign, .int v_number, .ref a_h_aside, .ref a_h_places, .ref a_h_told])), (a_h_places, .inl (cI, 12, .inl v_places_A)), (a_h_told, .inl (cI, 6, .inl v_told_A))]) (va_runS (As := [.int u5, .int (-1000 : Int32), .int (30000 : Int32)]) (rest := []) ⟨hx, hb, hml, hown, hts⟩ (k_X8_in l D cI cC cJ cB N u5 (-1000 : Int32) (30000 : Int32) H.size _ hu6) (va_cwS 3 hts gX8_isScale_X8_in rfl rfl rfl (by decide +kernel) ⟨Nat.le_of_ble_eq_true rfl, Nat.le_of_ble_eq_true rfl⟩) (pv_S hP hD hK hN [] rfl rfl) rfl rfl hl.1 rfl (lv_room (Nat.le_of_ble_eq_true rfl)) dX8_isScale_24 ⟨Nat.zero_le _, Nat.zero_le _⟩) hP hD hS hA [] [0, 1, 2] [0, 1, 2] rfl rfl rfl rfl rfl rfl (fun H locs hP hD hS => ?_)
          refine lv_if_eq (tgt := 86) hx hb dX8_isScale_27 (by decide) (fun hc7 => ?_) (fun hc7 => ?_)
          · replace h := it_e hc7 h
            refine lv_iconst (v := (0 : Int32)) hx hb dX8_isScale_86 (by decide) ?_
            refine lv_istore_n (lv' := [(2, .int (0 : Int32)), (0, .ref a_h), (1, .int p0), (3, .int x3)]) hx hb dX8_isScale_87 rfl hl (by decide) rfl (fun ls hl => ?_)
            obtain ⟨t8, et8, h⟩ := nm_x h
            refine lv_iinc (v := t8) (lv' := [(3, .int t8), (2, .int (0 : Int32)), (0, .ref a_h), (1, .int p0)]) hx hb dX8_isScale_88 hl (k := 3) rfl (by rw [et8]; rfl) (by decide) rfl (fun ls hl => ?_)
            refine lv_goto (tgt := 4) hx hb dX8_isScale_91 (by decide) ?_
            exact ih (0 : Int32) t8 _ _ _ h hP hD hS (lv_sub hl [2, 3, 1, 0] rfl)
          · replace h := if_e hc7 h
            refine lv_aload_n hx hb dX8_isScale_30 rfl (lv_at hl 0 rfl) ?_
            refine va_get (D := D) (ci := 8) (v := .ref a_h_told) (C := RX8) (T := TX8) (N := 14) hx hb hts in_X8_isScale_X8 hown hK hP 0 rfl rfl 13 (by decide) (hts _ q_X8_isScale_1) (fun _ h9 => h9) rfl dX8_isScale_31 ?_
            refine lv_iload_n hx hb dX8_isScale_34 rfl (lv_at hl 3 rfl) ?_
            obtain ⟨hi9, h⟩ := gA_e h
            refine wx_iald hx hb hK hP 2 0 rfl rfl (Int32.toNatClampNeg x3) rfl hi9 dX8_isScale_35 ?_
            refine lv_iconst (v := (0 : Int32)) hx hb dX8_isScale_36 (by decide) ?_
            refine lv_sipush (v := (1000 : Int32)) hx hb dX8_isScale_37 (by decide) ?_
            obtain ⟨u10, hu10, h⟩ := bd_e h
            refine kx_i (mc := 0) (ms := 0) (wr := [(a_h, .inr (8, [.ref a_h_d, .long v_account, .ref a_h_was, .ref a_h_accounts, .int v_states, .int v_refused, .ref a_h_text, .int v_typed, .int v_at, .int v_sign, .int v_number, .ref a_h_aside, .ref a_h_places, .ref a_h_told])), (a_h_places, .inl (cI, 12, .inl v_places_A)), (a_h_told, .inl (cI, 6, .inl v_told_A))]) (ws2 := [(a_h, .inr (8, [.ref a_h_d, .long v_account, .ref a_h_was, .ref a_h_accounts, .int v_states, .int v_refused, .ref a_h_text, .int v_typed, .int v_at, .int v_sign, .int v_number, .ref a_h_aside, .ref a_h_places, .ref a_h_told])), (a_h_places, .inl (cI, 12, .inl v_places_A)), (a_h_told, .inl (cI, 6, .inl v_told_A))]) (va_runS (As := [.int (v_told_A (Int32.toNatClampNeg x3)), .int (0 : Int32), .int (1000 : Int32)]) (rest := []) ⟨hx, hb, hml, hown, hts⟩ (k_X8_in l D cI cC cJ cB N (v_told_A (Int32.toNatClampNeg x3)) (0 : Int32) (1000 : Int32) H.size _ hu10) (va_cwS 3 hts gX8_isScale_X8_in rfl rfl rfl (by decide +kernel) ⟨Nat.le_of_ble_eq_true rfl, Nat.le_of_ble_eq_true rfl⟩) (pv_S hP hD hK hN [] rfl rfl) rfl rfl hl.1 rfl (lv_room (Nat.le_of_ble_eq_true rfl)) dX8_isScale_40 ⟨Nat.zero_le _, Nat.zero_le _⟩) hP hD hS hA [] [0, 1, 2] [0, 1, 2] rfl rfl rfl rfl rfl rfl (fun H locs hP hD hS => ?_)
            refine lv_if_eq (tgt := 86) hx hb dX8_isScale_43 (by decide) (fun hc11 => ?_) (fun hc11 => ?_)
            · replace h := it_e hc11 h
              refine lv_iconst (v := (0 : Int32)) hx hb dX8_isScale_86 (by decide) ?_
              refine lv_istore_n (lv' := [(2, .int (0 : Int32)), (0, .ref a_h), (1, .int p0), (3, .int x3)]) hx hb dX8_isScale_87 rfl hl (by decide) rfl (fun ls hl => ?_)
              obtain ⟨t12, et12, h⟩ := nm_x h
              refine lv_iinc (v := t12) (lv' := [(3, .int t12), (2, .int (0 : Int32)), (0, .ref a_h), (1, .int p0)]) hx hb dX8_isScale_88 hl (k := 3) rfl (by rw [et12]; rfl) (by decide) rfl (fun ls hl => ?_)
              refine lv_goto (tgt := 4) hx hb dX8_isScale_91 (by decide) ?_
              exact ih (0 : Int32) t12 _ _ _ h hP hD hS (lv_sub hl [2, 3, 1, 0] rfl)
            · replace h := if_e hc11 h
              refine lv_iload_n hx hb dX8_isScale_46 rfl (lv_at hl 3 rfl) ?_
              refine lv_if_eq (tgt := 82) hx hb dX8_isScale_47 (by decide) (fun hc13 => ?_) (fun hc13 => ?_)
              · replace h := it_e hc13 h
                refine lv_iconst (v := (1 : Int32)) hx hb dX8_isScale_82 (by decide) ?_
                refine lv_goto (tgt := 87) hx hb dX8_isScale_83 (by decide) ?_
                refine lv_istore_n (lv' := [(2, .int (1 : Int32)), (0, .ref a_h), (1, .int p0), (3, .int x3)]) hx hb dX8_isScale_87 rfl hl (by decide) rfl (fun ls hl => ?_)
                obtain ⟨t14, et14, h⟩ := nm_x h
                refine lv_iinc (v := t14) (lv' := [(3, .int t14), (2, .int (1 : Int32)), (0, .ref a_h), (1, .int p0)]) hx hb dX8_isScale_88 hl (k := 3) rfl (by rw [et14]; rfl) (by decide) rfl (fun ls hl => ?_)
                refine lv_goto (tgt := 4) hx hb dX8_isScale_91 (by decide) ?_
                exact ih (1 : Int32) t14 _ _ _ h hP hD hS (lv_sub hl [2, 3, 1, 0] rfl)
              · replace h := if_e hc13 h
                refine lv_aload_n hx hb dX8_isScale_50 rfl (lv_at hl 0 rfl) ?_
                refine lv_iload_n hx hb dX8_isScale_51 rfl (lv_at hl 3 rfl) ?_
                obtain ⟨u15, hu15, h⟩ := bd_e h
                refine kx_i (mc := 0) (ms := 0) (wr := [(a_h_told, .inl (cI, 6, .inl v_told_A))]) (ws2 := [(a_h, .inr (8, [.ref a_h_d, .long v_account, .ref a_h_was, .ref a_h_accounts, .int v_states, .int v_refused, .ref a_h_text, .int v_typed, .int v_at, .int v_sign, .int v_number, .ref a_h_aside, .ref a_h_places, .ref a_h_told])), (a_h_places, .inl (cI, 12, .inl v_places_A)), (a_h_told, .inl (cI, 6, .inl v_told_A))]) (va_runV (As := [.int x3]) (rest := []) ⟨hx, hb, hml, hown, hts⟩ (k_X8_middle l D cI cC cJ cB a_h a_h_d a_h_was a_h_accounts a_h_text a_h_aside a_h_places a_h_told v_account v_states v_refused v_typed v_at v_sign v_number v_places_A N x3 H.size _ hu15) (cwV 1 hts gX8_isScale_X8_middle rfl rfl rfl (by decide +kernel) ⟨Nat.le_of_ble_eq_true rfl, Nat.le_of_ble_eq_true rfl⟩) (pv_V hP hD hK hN [0, 1] rfl rfl (ci := 8) rfl 0 rfl) rfl rfl hl.1 rfl (lv_room (Nat.le_of_ble_eq_true rfl)) dX8_isScale_52 ⟨Nat.zero_le _, Nat.zero_le _⟩) hP hD hS hA [0, 1] [2] [1, 2, 0] rfl rfl rfl rfl rfl rfl (fun H locs hP hD hS => ?_)
                refine lv_aload_n hx hb dX8_isScale_55 rfl (lv_at hl 0 rfl) ?_
                refine lv_iload_n hx hb dX8_isScale_56 rfl (lv_at hl 3 rfl) ?_
                refine lv_iconst (v := (1 : Int32)) hx hb dX8_isScale_57 (by decide) ?_
                refine lv_isub hx hb dX8_isScale_58 ?_
                obtain ⟨u16, hu16, h⟩ := bd_e h
                refine kx_i (mc := 0) (ms := 0) (wr := [(a_h_told, .inl (cI, 6, .inl v_told_A))]) (ws2 := [(a_h, .inr (8, [.ref a_h_d, .long v_account, .ref a_h_was, .ref a_h_accounts, .int v_states, .int v_refused, .ref a_h_text, .int v_typed, .int v_at, .int v_sign, .int v_number, .ref a_h_aside, .ref a_h_places, .ref a_h_told])), (a_h_places, .inl (cI, 12, .inl v_places_A)), (a_h_told, .inl (cI, 6, .inl v_told_A))]) (va_runV (As := [.int (x3 - (1 : Int32))]) (rest := [.int u15]) ⟨hx, hb, hml, hown, hts⟩ (k_X8_middle l D cI cC cJ cB a_h a_h_d a_h_was a_h_accounts a_h_text a_h_aside a_h_places a_h_told v_account v_states v_refused v_typed v_at v_sign v_number v_places_A N (x3 - (1 : Int32)) H.size _ hu16) (cwV 1 hts gX8_isScale_X8_middle rfl rfl rfl (by decide +kernel) ⟨Nat.le_of_ble_eq_true rfl, Nat.le_of_ble_eq_true rfl⟩) (pv_V hP hD hK hN [0, 1] rfl rfl (ci := 8) rfl 0 rfl) rfl rfl hl.1 rfl (lv_room (Nat.le_of_ble_eq_true rfl)) dX8_isScale_59 ⟨Nat.zero_le _, Nat.zero_le _⟩) hP hD hS hA [0, 1] [2] [1, 2, 0] rfl rfl rfl rfl rfl rfl (fun H locs hP hD hS => ?_)
                refine lv_icmp_le (tgt := 86) hx hb dX8_isScale_62 (by decide) (fun hc17 => ?_) (fun hc17 => ?_)
                · replace h := it_e hc17 h
                  refine lv_iconst (v := (0 : Int32)) hx hb dX8_isScale_86 (by decide) ?_
                  refine lv_istore_n (lv' := [(2, .int (0 : Int32)), (0, .ref a_h), (1, .int p0), (3, .int x3)]) hx hb dX8_isScale_87 rfl hl (by decide) rfl (fun ls hl => ?_)
                  obtain ⟨t18, et18, h⟩ := nm_x h
                  refine lv_iinc (v := t18) (lv' := [(3, .int t18), (2, .int (0 : Int32)), (0, .ref a_h), (1, .int p0)]) hx hb dX8_isScale_88 hl (k := 3) rfl (by rw [et18]; rfl) (by decide) rfl (fun ls hl => ?_)
                  refine lv_goto (tgt := 4) hx hb dX8_isScale_91 (by decide) ?_
                  exact ih (0 : Int32) t18 _ _ _ h hP hD hS (lv_sub hl [2, 3, 1, 0] rfl)
                · replace h := if_e hc17 h
                  refine lv_aload_n hx hb dX8_isScale_65 rfl (lv_at hl 0 rfl) ?_
                  refine va_get (D := D) (ci := 8) (v := .ref a_h_told) (C := RX8) (T := TX8) (N := 14) hx hb hts in_X8_isScale_X8 hown hK hP 0 rfl rfl 13 (by decide) (hts _ q_X8_isScale_1) (fun _ h9 => h9) rfl dX8_isScale_66 ?_
                  refine lv_iload_n hx hb dX8_isScale_69 rfl (lv_at hl 3 rfl) ?_
                  obtain ⟨hi19, h⟩ := gA_e h
                  refine wx_iald hx hb hK hP 2 0 rfl rfl (Int32.toNatClampNeg x3) rfl hi19 dX8_isScale_70 ?_
                  refine lv_aload_n hx hb dX8_isScale_71 rfl (lv_at hl 0 rfl) ?_
                  refine va_get (D := D) (ci := 8) (v := .ref a_h_told) (C := RX8) (T := TX8) (N := 14) hx hb hts in_X8_isScale_X8 hown hK hP 0 rfl rfl 13 (by decide) (hts _ q_X8_isScale_1) (fun _ h9 => h9) rfl dX8_isScale_72 ?_
                  refine lv_iload_n hx hb dX8_isScale_75 rfl (lv_at hl 3 rfl) ?_
                  refine lv_iconst (v := (1 : Int32)) hx hb dX8_isScale_76 (by decide) ?_
                  refine lv_isub hx hb dX8_isScale_77 ?_
                  obtain ⟨hi20, h⟩ := gA_e h
                  refine wx_iald hx hb hK hP 2 0 rfl rfl (Int32.toNatClampNeg (x3 - (1 : Int32))) rfl hi20 dX8_isScale_78 ?_
                  refine lv_icmp_le (tgt := 86) hx hb dX8_isScale_79 (by decide) (fun hc21 => ?_) (fun hc21 => ?_)
                  · replace h := it_e hc21 h
                    refine lv_iconst (v := (0 : Int32)) hx hb dX8_isScale_86 (by decide) ?_
                    refine lv_istore_n (lv' := [(2, .int (0 : Int32)), (0, .ref a_h), (1, .int p0), (3, .int x3)]) hx hb dX8_isScale_87 rfl hl (by decide) rfl (fun ls hl => ?_)
                    obtain ⟨t22, et22, h⟩ := nm_x h
                    refine lv_iinc (v := t22) (lv' := [(3, .int t22), (2, .int (0 : Int32)), (0, .ref a_h), (1, .int p0)]) hx hb dX8_isScale_88 hl (k := 3) rfl (by rw [et22]; rfl) (by decide) rfl (fun ls hl => ?_)
                    refine lv_goto (tgt := 4) hx hb dX8_isScale_91 (by decide) ?_
                    exact ih (0 : Int32) t22 _ _ _ h hP hD hS (lv_sub hl [2, 3, 1, 0] rfl)
                  · replace h := if_e hc21 h
                    refine lv_iconst (v := (1 : Int32)) hx hb dX8_isScale_82 (by decide) ?_
                    refine lv_goto (tgt := 87) hx hb dX8_isScale_83 (by decide) ?_
                    refine lv_istore_n (lv' := [(2, .int (1 : Int32)), (0, .ref a_h), (1, .int p0), (3, .int x3)]) hx hb dX8_isScale_87 rfl hl (by decide) rfl (fun ls hl => ?_)
                    obtain ⟨t23, et23, h⟩ := nm_x h
                    refine lv_iinc (v := t23) (lv' := [(3, .int t23), (2, .int (1 : Int32)), (0, .ref a_h), (1, .int p0)]) hx hb dX8_isScale_88 hl (k := 3) rfl (by rw [et23]; rfl) (by decide) rfl (fun ls hl => ?_)
                    refine lv_goto (tgt := 4) hx hb dX8_isScale_91 (by decide) ?_
                    exact ih (1 : Int32) t23 _ _ _ h hP hD hS (lv_sub hl [2, 3, 1, 0] rfl)
  refine lv_iconst (v := (1 : Int32)) hx hb dX8_isScale_0 (by decide) ?_
  refine lv_istore_n (lv' := [(2, .int (1 : Int32)), (0, .ref a_h), (1, .int p0)]) hx hb dX8_isScale_1 rfl hl (by decide) rfl (fun ls hl => ?_)
  refine lv_iconst (v := (0 : Int32)) hx hb dX8_isScale_2 (by decide) ?_
  refine lv_istore_n (lv' := [(3, .int (0 : Int32)), (2, .int (1 : Int32)), (0, .ref a_h), (1, .int p0)]) hx hb dX8_isScale_3 rfl hl (by decide) rfl (fun ls hl => ?_)
  exact B4 N (1 : Int32) (0 : Int32) _ _ _ h hP hD hS (lv_sub hl [2, 3, 1, 0] rfl)
-- X8_calibration
def f_X8_calibration_b157 (N : Nat) (p0 : Int32) (p1 : Int32) (x3 : Int32) (x4 : Int32) (m_account : Int64) (m_d_A : Nat → Int32) (m_aside_A : Nat → Int32) (m_places_A : Nat → Int32) (m_told_A : Nat → Int32) : Nat → Int32 → Int32 → Option (Int32 × Int64 × (Nat → Int32) × (Nat → Int32) × (Nat → Int32) × (Nat → Int32))
  | 0, _, _ => none
  | k + 1, x5, x6 =>
    (if (m_d_A 41) ≤ x6 then (if ¬ p1 = (12 : Int32) then (if ¬ p1 = (13 : Int32) then Option.bind (f_X8_isScale N m_places_A m_told_A x3) (fun u16 => (if u16 = 0 then some ((0 : Int32), m_account, m_d_A, m_aside_A, m_places_A, m_told_A)
    else some ((1 : Int32), m_account, m_d_A, m_aside_A, m_places_A, m_told_A)))
    else some (x5, m_account, m_d_A, m_aside_A, m_places_A, m_told_A))
    else some (x4, m_account, m_d_A, m_aside_A, m_places_A, m_told_A))
    else (if ¬ ((p0 >>> (x6 &&& 31)) &&& (1 : Int32)) = (1 : Int32) then nm (x5 + (0 : Int32)) (fun t19 => nm (x6 + (1 : Int32)) (fun t20 => (f_X8_calibration_b157 N p0 p1 x3 x4 m_account m_d_A m_aside_A m_places_A m_told_A k t19 t20)))
    else Option.bind (f_X8_chained N m_d_A x6 (58 : Int32)) (fun u21 => nm (x5 + u21) (fun t22 => nm (x6 + (1 : Int32)) (fun t23 => (f_X8_calibration_b157 N p0 p1 x3 x4 m_account m_d_A m_aside_A m_places_A m_told_A k t22 t23))))))
def f_X8_calibration_b91 (N : Nat) (p0 : Int32) (p1 : Int32) (x3 : Int32) (m_account : Int64) (m_d_A : Nat → Int32) (m_aside_A : Nat → Int32) (m_places_A : Nat → Int32) (m_told_A : Nat → Int32) : Nat → Int32 → Int32 → Option (Int32 × Int64 × (Nat → Int32) × (Nat → Int32) × (Nat → Int32) × (Nat → Int32))
  | 0, _, _ => none
  | k + 1, x4, x5 =>
    (if x3 < x5 then (f_X8_calibration_b157 N p0 p1 x3 x4 m_account m_d_A m_aside_A m_places_A m_told_A N (0 : Int32) (0 : Int32))
    else gA ((6 : Int32) + x5) 12 (gA x5 12 ((if ((m_places_A (Int32.toNatClampNeg ((6 : Int32) + x5))) - (m_places_A (Int32.toNatClampNeg x5))) ≤ x4 then nm (x5 + (1 : Int32)) (fun t27 => (f_X8_calibration_b91 N p0 p1 x3 m_account m_d_A m_aside_A m_places_A m_told_A k x4 t27))
    else gA ((6 : Int32) + x5) 12 (gA x5 12 (nm ((m_places_A (Int32.toNatClampNeg ((6 : Int32) + x5))) - (m_places_A (Int32.toNatClampNeg x5))) (fun t30 => nm (x5 + (1 : Int32)) (fun t31 => (f_X8_calibration_b91 N p0 p1 x3 m_account m_d_A m_aside_A m_places_A m_told_A k t30 t31)))))))))
def f_X8_calibration (N : Nat) (v_account : Int64) (v_d_A : Nat → Int32) (v_aside_A : Nat → Int32) (v_places_A : Nat → Int32) (v_told_A : Nat → Int32) (p0 : Int32) (p1 : Int32) : Option (Int32 × Int64 × (Nat → Int32) × (Nat → Int32) × (Nat → Int32) × (Nat → Int32)) :=
  Option.bind (f_X8_isSet N v_d_A p0) (fun u1 => (if u1 = 0 then some ((-2000000001 : Int32), v_account, v_d_A, v_aside_A, v_places_A, v_told_A)
    else Option.bind (f_X8_in p1 (0 : Int32) (14 : Int32)) (fun u3 => (if ¬ u3 = 0 then Option.bind (f_X8_isCalibrating N v_d_A p0) (fun u5 => (if ¬ u5 = 0 then Option.bind (f_X8_ones N p0) (fun u7 => (if (12 : Int32) ≤ p1 then Option.bind (f_X8_calibrates N v_account v_d_A v_aside_A v_places_A v_told_A p0) (fun u9 => (if (12 : Int32) ≤ p1 then nm ((u9.2.2.2.1 6) - (u9.2.2.2.1 0)) (fun t11 => (f_X8_calibration_b91 N p0 p1 u7 u9.1 u9.2.1 u9.2.2.1 u9.2.2.2.1 u9.2.2.2.2 N t11 (1 : Int32)))
    else gA p1 12 (some ((u9.2.2.2.1 (Int32.toNatClampNeg p1)), u9.1, u9.2.1, u9.2.2.1, u9.2.2.2.1, u9.2.2.2.2))))
    else (if (p1 - p1 / (6 : Int32) * (6 : Int32)) ≤ u7 then Option.bind (f_X8_calibrates N v_account v_d_A v_aside_A v_places_A v_told_A p0) (fun u34 => (if (12 : Int32) ≤ p1 then nm ((u34.2.2.2.1 6) - (u34.2.2.2.1 0)) (fun t36 => (f_X8_calibration_b91 N p0 p1 u7 u34.1 u34.2.1 u34.2.2.1 u34.2.2.2.1 u34.2.2.2.2 N t36 (1 : Int32)))
    else gA p1 12 (some ((u34.2.2.2.1 (Int32.toNatClampNeg p1)), u34.1, u34.2.1, u34.2.2.1, u34.2.2.2.1, u34.2.2.2.2))))
    else some ((-2000000004 : Int32), v_account, v_d_A, v_aside_A, v_places_A, v_told_A))))
    else some ((-2000000002 : Int32), v_account, v_d_A, v_aside_A, v_places_A, v_told_A)))
    else some ((-2000000001 : Int32), v_account, v_d_A, v_aside_A, v_places_A, v_told_A)))))
theorem q_X8_calibration_1 : (.constant RX8 64 (-2000000001) : Cond) ∈ wsX8_calibration := List.mem_of_getElem? (i := 1) (by decide +kernel)
theorem q_X8_calibration_4 : (.fieldLink RX8 27 "SpringBalanceModel" "places" "[I" : Cond) ∈ wsX8_calibration := List.mem_of_getElem? (i := 4) (by decide +kernel)
set_option maxRecDepth 20000 in
theorem in_X8_calibration_X8 : ∀ w ∈ u_ws RX8 TX8 14, w ∈ wsX8_calibration := by decide +kernel
theorem q_X8_calibration_5 : (.fieldLink RX8 7 "SpringBalanceModel" "d" "[I" : Cond) ∈ wsX8_calibration := List.mem_of_getElem? (i := 5) (by decide +kernel)
theorem q_X8_calibration_3 : (.constant RX8 96 (-2000000004) : Cond) ∈ wsX8_calibration := List.mem_of_getElem? (i := 3) (by decide +kernel)
theorem q_X8_calibration_2 : (.constant RX8 69 (-2000000002) : Cond) ∈ wsX8_calibration := List.mem_of_getElem? (i := 2) (by decide +kernel)
set_option maxHeartbeats 8000000 in
set_option maxRecDepth 100000 in
theorem k_X8_calibration (l : Launch) (D : va_G) (cI cC cJ cB : ClassId) (a_h a_h_d a_h_was a_h_accounts a_h_text a_h_aside a_h_places a_h_told : Nat) (v_account : Int64) (v_states : Int32) (v_refused : Int32) (v_typed : Int32) (v_at : Int32) (v_sign : Int32) (v_number : Int32) (v_d_A : Nat → Int32) (v_aside_A : Nat → Int32) (v_places_A : Nat → Int32) (v_told_A : Nat → Int32) (N : Nat) (p0 : Int32) (p1 : Int32) (sz : Nat) (u : Int32 × Int64 × (Nat → Int32) × (Nat → Int32) × (Nat → Int32) × (Nat → Int32)) (hu : f_X8_calibration N v_account v_d_A v_aside_A v_places_A v_told_A p0 p1 = some u) :
    Met l yX8_calibration wsX8_calibration ({ frames := 4, cells := 0, slots := 0, locals := 101 } : Room) (va_Pc [.ref a_h, .int p0, .int p1] (PreW D (ty4 cI cC cJ cB) sz [(a_h, .inr (8, [.ref a_h_d, .long v_account, .ref a_h_was, .ref a_h_accounts, .int v_states, .int v_refused, .ref a_h_text, .int v_typed, .int v_at, .int v_sign, .int v_number, .ref a_h_aside, .ref a_h_places, .ref a_h_told])), (a_h_d, .inl (cI, 2086, .inl v_d_A)), (a_h_aside, .inl (cI, 2086, .inl v_aside_A)), (a_h_places, .inl (cI, 12, .inl v_places_A)), (a_h_told, .inl (cI, 6, .inl v_told_A))]))
      (QI D (ty4 cI cC cJ cB) (va_A [(a_h, .inr (8, [.ref a_h_d, .long v_account, .ref a_h_was, .ref a_h_accounts, .int v_states, .int v_refused, .ref a_h_text, .int v_typed, .int v_at, .int v_sign, .int v_number, .ref a_h_aside, .ref a_h_places, .ref a_h_told])), (a_h_d, .inl (cI, 2086, .inl v_d_A)), (a_h_aside, .inl (cI, 2086, .inl v_aside_A)), (a_h_places, .inl (cI, 12, .inl v_places_A)), (a_h_told, .inl (cI, 6, .inl v_told_A))] sz) [(a_h, .inr (8, [.ref a_h_d, .long u.2.1, .ref a_h_was, .ref a_h_accounts, .int v_states, .int v_refused, .ref a_h_text, .int v_typed, .int v_at, .int v_sign, .int v_number, .ref a_h_aside, .ref a_h_places, .ref a_h_told])), (a_h_d, .inl (cI, 2086, .inl u.2.2.1)), (a_h_aside, .inl (cI, 2086, .inl u.2.2.2.1)), (a_h_places, .inl (cI, 12, .inl u.2.2.2.2.1)), (a_h_told, .inl (cI, 6, .inl u.2.2.2.2.2))] u.1) 0 0 (va_A [(a_h, .inr (8, [.ref a_h_d, .long v_account, .ref a_h_was, .ref a_h_accounts, .int v_states, .int v_refused, .ref a_h_text, .int v_typed, .int v_at, .int v_sign, .int v_number, .ref a_h_aside, .ref a_h_places, .ref a_h_told])), (a_h_d, .inl (cI, 2086, .inl v_d_A)), (a_h_aside, .inl (cI, 2086, .inl v_aside_A)), (a_h_places, .inl (cI, 12, .inl v_places_A)), (a_h_told, .inl (cI, 6, .inl v_told_A))] sz) := by
  refine met_go (y := yX8_calibration) (wsy := wsX8_calibration) (cc := cX8_calibration) (maxL := 7) (ret := (some .int)) (av := [.ref a_h, .int p0, .int p1]) (Qc := fun A => QI D (ty4 cI cC cJ cB) A [(a_h, .inr (8, [.ref a_h_d, .long u.2.1, .ref a_h_was, .ref a_h_accounts, .int v_states, .int v_refused, .ref a_h_text, .int v_typed, .int v_at, .int v_sign, .int v_number, .ref a_h_aside, .ref a_h_places, .ref a_h_told])), (a_h_d, .inl (cI, 2086, .inl u.2.2.1)), (a_h_aside, .inl (cI, 2086, .inl u.2.2.2.1)), (a_h_places, .inl (cI, 12, .inl u.2.2.2.2.1)), (a_h_told, .inl (cI, 6, .inl u.2.2.2.2.2))] u.1) (by decide) rfl (Nat.le_of_ble_eq_true rfl) ?_
  intro p e s m below meth c A ls hx hb hr hml hown hts hlocks hnm hN hK hP hD hS hA hl
  have h := hu
  clear hu
  unfold f_X8_calibration at h
  have hl : lv_has ls 7 [(0, .ref a_h), (1, .int p0), (2, .int p1)] := hl
  have B157 : ∀ (k : Nat) (x3 : Int32) (x4 : Int32) (x5 : Int32) (x6 : Int32) (m_account : Int64) (m_d_A : Nat → Int32) (m_aside_A : Nat → Int32) (m_places_A : Nat → Int32) (m_told_A : Nat → Int32) (H : Heap) (locs : List Loc) (ls : Array Slot), f_X8_calibration_b157 N p0 p1 x3 x4 m_account m_d_A m_aside_A m_places_A m_told_A k x5 x6 = some u → va_P D vwCl [(a_h, .inr (8, [.ref a_h_d, .long m_account, .ref a_h_was, .ref a_h_accounts, .int v_states, .int v_refused, .ref a_h_text, .int v_typed, .int v_at, .int v_sign, .int v_number, .ref a_h_aside, .ref a_h_places, .ref a_h_told])), (a_h_d, .inl (cI, 2086, .inl m_d_A)), (a_h_aside, .inl (cI, 2086, .inl m_aside_A)), (a_h_places, .inl (cI, 12, .inl m_places_A)), (a_h_told, .inl (cI, 6, .inl m_told_A))] H → va_D A [(a_h, .inr (8, [.ref a_h_d, .long m_account, .ref a_h_was, .ref a_h_accounts, .int v_states, .int v_refused, .ref a_h_text, .int v_typed, .int v_at, .int v_sign, .int v_number, .ref a_h_aside, .ref a_h_places, .ref a_h_told])), (a_h_d, .inl (cI, 2086, .inl m_d_A)), (a_h_aside, .inl (cI, 2086, .inl m_aside_A)), (a_h_places, .inl (cI, 12, .inl m_places_A)), (a_h_told, .inl (cI, 6, .inl m_told_A))] → va_S A s.heap H locs → lv_has ls 7 [(0, .ref a_h), (1, .int p0), (2, .int p1), (3, .int x3), (4, .int x4), (5, .int x5), (6, .int x6)] → W p l e ({ frames := 4, cells := 0, slots := 0, locals := 101 } : Room) s m ([.ref a_h, .int p0, .int p1] : List Value).toArray below meth c H locs 0 0 (MQ below (QI D (ty4 cI cC cJ cB) A [(a_h, .inr (8, [.ref a_h_d, .long u.2.1, .ref a_h_was, .ref a_h_accounts, .int v_states, .int v_refused, .ref a_h_text, .int v_typed, .int v_at, .int v_sign, .int v_number, .ref a_h_aside, .ref a_h_places, .ref a_h_told])), (a_h_d, .inl (cI, 2086, .inl u.2.2.1)), (a_h_aside, .inl (cI, 2086, .inl u.2.2.2.1)), (a_h_places, .inl (cI, 12, .inl u.2.2.2.2.1)), (a_h_told, .inl (cI, 6, .inl u.2.2.2.2.2))] u.1) ([.ref a_h, .int p0, .int p1] : List Value).toArray s 0 0 A) (F0 m 157 ls []) := by
    intro k
    induction k with
    | zero =>
      intro x3 x4 x5 x6 m_account m_d_A m_aside_A m_places_A m_told_A H locs ls h
      exact nomatch (show (none : Option (Int32 × Int64 × (Nat → Int32) × (Nat → Int32) × (Nat → Int32) × (Nat → Int32))) = some u from h)
    | succ k ih =>
      intro x3 x4 x5 x6 m_account m_d_A m_aside_A m_places_A m_told_A H locs ls h hP hD hS hl
      rw [f_X8_calibration_b157.eq_2] at h
      refine lv_iload hx hb dX8_calibration_157 (lv_at hl 6 rfl) ?_
      refine lv_aload_n hx hb dX8_calibration_159 rfl (lv_at hl 0 rfl) ?_
      refine va_get (D := D) (ci := 8) (v := .ref a_h_d) (C := RX8) (T := TX8) (N := 14) hx hb hts in_X8_calibration_X8 hown hK hP 0 rfl rfl 0 (by decide) (hts _ q_X8_calibration_5) (fun _ h9 => h9) rfl dX8_calibration_160 ?_
      refine lv_bipush (v := (41 : Int32)) hx hb dX8_calibration_163 (by decide) ?_
      refine wx_iald hx hb hK hP 1 0 rfl rfl 41 (by decide) (by unfold vp_in; decide) dX8_calibration_165 ?_
      refine lv_icmp_ge (tgt := 202) hx hb dX8_calibration_166 (by decide) (fun hc13 => ?_) (fun hc13 => ?_)
      · replace h := it_e hc13 h
        refine lv_iload_n hx hb dX8_calibration_202 rfl (lv_at hl 2 rfl) ?_
        refine lv_bipush (v := (12 : Int32)) hx hb dX8_calibration_203 (by decide) ?_
        refine lv_icmp_ne (tgt := 213) hx hb dX8_calibration_205 (by decide) (fun hc14 => ?_) (fun hc14 => ?_)
        · replace h := it_e hc14 h
          refine lv_iload_n hx hb dX8_calibration_213 rfl (lv_at hl 2 rfl) ?_
          refine lv_bipush (v := (13 : Int32)) hx hb dX8_calibration_214 (by decide) ?_
          refine lv_icmp_ne (tgt := 224) hx hb dX8_calibration_216 (by decide) (fun hc15 => ?_) (fun hc15 => ?_)
          · replace h := it_e hc15 h
            refine lv_aload_n hx hb dX8_calibration_224 rfl (lv_at hl 0 rfl) ?_
            refine lv_iload_n hx hb dX8_calibration_225 rfl (lv_at hl 3 rfl) ?_
            obtain ⟨u16, hu16, h⟩ := bd_e h
            refine kx_i (mc := 0) (ms := 0) (wr := [(a_h_d, .inl (cI, 2086, .inl m_d_A)), (a_h_aside, .inl (cI, 2086, .inl m_aside_A))]) (ws2 := [(a_h, .inr (8, [.ref a_h_d, .long m_account, .ref a_h_was, .ref a_h_accounts, .int v_states, .int v_refused, .ref a_h_text, .int v_typed, .int v_at, .int v_sign, .int v_number, .ref a_h_aside, .ref a_h_places, .ref a_h_told])), (a_h_d, .inl (cI, 2086, .inl m_d_A)), (a_h_aside, .inl (cI, 2086, .inl m_aside_A)), (a_h_places, .inl (cI, 12, .inl m_places_A)), (a_h_told, .inl (cI, 6, .inl m_told_A))]) (va_runV (As := [.int x3]) (rest := []) ⟨hx, hb, hml, hown, hts⟩ (k_X8_isScale l D cI cC cJ cB a_h a_h_d a_h_was a_h_accounts a_h_text a_h_aside a_h_places a_h_told m_account v_states v_refused v_typed v_at v_sign v_number m_places_A m_told_A N x3 H.size _ hu16) (cwV 1 hts gX8_calibration_X8_isScale rfl rfl rfl (by decide +kernel) ⟨Nat.le_of_ble_eq_true rfl, Nat.le_of_ble_eq_true rfl⟩) (pv_V hP hD hK hN [0, 3, 4] rfl rfl (ci := 8) rfl 0 rfl) rfl rfl hl.1 rfl (lv_room (Nat.le_of_ble_eq_true rfl)) dX8_calibration_226 ⟨Nat.zero_le _, Nat.zero_le _⟩) hP hD hS hA [0, 3, 4] [1, 2] [2, 0, 1, 3, 4] rfl rfl rfl rfl rfl rfl (fun H locs hP hD hS => ?_)
            refine lv_if_eq (tgt := 236) hx hb dX8_calibration_229 (by decide) (fun hc17 => ?_) (fun hc17 => ?_)
            · replace h := it_e hc17 h
              refine lv_iconst (v := (0 : Int32)) hx hb dX8_calibration_236 (by decide) ?_
              obtain rfl := sm_e h
              exact rx_i hx hb hr  hP hK hD hS dX8_calibration_237 hlocks
            · replace h := if_e hc17 h
              refine lv_iconst (v := (1 : Int32)) hx hb dX8_calibration_232 (by decide) ?_
              refine lv_goto (tgt := 237) hx hb dX8_calibration_233 (by decide) ?_
              obtain rfl := sm_e h
              exact rx_i hx hb hr  hP hK hD hS dX8_calibration_237 hlocks
          · replace h := in_e hc15 h
            refine lv_iload hx hb dX8_calibration_219 (lv_at hl 5 rfl) ?_
            refine lv_goto (tgt := 237) hx hb dX8_calibration_221 (by decide) ?_
            obtain rfl := sm_e h
            exact rx_i hx hb hr  hP hK hD hS dX8_calibration_237 hlocks
        · replace h := in_e hc14 h
          refine lv_iload hx hb dX8_calibration_208 (lv_at hl 4 rfl) ?_
          refine lv_goto (tgt := 237) hx hb dX8_calibration_210 (by decide) ?_
          obtain rfl := sm_e h
          exact rx_i hx hb hr  hP hK hD hS dX8_calibration_237 hlocks
      · replace h := if_e hc13 h
        refine lv_iload hx hb dX8_calibration_169 (lv_at hl 5 rfl) ?_
        refine lv_iload_n hx hb dX8_calibration_171 rfl (lv_at hl 1 rfl) ?_
        refine lv_iload hx hb dX8_calibration_172 (lv_at hl 6 rfl) ?_
        refine lv_ishr hx hb dX8_calibration_174 ?_
        refine lv_iconst (v := (1 : Int32)) hx hb dX8_calibration_175 (by decide) ?_
        refine lv_iand hx hb dX8_calibration_176 ?_
        refine lv_iconst (v := (1 : Int32)) hx hb dX8_calibration_177 (by decide) ?_
        refine lv_icmp_ne (tgt := 192) hx hb dX8_calibration_178 (by decide) (fun hc18 => ?_) (fun hc18 => ?_)
        · replace h := it_e hc18 h
          refine lv_iconst (v := (0 : Int32)) hx hb dX8_calibration_192 (by decide) ?_
          refine lv_iadd hx hb dX8_calibration_193 ?_
          refine lv_topi (fun t19 et19 => ?_)
          replace h := nm_at h et19
          refine lv_istore (lv' := [(5, .int t19), (0, .ref a_h), (1, .int p0), (2, .int p1), (3, .int x3), (4, .int x4), (6, .int x6)]) hx hb dX8_calibration_194 hl (by decide) rfl (fun ls hl => ?_)
          obtain ⟨t20, et20, h⟩ := nm_x h
          refine lv_iinc (v := t20) (lv' := [(6, .int t20), (5, .int t19), (0, .ref a_h), (1, .int p0), (2, .int p1), (3, .int x3), (4, .int x4)]) hx hb dX8_calibration_196 hl (k := 6) rfl (by rw [et20]; rfl) (by decide) rfl (fun ls hl => ?_)
          refine lv_goto (tgt := 157) hx hb dX8_calibration_199 (by decide) ?_
          exact ih x3 x4 t19 t20 m_account m_d_A m_aside_A m_places_A m_told_A _ _ _ h hP hD hS (lv_sub hl [2, 3, 4, 5, 6, 1, 0] rfl)
        · replace h := in_e hc18 h
          refine lv_aload_n hx hb dX8_calibration_181 rfl (lv_at hl 0 rfl) ?_
          refine lv_iload hx hb dX8_calibration_182 (lv_at hl 6 rfl) ?_
          refine lv_bipush (v := (58 : Int32)) hx hb dX8_calibration_184 (by decide) ?_
          obtain ⟨u21, hu21, h⟩ := bd_e h
          refine kx_i (mc := 0) (ms := 0) (wr := [(a_h_aside, .inl (cI, 2086, .inl m_aside_A)), (a_h_places, .inl (cI, 12, .inl m_places_A)), (a_h_told, .inl (cI, 6, .inl m_told_A))]) (ws2 := [(a_h, .inr (8, [.ref a_h_d, .long m_account, .ref a_h_was, .ref a_h_accounts, .int v_states, .int v_refused, .ref a_h_text, .int v_typed, .int v_at, .int v_sign, .int v_number, .ref a_h_aside, .ref a_h_places, .ref a_h_told])), (a_h_d, .inl (cI, 2086, .inl m_d_A)), (a_h_aside, .inl (cI, 2086, .inl m_aside_A)), (a_h_places, .inl (cI, 12, .inl m_places_A)), (a_h_told, .inl (cI, 6, .inl m_told_A))]) (va_runV (As := [.int x6, .int (58 : Int32)]) (rest := [.int x5]) ⟨hx, hb, hml, hown, hts⟩ (k_X8_chained l D cI cC cJ cB a_h a_h_d a_h_was a_h_accounts a_h_text a_h_aside a_h_places a_h_told m_account v_states v_refused v_typed v_at v_sign v_number m_d_A N x6 (58 : Int32) H.size _ hu21) (cwV 2 hts gX8_calibration_X8_chained rfl rfl rfl (by decide +kernel) ⟨Nat.le_of_ble_eq_true rfl, Nat.le_of_ble_eq_true rfl⟩) (pv_V hP hD hK hN [0, 1] rfl rfl (ci := 8) rfl 0 rfl) rfl rfl hl.1 rfl (lv_room (Nat.le_of_ble_eq_true rfl)) dX8_calibration_186 ⟨Nat.zero_le _, Nat.zero_le _⟩) hP hD hS hA [0, 1] [2, 3, 4] [3, 4, 0, 1, 2] rfl rfl rfl rfl rfl rfl (fun H locs hP hD hS => ?_)
          refine lv_goto (tgt := 193) hx hb dX8_calibration_189 (by decide) ?_
          refine lv_iadd hx hb dX8_calibration_193 ?_
          refine lv_topi (fun t22 et22 => ?_)
          replace h := nm_at h et22
          refine lv_istore (lv' := [(5, .int t22), (0, .ref a_h), (1, .int p0), (2, .int p1), (3, .int x3), (4, .int x4), (6, .int x6)]) hx hb dX8_calibration_194 hl (by decide) rfl (fun ls hl => ?_)
          obtain ⟨t23, et23, h⟩ := nm_x h
          refine lv_iinc (v := t23) (lv' := [(6, .int t23), (5, .int t22), (0, .ref a_h), (1, .int p0), (2, .int p1), (3, .int x3), (4, .int x4)]) hx hb dX8_calibration_196 hl (k := 6) rfl (by rw [et23]; rfl) (by decide) rfl (fun ls hl => ?_)
          refine lv_goto (tgt := 157) hx hb dX8_calibration_199 (by decide) ?_
          exact ih x3 x4 t22 t23 m_account m_d_A m_aside_A m_places_A m_told_A _ _ _ h hP hD hS (lv_sub hl [2, 3, 4, 5, 6, 1, 0] rfl)
  have B91 : ∀ (k : Nat) (x3 : Int32) (x4 : Int32) (x5 : Int32) (m_account : Int64) (m_d_A : Nat → Int32) (m_aside_A : Nat → Int32) (m_places_A : Nat → Int32) (m_told_A : Nat → Int32) (H : Heap) (locs : List Loc) (ls : Array Slot), f_X8_calibration_b91 N p0 p1 x3 m_account m_d_A m_aside_A m_places_A m_told_A k x4 x5 = some u → va_P D vwCl [(a_h, .inr (8, [.ref a_h_d, .long m_account, .ref a_h_was, .ref a_h_accounts, .int v_states, .int v_refused, .ref a_h_text, .int v_typed, .int v_at, .int v_sign, .int v_number, .ref a_h_aside, .ref a_h_places, .ref a_h_told])), (a_h_d, .inl (cI, 2086, .inl m_d_A)), (a_h_aside, .inl (cI, 2086, .inl m_aside_A)), (a_h_places, .inl (cI, 12, .inl m_places_A)), (a_h_told, .inl (cI, 6, .inl m_told_A))] H → va_D A [(a_h, .inr (8, [.ref a_h_d, .long m_account, .ref a_h_was, .ref a_h_accounts, .int v_states, .int v_refused, .ref a_h_text, .int v_typed, .int v_at, .int v_sign, .int v_number, .ref a_h_aside, .ref a_h_places, .ref a_h_told])), (a_h_d, .inl (cI, 2086, .inl m_d_A)), (a_h_aside, .inl (cI, 2086, .inl m_aside_A)), (a_h_places, .inl (cI, 12, .inl m_places_A)), (a_h_told, .inl (cI, 6, .inl m_told_A))] → va_S A s.heap H locs → lv_has ls 7 [(0, .ref a_h), (1, .int p0), (2, .int p1), (3, .int x3), (4, .int x4), (5, .int x5)] → W p l e ({ frames := 4, cells := 0, slots := 0, locals := 101 } : Room) s m ([.ref a_h, .int p0, .int p1] : List Value).toArray below meth c H locs 0 0 (MQ below (QI D (ty4 cI cC cJ cB) A [(a_h, .inr (8, [.ref a_h_d, .long u.2.1, .ref a_h_was, .ref a_h_accounts, .int v_states, .int v_refused, .ref a_h_text, .int v_typed, .int v_at, .int v_sign, .int v_number, .ref a_h_aside, .ref a_h_places, .ref a_h_told])), (a_h_d, .inl (cI, 2086, .inl u.2.2.1)), (a_h_aside, .inl (cI, 2086, .inl u.2.2.2.1)), (a_h_places, .inl (cI, 12, .inl u.2.2.2.2.1)), (a_h_told, .inl (cI, 6, .inl u.2.2.2.2.2))] u.1) ([.ref a_h, .int p0, .int p1] : List Value).toArray s 0 0 A) (F0 m 91 ls []) := by
    intro k
    induction k with
    | zero =>
      intro x3 x4 x5 m_account m_d_A m_aside_A m_places_A m_told_A H locs ls h
      exact nomatch (show (none : Option (Int32 × Int64 × (Nat → Int32) × (Nat → Int32) × (Nat → Int32) × (Nat → Int32))) = some u from h)
    | succ k ih =>
      intro x3 x4 x5 m_account m_d_A m_aside_A m_places_A m_told_A H locs ls h hP hD hS hl
      rw [f_X8_calibration_b91.eq_2] at h
      refine lv_iload hx hb dX8_calibration_91 (lv_at hl 5 rfl) ?_
      refine lv_iload_n hx hb dX8_calibration_93 rfl (lv_at hl 3 rfl) ?_
      refine lv_icmp_gt (tgt := 151) hx hb dX8_calibration_94 (by decide) (fun hc12 => ?_) (fun hc12 => ?_)
      · replace h := it_e hc12 h
        refine lv_iconst (v := (0 : Int32)) hx hb dX8_calibration_151 (by decide) ?_
        refine lv_istore (lv' := [(5, .int (0 : Int32)), (0, .ref a_h), (1, .int p0), (2, .int p1), (3, .int x3), (4, .int x4)]) hx hb dX8_calibration_152 hl (by decide) rfl (fun ls hl => ?_)
        refine lv_iconst (v := (0 : Int32)) hx hb dX8_calibration_154 (by decide) ?_
        refine lv_istore (lv' := [(6, .int (0 : Int32)), (5, .int (0 : Int32)), (0, .ref a_h), (1, .int p0), (2, .int p1), (3, .int x3), (4, .int x4)]) hx hb dX8_calibration_155 hl (by decide) rfl (fun ls hl => ?_)
        exact B157 N x3 x4 (0 : Int32) (0 : Int32) m_account m_d_A m_aside_A m_places_A m_told_A _ _ _ h hP hD hS (lv_sub hl [2, 3, 4, 5, 6, 1, 0] rfl)
      · replace h := if_e hc12 h
        refine lv_aload_n hx hb dX8_calibration_97 rfl (lv_at hl 0 rfl) ?_
        refine va_get (D := D) (ci := 8) (v := .ref a_h_places) (C := RX8) (T := TX8) (N := 14) hx hb hts in_X8_calibration_X8 hown hK hP 0 rfl rfl 12 (by decide) (hts _ q_X8_calibration_4) (fun _ h9 => h9) rfl dX8_calibration_98 ?_
        refine lv_bipush (v := (6 : Int32)) hx hb dX8_calibration_101 (by decide) ?_
        refine lv_iload hx hb dX8_calibration_103 (lv_at hl 5 rfl) ?_
        refine lv_iadd hx hb dX8_calibration_105 ?_
        obtain ⟨hi24, h⟩ := gA_e h
        refine wx_iald hx hb hK hP 3 0 rfl rfl (Int32.toNatClampNeg ((6 : Int32) + x5)) rfl hi24 dX8_calibration_106 ?_
        refine lv_aload_n hx hb dX8_calibration_107 rfl (lv_at hl 0 rfl) ?_
        refine va_get (D := D) (ci := 8) (v := .ref a_h_places) (C := RX8) (T := TX8) (N := 14) hx hb hts in_X8_calibration_X8 hown hK hP 0 rfl rfl 12 (by decide) (hts _ q_X8_calibration_4) (fun _ h9 => h9) rfl dX8_calibration_108 ?_
        refine lv_iload hx hb dX8_calibration_111 (lv_at hl 5 rfl) ?_
        obtain ⟨hi25, h⟩ := gA_e h
        refine wx_iald hx hb hK hP 3 0 rfl rfl (Int32.toNatClampNeg x5) rfl hi25 dX8_calibration_113 ?_
        refine lv_isub hx hb dX8_calibration_114 ?_
        refine lv_iload hx hb dX8_calibration_115 (lv_at hl 4 rfl) ?_
        refine lv_icmp_le (tgt := 141) hx hb dX8_calibration_117 (by decide) (fun hc26 => ?_) (fun hc26 => ?_)
        · replace h := it_e hc26 h
          refine lv_iload hx hb dX8_calibration_141 (lv_at hl 4 rfl) ?_
          refine lv_istore (lv' := [(4, .int x4), (0, .ref a_h), (1, .int p0), (2, .int p1), (3, .int x3), (5, .int x5)]) hx hb dX8_calibration_143 hl (by decide) rfl (fun ls hl => ?_)
          obtain ⟨t27, et27, h⟩ := nm_x h
          refine lv_iinc (v := t27) (lv' := [(5, .int t27), (4, .int x4), (0, .ref a_h), (1, .int p0), (2, .int p1), (3, .int x3)]) hx hb dX8_calibration_145 hl (k := 5) rfl (by rw [et27]; rfl) (by decide) rfl (fun ls hl => ?_)
          refine lv_goto (tgt := 91) hx hb dX8_calibration_148 (by decide) ?_
          exact ih x3 x4 t27 m_account m_d_A m_aside_A m_places_A m_told_A _ _ _ h hP hD hS (lv_sub hl [2, 3, 4, 5, 1, 0] rfl)
        · replace h := if_e hc26 h
          refine lv_aload_n hx hb dX8_calibration_120 rfl (lv_at hl 0 rfl) ?_
          refine va_get (D := D) (ci := 8) (v := .ref a_h_places) (C := RX8) (T := TX8) (N := 14) hx hb hts in_X8_calibration_X8 hown hK hP 0 rfl rfl 12 (by decide) (hts _ q_X8_calibration_4) (fun _ h9 => h9) rfl dX8_calibration_121 ?_
          refine lv_bipush (v := (6 : Int32)) hx hb dX8_calibration_124 (by decide) ?_
          refine lv_iload hx hb dX8_calibration_126 (lv_at hl 5 rfl) ?_
          refine lv_iadd hx hb dX8_calibration_128 ?_
          obtain ⟨hi28, h⟩ := gA_e h
          refine wx_iald hx hb hK hP 3 0 rfl rfl (Int32.toNatClampNeg ((6 : Int32) + x5)) rfl hi28 dX8_calibration_129 ?_
          refine lv_aload_n hx hb dX8_calibration_130 rfl (lv_at hl 0 rfl) ?_
          refine va_get (D := D) (ci := 8) (v := .ref a_h_places) (C := RX8) (T := TX8) (N := 14) hx hb hts in_X8_calibration_X8 hown hK hP 0 rfl rfl 12 (by decide) (hts _ q_X8_calibration_4) (fun _ h9 => h9) rfl dX8_calibration_131 ?_
          refine lv_iload hx hb dX8_calibration_134 (lv_at hl 5 rfl) ?_
          obtain ⟨hi29, h⟩ := gA_e h
          refine wx_iald hx hb hK hP 3 0 rfl rfl (Int32.toNatClampNeg x5) rfl hi29 dX8_calibration_136 ?_
          refine lv_isub hx hb dX8_calibration_137 ?_
          refine lv_goto (tgt := 143) hx hb dX8_calibration_138 (by decide) ?_
          refine lv_topi (fun t30 et30 => ?_)
          replace h := nm_at h et30
          refine lv_istore (lv' := [(4, .int t30), (0, .ref a_h), (1, .int p0), (2, .int p1), (3, .int x3), (5, .int x5)]) hx hb dX8_calibration_143 hl (by decide) rfl (fun ls hl => ?_)
          obtain ⟨t31, et31, h⟩ := nm_x h
          refine lv_iinc (v := t31) (lv' := [(5, .int t31), (4, .int t30), (0, .ref a_h), (1, .int p0), (2, .int p1), (3, .int x3)]) hx hb dX8_calibration_145 hl (k := 5) rfl (by rw [et31]; rfl) (by decide) rfl (fun ls hl => ?_)
          refine lv_goto (tgt := 91) hx hb dX8_calibration_148 (by decide) ?_
          exact ih x3 t30 t31 m_account m_d_A m_aside_A m_places_A m_told_A _ _ _ h hP hD hS (lv_sub hl [2, 3, 4, 5, 1, 0] rfl)
  refine lv_aload_n hx hb dX8_calibration_0 rfl (lv_at hl 0 rfl) ?_
  refine lv_iload_n hx hb dX8_calibration_1 rfl (lv_at hl 1 rfl) ?_
  obtain ⟨u1, hu1, h⟩ := bd_e h
  refine kx_i (mc := 0) (ms := 0) (wr := [(a_h_aside, .inl (cI, 2086, .inl v_aside_A)), (a_h_places, .inl (cI, 12, .inl v_places_A)), (a_h_told, .inl (cI, 6, .inl v_told_A))]) (ws2 := [(a_h, .inr (8, [.ref a_h_d, .long v_account, .ref a_h_was, .ref a_h_accounts, .int v_states, .int v_refused, .ref a_h_text, .int v_typed, .int v_at, .int v_sign, .int v_number, .ref a_h_aside, .ref a_h_places, .ref a_h_told])), (a_h_d, .inl (cI, 2086, .inl v_d_A)), (a_h_aside, .inl (cI, 2086, .inl v_aside_A)), (a_h_places, .inl (cI, 12, .inl v_places_A)), (a_h_told, .inl (cI, 6, .inl v_told_A))]) (va_runV (As := [.int p0]) (rest := []) ⟨hx, hb, hml, hown, hts⟩ (k_X8_isSet l D cI cC cJ cB a_h a_h_d a_h_was a_h_accounts a_h_text a_h_aside a_h_places a_h_told v_account v_states v_refused v_typed v_at v_sign v_number v_d_A N p0 s.heap.size _ hu1) (cwV 1 hts gX8_calibration_X8_isSet rfl rfl rfl (by decide +kernel) ⟨Nat.le_of_ble_eq_true rfl, Nat.le_of_ble_eq_true rfl⟩) (pv_V hP hD hK hN [0, 1] rfl rfl (ci := 8) rfl 0 rfl) rfl rfl hl.1 rfl (lv_room (Nat.le_of_ble_eq_true rfl)) dX8_calibration_2 ⟨Nat.zero_le _, Nat.zero_le _⟩) hP hD hS hA [0, 1] [2, 3, 4] [3, 4, 0, 1, 2] rfl rfl rfl rfl rfl rfl (fun H locs hP hD hS => ?_)
  refine lv_if_eq (tgt := 18) hx hb dX8_calibration_5 (by decide) (fun hc2 => ?_) (fun hc2 => ?_)
  · replace h := it_e hc2 h
    refine lv_ldc (v := (-2000000001 : Int32)) hx hb hown (hts _ q_X8_calibration_1) dX8_calibration_18 ?_
    obtain rfl := sm_e h
    exact rx_i hx hb hr  hP hK hD hS dX8_calibration_20 hlocks
  · replace h := if_e hc2 h
    refine lv_iload_n hx hb dX8_calibration_8 rfl (lv_at hl 2 rfl) ?_
    refine lv_iconst (v := (0 : Int32)) hx hb dX8_calibration_9 (by decide) ?_
    refine lv_bipush (v := (14 : Int32)) hx hb dX8_calibration_10 (by decide) ?_
    obtain ⟨u3, hu3, h⟩ := bd_e h
    refine kx_i (mc := 0) (ms := 0) (wr := [(a_h, .inr (8, [.ref a_h_d, .long v_account, .ref a_h_was, .ref a_h_accounts, .int v_states, .int v_refused, .ref a_h_text, .int v_typed, .int v_at, .int v_sign, .int v_number, .ref a_h_aside, .ref a_h_places, .ref a_h_told])), (a_h_d, .inl (cI, 2086, .inl v_d_A)), (a_h_aside, .inl (cI, 2086, .inl v_aside_A)), (a_h_places, .inl (cI, 12, .inl v_places_A)), (a_h_told, .inl (cI, 6, .inl v_told_A))]) (ws2 := [(a_h, .inr (8, [.ref a_h_d, .long v_account, .ref a_h_was, .ref a_h_accounts, .int v_states, .int v_refused, .ref a_h_text, .int v_typed, .int v_at, .int v_sign, .int v_number, .ref a_h_aside, .ref a_h_places, .ref a_h_told])), (a_h_d, .inl (cI, 2086, .inl v_d_A)), (a_h_aside, .inl (cI, 2086, .inl v_aside_A)), (a_h_places, .inl (cI, 12, .inl v_places_A)), (a_h_told, .inl (cI, 6, .inl v_told_A))]) (va_runS (As := [.int p1, .int (0 : Int32), .int (14 : Int32)]) (rest := []) ⟨hx, hb, hml, hown, hts⟩ (k_X8_in l D cI cC cJ cB N p1 (0 : Int32) (14 : Int32) H.size _ hu3) (va_cwS 3 hts gX8_calibration_X8_in rfl rfl rfl (by decide +kernel) ⟨Nat.le_of_ble_eq_true rfl, Nat.le_of_ble_eq_true rfl⟩) (pv_S hP hD hK hN [] rfl rfl) rfl rfl hl.1 rfl (lv_room (Nat.le_of_ble_eq_true rfl)) dX8_calibration_12 ⟨Nat.zero_le _, Nat.zero_le _⟩) hP hD hS hA [] [0, 1, 2, 3, 4] [0, 1, 2, 3, 4] rfl rfl rfl rfl rfl rfl (fun H locs hP hD hS => ?_)
    refine lv_if_ne (tgt := 21) hx hb dX8_calibration_15 (by decide) (fun hc4 => ?_) (fun hc4 => ?_)
    · replace h := it_e hc4 h
      refine lv_aload_n hx hb dX8_calibration_21 rfl (lv_at hl 0 rfl) ?_
      refine lv_iload_n hx hb dX8_calibration_22 rfl (lv_at hl 1 rfl) ?_
      obtain ⟨u5, hu5, h⟩ := bd_e h
      refine kx_i (mc := 0) (ms := 0) (wr := [(a_h_aside, .inl (cI, 2086, .inl v_aside_A)), (a_h_places, .inl (cI, 12, .inl v_places_A)), (a_h_told, .inl (cI, 6, .inl v_told_A))]) (ws2 := [(a_h, .inr (8, [.ref a_h_d, .long v_account, .ref a_h_was, .ref a_h_accounts, .int v_states, .int v_refused, .ref a_h_text, .int v_typed, .int v_at, .int v_sign, .int v_number, .ref a_h_aside, .ref a_h_places, .ref a_h_told])), (a_h_d, .inl (cI, 2086, .inl v_d_A)), (a_h_aside, .inl (cI, 2086, .inl v_aside_A)), (a_h_places, .inl (cI, 12, .inl v_places_A)), (a_h_told, .inl (cI, 6, .inl v_told_A))]) (va_runV (As := [.int p0]) (rest := []) ⟨hx, hb, hml, hown, hts⟩ (k_X8_isCalibrating l D cI cC cJ cB a_h a_h_d a_h_was a_h_accounts a_h_text a_h_aside a_h_places a_h_told v_account v_states v_refused v_typed v_at v_sign v_number v_d_A N p0 H.size _ hu5) (cwV 1 hts gX8_calibration_X8_isCalibrating rfl rfl rfl (by decide +kernel) ⟨Nat.le_of_ble_eq_true rfl, Nat.le_of_ble_eq_true rfl⟩) (pv_V hP hD hK hN [0, 1] rfl rfl (ci := 8) rfl 0 rfl) rfl rfl hl.1 rfl (lv_room (Nat.le_of_ble_eq_true rfl)) dX8_calibration_23 ⟨Nat.zero_le _, Nat.zero_le _⟩) hP hD hS hA [0, 1] [2, 3, 4] [3, 4, 0, 1, 2] rfl rfl rfl rfl rfl rfl (fun H locs hP hD hS => ?_)
      refine lv_if_ne (tgt := 32) hx hb dX8_calibration_26 (by decide) (fun hc6 => ?_) (fun hc6 => ?_)
      · replace h := it_e hc6 h
        refine lv_iload_n hx hb dX8_calibration_32 rfl (lv_at hl 1 rfl) ?_
        obtain ⟨u7, hu7, h⟩ := bd_e h
        refine kx_i (mc := 0) (ms := 0) (wr := [(a_h, .inr (8, [.ref a_h_d, .long v_account, .ref a_h_was, .ref a_h_accounts, .int v_states, .int v_refused, .ref a_h_text, .int v_typed, .int v_at, .int v_sign, .int v_number, .ref a_h_aside, .ref a_h_places, .ref a_h_told])), (a_h_d, .inl (cI, 2086, .inl v_d_A)), (a_h_aside, .inl (cI, 2086, .inl v_aside_A)), (a_h_places, .inl (cI, 12, .inl v_places_A)), (a_h_told, .inl (cI, 6, .inl v_told_A))]) (ws2 := [(a_h, .inr (8, [.ref a_h_d, .long v_account, .ref a_h_was, .ref a_h_accounts, .int v_states, .int v_refused, .ref a_h_text, .int v_typed, .int v_at, .int v_sign, .int v_number, .ref a_h_aside, .ref a_h_places, .ref a_h_told])), (a_h_d, .inl (cI, 2086, .inl v_d_A)), (a_h_aside, .inl (cI, 2086, .inl v_aside_A)), (a_h_places, .inl (cI, 12, .inl v_places_A)), (a_h_told, .inl (cI, 6, .inl v_told_A))]) (va_runS (As := [.int p0]) (rest := []) ⟨hx, hb, hml, hown, hts⟩ (k_X8_ones l D cI cC cJ cB N p0 H.size _ hu7) (va_cwS 1 hts gX8_calibration_X8_ones rfl rfl rfl (by decide +kernel) ⟨Nat.le_of_ble_eq_true rfl, Nat.le_of_ble_eq_true rfl⟩) (pv_S hP hD hK hN [] rfl rfl) rfl rfl hl.1 rfl (lv_room (Nat.le_of_ble_eq_true rfl)) dX8_calibration_33 ⟨Nat.zero_le _, Nat.zero_le _⟩) hP hD hS hA [] [0, 1, 2, 3, 4] [0, 1, 2, 3, 4] rfl rfl rfl rfl rfl rfl (fun H locs hP hD hS => ?_)
        refine lv_istore_n (lv' := [(3, .int u7), (0, .ref a_h), (1, .int p0), (2, .int p1)]) hx hb dX8_calibration_36 rfl hl (by decide) rfl (fun ls hl => ?_)
        refine lv_iload_n hx hb dX8_calibration_37 rfl (lv_at hl 3 rfl) ?_
        refine lv_bipush (v := (12 : Int32)) hx hb dX8_calibration_38 (by decide) ?_
        refine lv_icmp_ge (tgt := 54) hx hb dX8_calibration_40 (by decide) (fun hc8 => ?_) (fun hc8 => ?_)
        · replace h := it_e hc8 h
          refine lv_aload_n hx hb dX8_calibration_54 rfl (lv_at hl 1 rfl) ?_
          refine lv_iload_n hx hb dX8_calibration_55 rfl (lv_at hl 2 rfl) ?_
          obtain ⟨u9, hu9, h⟩ := bd_e h
          refine kx_v (mc := 0) (ms := 0) (wr := []) (ws2 := [(a_h, .inr (8, [.ref a_h_d, .long u9.1, .ref a_h_was, .ref a_h_accounts, .int v_states, .int v_refused, .ref a_h_text, .int v_typed, .int v_at, .int v_sign, .int v_number, .ref a_h_aside, .ref a_h_places, .ref a_h_told])), (a_h_d, .inl (cI, 2086, .inl u9.2.1)), (a_h_aside, .inl (cI, 2086, .inl u9.2.2.1)), (a_h_places, .inl (cI, 12, .inl u9.2.2.2.1)), (a_h_told, .inl (cI, 6, .inl u9.2.2.2.2))]) (va_runV (As := [.int p0]) (rest := []) ⟨hx, hb, hml, hown, hts⟩ (k_X8_calibrates l D cI cC cJ cB a_h a_h_d a_h_was a_h_accounts a_h_text a_h_aside a_h_places a_h_told v_account v_states v_refused v_typed v_at v_sign v_number v_d_A v_aside_A v_places_A v_told_A N p0 H.size _ hu9) (cwV 1 hts gX8_calibration_X8_calibrates rfl rfl rfl (by decide +kernel) ⟨Nat.le_of_ble_eq_true rfl, Nat.le_of_ble_eq_true rfl⟩) (pv_V hP hD hK hN [0, 1, 2, 3, 4] rfl rfl (ci := 8) rfl 0 rfl) rfl rfl hl.1 rfl (lv_room (Nat.le_of_ble_eq_true rfl)) dX8_calibration_56 ⟨Nat.zero_le _, Nat.zero_le _⟩) hP hD hS hA [0, 1, 2, 3, 4] [] [0, 1, 2, 3, 4] rfl rfl rfl rfl rfl rfl (fun H locs hP hD hS => ?_)
          refine lv_iload_n hx hb dX8_calibration_59 rfl (lv_at hl 3 rfl) ?_
          refine lv_bipush (v := (12 : Int32)) hx hb dX8_calibration_60 (by decide) ?_
          refine lv_icmp_ge (tgt := 72) hx hb dX8_calibration_62 (by decide) (fun hc10 => ?_) (fun hc10 => ?_)
          · replace h := it_e hc10 h
            refine lv_aload_n hx hb dX8_calibration_72 rfl (lv_at hl 1 rfl) ?_
            refine va_get (D := D) (ci := 8) (v := .ref a_h_places) (C := RX8) (T := TX8) (N := 14) hx hb hts in_X8_calibration_X8 hown hK hP 0 rfl rfl 12 (by decide) (hts _ q_X8_calibration_4) (fun _ h9 => h9) rfl dX8_calibration_73 ?_
            refine lv_bipush (v := (6 : Int32)) hx hb dX8_calibration_76 (by decide) ?_
            refine wx_iald hx hb hK hP 3 0 rfl rfl 6 (by decide) (by unfold vp_in; decide) dX8_calibration_78 ?_
            refine lv_aload_n hx hb dX8_calibration_79 rfl (lv_at hl 1 rfl) ?_
            refine va_get (D := D) (ci := 8) (v := .ref a_h_places) (C := RX8) (T := TX8) (N := 14) hx hb hts in_X8_calibration_X8 hown hK hP 0 rfl rfl 12 (by decide) (hts _ q_X8_calibration_4) (fun _ h9 => h9) rfl dX8_calibration_80 ?_
            refine lv_iconst (v := (0 : Int32)) hx hb dX8_calibration_83 (by decide) ?_
            refine wx_iald hx hb hK hP 3 0 rfl rfl 0 (by decide) (by unfold vp_in; decide) dX8_calibration_84 ?_
            refine lv_isub hx hb dX8_calibration_85 ?_
            refine lv_topi (fun t11 et11 => ?_)
            replace h := nm_at h et11
            refine lv_istore (lv' := [(4, .int t11), (3, .int u7), (0, .ref a_h), (1, .int p0), (2, .int p1)]) hx hb dX8_calibration_86 hl (by decide) rfl (fun ls hl => ?_)
            refine lv_iconst (v := (1 : Int32)) hx hb dX8_calibration_88 (by decide) ?_
            refine lv_istore (lv' := [(5, .int (1 : Int32)), (4, .int t11), (3, .int u7), (0, .ref a_h), (1, .int p0), (2, .int p1)]) hx hb dX8_calibration_89 hl (by decide) rfl (fun ls hl => ?_)
            exact B91 N u7 t11 (1 : Int32) u9.1 u9.2.1 u9.2.2.1 u9.2.2.2.1 u9.2.2.2.2 _ _ _ h hP hD hS (lv_sub hl [3, 4, 5, 2, 1, 0] rfl)
          · replace h := if_e hc10 h
            refine lv_aload_n hx hb dX8_calibration_65 rfl (lv_at hl 1 rfl) ?_
            refine va_get (D := D) (ci := 8) (v := .ref a_h_places) (C := RX8) (T := TX8) (N := 14) hx hb hts in_X8_calibration_X8 hown hK hP 0 rfl rfl 12 (by decide) (hts _ q_X8_calibration_4) (fun _ h9 => h9) rfl dX8_calibration_66 ?_
            refine lv_iload_n hx hb dX8_calibration_69 rfl (lv_at hl 3 rfl) ?_
            obtain ⟨hi32, h⟩ := gA_e h
            refine wx_iald hx hb hK hP 3 0 rfl rfl (Int32.toNatClampNeg p1) rfl hi32 dX8_calibration_70 ?_
            obtain rfl := sm_e h
            exact rx_i hx hb hr  hP hK hD hS dX8_calibration_71 hlocks
        · replace h := if_e hc8 h
          refine lv_iload_n hx hb dX8_calibration_43 rfl (lv_at hl 3 rfl) ?_
          refine lv_bipush (v := (6 : Int32)) hx hb dX8_calibration_44 (by decide) ?_
          refine lv_irem hx hb dX8_calibration_46 (by decide) ?_
          refine lv_iload_n hx hb dX8_calibration_47 rfl (lv_at hl 0 rfl) ?_
          refine lv_icmp_le (tgt := 54) hx hb dX8_calibration_48 (by decide) (fun hc33 => ?_) (fun hc33 => ?_)
          · replace h := it_e hc33 h
            refine lv_aload_n hx hb dX8_calibration_54 rfl (lv_at hl 1 rfl) ?_
            refine lv_iload_n hx hb dX8_calibration_55 rfl (lv_at hl 2 rfl) ?_
            obtain ⟨u34, hu34, h⟩ := bd_e h
            refine kx_v (mc := 0) (ms := 0) (wr := []) (ws2 := [(a_h, .inr (8, [.ref a_h_d, .long u34.1, .ref a_h_was, .ref a_h_accounts, .int v_states, .int v_refused, .ref a_h_text, .int v_typed, .int v_at, .int v_sign, .int v_number, .ref a_h_aside, .ref a_h_places, .ref a_h_told])), (a_h_d, .inl (cI, 2086, .inl u34.2.1)), (a_h_aside, .inl (cI, 2086, .inl u34.2.2.1)), (a_h_places, .inl (cI, 12, .inl u34.2.2.2.1)), (a_h_told, .inl (cI, 6, .inl u34.2.2.2.2))]) (va_runV (As := [.int p0]) (rest := []) ⟨hx, hb, hml, hown, hts⟩ (k_X8_calibrates l D cI cC cJ cB a_h a_h_d a_h_was a_h_accounts a_h_text a_h_aside a_h_places a_h_told v_account v_states v_refused v_typed v_at v_sign v_number v_d_A v_aside_A v_places_A v_told_A N p0 H.size _ hu34) (cwV 1 hts gX8_calibration_X8_calibrates rfl rfl rfl (by decide +kernel) ⟨Nat.le_of_ble_eq_true rfl, Nat.le_of_ble_eq_true rfl⟩) (pv_V hP hD hK hN [0, 1, 2, 3, 4] rfl rfl (ci := 8) rfl 0 rfl) rfl rfl hl.1 rfl (lv_room (Nat.le_of_ble_eq_true rfl)) dX8_calibration_56 ⟨Nat.zero_le _, Nat.zero_le _⟩) hP hD hS hA [0, 1, 2, 3, 4] [] [0, 1, 2, 3, 4] rfl rfl rfl rfl rfl rfl (fun H locs hP hD hS => ?_)
            refine lv_iload_n hx hb dX8_calibration_59 rfl (lv_at hl 3 rfl) ?_
            refine lv_bipush (v := (12 : Int32)) hx hb dX8_calibration_60 (by decide) ?_
            refine lv_icmp_ge (tgt := 72) hx hb dX8_calibration_62 (by decide) (fun hc35 => ?_) (fun hc35 => ?_)
            · replace h := it_e hc35 h
              refine lv_aload_n hx hb dX8_calibration_72 rfl (lv_at hl 1 rfl) ?_
              refine va_get (D := D) (ci := 8) (v := .ref a_h_places) (C := RX8) (T := TX8) (N := 14) hx hb hts in_X8_calibration_X8 hown hK hP 0 rfl rfl 12 (by decide) (hts _ q_X8_calibration_4) (fun _ h9 => h9) rfl dX8_calibration_73 ?_
              refine lv_bipush (v := (6 : Int32)) hx hb dX8_calibration_76 (by decide) ?_
              refine wx_iald hx hb hK hP 3 0 rfl rfl 6 (by decide) (by unfold vp_in; decide) dX8_calibration_78 ?_
              refine lv_aload_n hx hb dX8_calibration_79 rfl (lv_at hl 1 rfl) ?_
              refine va_get (D := D) (ci := 8) (v := .ref a_h_places) (C := RX8) (T := TX8) (N := 14) hx hb hts in_X8_calibration_X8 hown hK hP 0 rfl rfl 12 (by decide) (hts _ q_X8_calibration_4) (fun _ h9 => h9) rfl dX8_calibration_80 ?_
              refine lv_iconst (v := (0 : Int32)) hx hb dX8_calibration_83 (by decide) ?_
              refine wx_iald hx hb hK hP 3 0 rfl rfl 0 (by decide) (by unfold vp_in; decide) dX8_calibration_84 ?_
              refine lv_isub hx hb dX8_calibration_85 ?_
              refine lv_topi (fun t36 et36 => ?_)
              replace h := nm_at h et36
              refine lv_istore (lv' := [(4, .int t36), (3, .int u7), (0, .ref a_h), (1, .int p0), (2, .int p1)]) hx hb dX8_calibration_86 hl (by decide) rfl (fun ls hl => ?_)
              refine lv_iconst (v := (1 : Int32)) hx hb dX8_calibration_88 (by decide) ?_
              refine lv_istore (lv' := [(5, .int (1 : Int32)), (4, .int t36), (3, .int u7), (0, .ref a_h), (1, .int p0), (2, .int p1)]) hx hb dX8_calibration_89 hl (by decide) rfl (fun ls hl => ?_)
              exact B91 N u7 t36 (1 : Int32) u34.1 u34.2.1 u34.2.2.1 u34.2.2.2.1 u34.2.2.2.2 _ _ _ h hP hD hS (lv_sub hl [3, 4, 5, 2, 1, 0] rfl)
            · replace h := if_e hc35 h
              refine lv_aload_n hx hb dX8_calibration_65 rfl (lv_at hl 1 rfl) ?_
              refine va_get (D := D) (ci := 8) (v := .ref a_h_places) (C := RX8) (T := TX8) (N := 14) hx hb hts in_X8_calibration_X8 hown hK hP 0 rfl rfl 12 (by decide) (hts _ q_X8_calibration_4) (fun _ h9 => h9) rfl dX8_calibration_66 ?_
              refine lv_iload_n hx hb dX8_calibration_69 rfl (lv_at hl 3 rfl) ?_
              obtain ⟨hi37, h⟩ := gA_e h
              refine wx_iald hx hb hK hP 3 0 rfl rfl (Int32.toNatClampNeg p1) rfl hi37 dX8_calibration_70 ?_
              obtain rfl := sm_e h
              exact rx_i hx hb hr  hP hK hD hS dX8_calibration_71 hlocks
          · replace h := if_e hc33 h
            refine lv_ldc (v := (-2000000004 : Int32)) hx hb hown (hts _ q_X8_calibration_3) dX8_calibration_51 ?_
            obtain rfl := sm_e h
            exact rx_i hx hb hr  hP hK hD hS dX8_calibration_53 hlocks
      · replace h := in_e hc6 h
        refine lv_ldc (v := (-2000000002 : Int32)) hx hb hown (hts _ q_X8_calibration_2) dX8_calibration_29 ?_
        obtain rfl := sm_e h
        exact rx_i hx hb hr  hP hK hD hS dX8_calibration_31 hlocks
    · replace h := in_e hc4 h
      refine lv_ldc (v := (-2000000001 : Int32)) hx hb hown (hts _ q_X8_calibration_1) dX8_calibration_18 ?_
      obtain rfl := sm_e h
      exact rx_i hx hb hr  hP hK hD hS dX8_calibration_20 hlocks
-- X8_adopt
def f_X8_adopt_b59 (x2 : Int32) (m_account : Int64) (m_states : Int32) (m_was_A : Nat → Int32) (m_accounts_A : Nat → Int64) (m_aside_A : Nat → Int32) (m_places_A : Nat → Int32) (m_told_A : Nat → Int32) : Nat → Int32 → (Nat → Int32) → Option (Int32 × Int64 × Int32 × (Nat → Int32) × (Nat → Int32) × (Nat → Int64) × (Nat → Int32) × (Nat → Int32) × (Nat → Int32))
  | 0, _, _ => none
  | k + 1, x3, m_d_A =>
    (if x2 < x3 then some ((m_d_A 26), m_account, m_states, m_d_A, m_was_A, m_accounts_A, m_aside_A, m_places_A, m_told_A)
    else Option.bind (f_X8_middle m_places_A x3) (fun u13 => gA ((27 : Int32) + x3) 2086 (nm (upd m_d_A (Int32.toNatClampNeg ((27 : Int32) + x3)) u13) (fun g15 => gA x3 6 (nm (m_told_A (Int32.toNatClampNeg x3)) (fun t17 => gA ((34 : Int32) + x3) 2086 (nm (upd g15 (Int32.toNatClampNeg ((34 : Int32) + x3)) t17) (fun g19 => nm (x3 + (1 : Int32)) (fun t20 => (f_X8_adopt_b59 x2 m_account m_states m_was_A m_accounts_A m_aside_A m_places_A m_told_A k t20 g19))))))))))
def f_X8_adopt (N : Nat) (v_account : Int64) (v_states : Int32) (v_d_A : Nat → Int32) (v_was_A : Nat → Int32) (v_accounts_A : Nat → Int64) (v_aside_A : Nat → Int32) (v_places_A : Nat → Int32) (v_told_A : Nat → Int32) (p0 : Int32) : Option (Int32 × Int64 × Int32 × (Nat → Int32) × (Nat → Int32) × (Nat → Int64) × (Nat → Int32) × (Nat → Int32) × (Nat → Int32)) :=
  Option.bind (f_X8_isSet N v_d_A p0) (fun u1 => (if ¬ u1 = 0 then Option.bind (f_X8_isCalibrating N v_d_A p0) (fun u3 => (if ¬ u3 = 0 then Option.bind (f_X8_ones N p0) (fun u5 => Option.bind (f_X8_calibrates N v_account v_d_A v_aside_A v_places_A v_told_A p0) (fun u6 => Option.bind (f_X8_isScale N u6.2.2.2.1 u6.2.2.2.2 u5) (fun u7 => (if ¬ u7 = 0 then Option.bind (f_X8_records N u6.1 v_states u6.2.1 v_was_A v_accounts_A) (fun u9 => nm (u5 + (1 : Int32)) (fun t10 => nm (upd u6.2.1 26 t10) (fun g11 => (f_X8_adopt_b59 u5 u6.1 u9.1 u9.2.1 u9.2.2 u6.2.2.1 u6.2.2.2.1 u6.2.2.2.2 N (0 : Int32) g11))))
    else some ((-2000000002 : Int32), u6.1, v_states, u6.2.1, v_was_A, v_accounts_A, u6.2.2.1, u6.2.2.2.1, u6.2.2.2.2)))))
    else some ((-2000000002 : Int32), v_account, v_states, v_d_A, v_was_A, v_accounts_A, v_aside_A, v_places_A, v_told_A)))
    else some ((-2000000001 : Int32), v_account, v_states, v_d_A, v_was_A, v_accounts_A, v_aside_A, v_places_A, v_told_A)))
theorem q_X8_adopt_3 : (.fieldLink RX8 7 "SpringBalanceModel" "d" "[I" : Cond) ∈ wsX8_adopt := List.mem_of_getElem? (i := 3) (by decide +kernel)
set_option maxRecDepth 20000 in
theorem in_X8_adopt_X8 : ∀ w ∈ u_ws RX8 TX8 14, w ∈ wsX8_adopt := by decide +kernel
theorem q_X8_adopt_4 : (.fieldLink RX8 30 "SpringBalanceModel" "told" "[I" : Cond) ∈ wsX8_adopt := List.mem_of_getElem? (i := 4) (by decide +kernel)
theorem q_X8_adopt_2 : (.constant RX8 69 (-2000000002) : Cond) ∈ wsX8_adopt := List.mem_of_getElem? (i := 2) (by decide +kernel)
theorem q_X8_adopt_1 : (.constant RX8 64 (-2000000001) : Cond) ∈ wsX8_adopt := List.mem_of_getElem? (i := 1) (by decide +kernel)
set_option maxHeartbeats 8000000 in
set_option maxRecDepth 100000 in
theorem k_X8_adopt (l : Launch) (D : va_G) (cI cC cJ cB : ClassId) (a_h a_h_d a_h_was a_h_accounts a_h_text a_h_aside a_h_places a_h_told : Nat) (v_account : Int64) (v_states : Int32) (v_refused : Int32) (v_typed : Int32) (v_at : Int32) (v_sign : Int32) (v_number : Int32) (v_d_A : Nat → Int32) (v_was_A : Nat → Int32) (v_accounts_A : Nat → Int64) (v_aside_A : Nat → Int32) (v_places_A : Nat → Int32) (v_told_A : Nat → Int32) (N : Nat) (p0 : Int32) (sz : Nat) (u : Int32 × Int64 × Int32 × (Nat → Int32) × (Nat → Int32) × (Nat → Int64) × (Nat → Int32) × (Nat → Int32) × (Nat → Int32)) (hu : f_X8_adopt N v_account v_states v_d_A v_was_A v_accounts_A v_aside_A v_places_A v_told_A p0 = some u) :
    Met l yX8_adopt wsX8_adopt ({ frames := 4, cells := 0, slots := 0, locals := 101 } : Room) (va_Pc [.ref a_h, .int p0] (PreW D (ty4 cI cC cJ cB) sz [(a_h, .inr (8, [.ref a_h_d, .long v_account, .ref a_h_was, .ref a_h_accounts, .int v_states, .int v_refused, .ref a_h_text, .int v_typed, .int v_at, .int v_sign, .int v_number, .ref a_h_aside, .ref a_h_places, .ref a_h_told])), (a_h_d, .inl (cI, 2086, .inl v_d_A)), (a_h_was, .inl (cI, 10430, .inl v_was_A)), (a_h_accounts, .inl (cJ, 5, .inr (.inl v_accounts_A))), (a_h_aside, .inl (cI, 2086, .inl v_aside_A)), (a_h_places, .inl (cI, 12, .inl v_places_A)), (a_h_told, .inl (cI, 6, .inl v_told_A))]))
      (QI D (ty4 cI cC cJ cB) (va_A [(a_h, .inr (8, [.ref a_h_d, .long v_account, .ref a_h_was, .ref a_h_accounts, .int v_states, .int v_refused, .ref a_h_text, .int v_typed, .int v_at, .int v_sign, .int v_number, .ref a_h_aside, .ref a_h_places, .ref a_h_told])), (a_h_d, .inl (cI, 2086, .inl v_d_A)), (a_h_was, .inl (cI, 10430, .inl v_was_A)), (a_h_accounts, .inl (cJ, 5, .inr (.inl v_accounts_A))), (a_h_aside, .inl (cI, 2086, .inl v_aside_A)), (a_h_places, .inl (cI, 12, .inl v_places_A)), (a_h_told, .inl (cI, 6, .inl v_told_A))] sz) [(a_h, .inr (8, [.ref a_h_d, .long u.2.1, .ref a_h_was, .ref a_h_accounts, .int u.2.2.1, .int v_refused, .ref a_h_text, .int v_typed, .int v_at, .int v_sign, .int v_number, .ref a_h_aside, .ref a_h_places, .ref a_h_told])), (a_h_d, .inl (cI, 2086, .inl u.2.2.2.1)), (a_h_was, .inl (cI, 10430, .inl u.2.2.2.2.1)), (a_h_accounts, .inl (cJ, 5, .inr (.inl u.2.2.2.2.2.1))), (a_h_aside, .inl (cI, 2086, .inl u.2.2.2.2.2.2.1)), (a_h_places, .inl (cI, 12, .inl u.2.2.2.2.2.2.2.1)), (a_h_told, .inl (cI, 6, .inl u.2.2.2.2.2.2.2.2))] u.1) 0 0 (va_A [(a_h, .inr (8, [.ref a_h_d, .long v_account, .ref a_h_was, .ref a_h_accounts, .int v_states, .int v_refused, .ref a_h_text, .int v_typed, .int v_at, .int v_sign, .int v_number, .ref a_h_aside, .ref a_h_places, .ref a_h_told])), (a_h_d, .inl (cI, 2086, .inl v_d_A)), (a_h_was, .inl (cI, 10430, .inl v_was_A)), (a_h_accounts, .inl (cJ, 5, .inr (.inl v_accounts_A))), (a_h_aside, .inl (cI, 2086, .inl v_aside_A)), (a_h_places, .inl (cI, 12, .inl v_places_A)), (a_h_told, .inl (cI, 6, .inl v_told_A))] sz) := by
  refine met_go (y := yX8_adopt) (wsy := wsX8_adopt) (cc := cX8_adopt) (maxL := 4) (ret := (some .int)) (av := [.ref a_h, .int p0]) (Qc := fun A => QI D (ty4 cI cC cJ cB) A [(a_h, .inr (8, [.ref a_h_d, .long u.2.1, .ref a_h_was, .ref a_h_accounts, .int u.2.2.1, .int v_refused, .ref a_h_text, .int v_typed, .int v_at, .int v_sign, .int v_number, .ref a_h_aside, .ref a_h_places, .ref a_h_told])), (a_h_d, .inl (cI, 2086, .inl u.2.2.2.1)), (a_h_was, .inl (cI, 10430, .inl u.2.2.2.2.1)), (a_h_accounts, .inl (cJ, 5, .inr (.inl u.2.2.2.2.2.1))), (a_h_aside, .inl (cI, 2086, .inl u.2.2.2.2.2.2.1)), (a_h_places, .inl (cI, 12, .inl u.2.2.2.2.2.2.2.1)), (a_h_told, .inl (cI, 6, .inl u.2.2.2.2.2.2.2.2))] u.1) (by decide) rfl (Nat.le_of_ble_eq_true rfl) ?_
  intro p e s m below meth c A ls hx hb hr hml hown hts hlocks hnm hN hK hP hD hS hA hl
  have h := hu
  clear hu
  unfold f_X8_adopt at h
  have hl : lv_has ls 4 [(0, .ref a_h), (1, .int p0)] := hl
  have B59 : ∀ (k : Nat) (x2 : Int32) (x3 : Int32) (m_account : Int64) (m_states : Int32) (m_d_A : Nat → Int32) (m_was_A : Nat → Int32) (m_accounts_A : Nat → Int64) (m_aside_A : Nat → Int32) (m_places_A : Nat → Int32) (m_told_A : Nat → Int32) (H : Heap) (locs : List Loc) (ls : Array Slot), f_X8_adopt_b59 x2 m_account m_states m_was_A m_accounts_A m_aside_A m_places_A m_told_A k x3 m_d_A = some u → va_P D vwCl [(a_h, .inr (8, [.ref a_h_d, .long m_account, .ref a_h_was, .ref a_h_accounts, .int m_states, .int v_refused, .ref a_h_text, .int v_typed, .int v_at, .int v_sign, .int v_number, .ref a_h_aside, .ref a_h_places, .ref a_h_told])), (a_h_d, .inl (cI, 2086, .inl m_d_A)), (a_h_was, .inl (cI, 10430, .inl m_was_A)), (a_h_accounts, .inl (cJ, 5, .inr (.inl m_accounts_A))), (a_h_aside, .inl (cI, 2086, .inl m_aside_A)), (a_h_places, .inl (cI, 12, .inl m_places_A)), (a_h_told, .inl (cI, 6, .inl m_told_A))] H → va_D A [(a_h, .inr (8, [.ref a_h_d, .long m_account, .ref a_h_was, .ref a_h_accounts, .int m_states, .int v_refused, .ref a_h_text, .int v_typed, .int v_at, .int v_sign, .int v_number, .ref a_h_aside, .ref a_h_places, .ref a_h_told])), (a_h_d, .inl (cI, 2086, .inl m_d_A)), (a_h_was, .inl (cI, 10430, .inl m_was_A)), (a_h_accounts, .inl (cJ, 5, .inr (.inl m_accounts_A))), (a_h_aside, .inl (cI, 2086, .inl m_aside_A)), (a_h_places, .inl (cI, 12, .inl m_places_A)), (a_h_told, .inl (cI, 6, .inl m_told_A))] → va_S A s.heap H locs → lv_has ls 4 [(0, .ref a_h), (1, .int p0), (2, .int x2), (3, .int x3)] → W p l e ({ frames := 4, cells := 0, slots := 0, locals := 101 } : Room) s m ([.ref a_h, .int p0] : List Value).toArray below meth c H locs 0 0 (MQ below (QI D (ty4 cI cC cJ cB) A [(a_h, .inr (8, [.ref a_h_d, .long u.2.1, .ref a_h_was, .ref a_h_accounts, .int u.2.2.1, .int v_refused, .ref a_h_text, .int v_typed, .int v_at, .int v_sign, .int v_number, .ref a_h_aside, .ref a_h_places, .ref a_h_told])), (a_h_d, .inl (cI, 2086, .inl u.2.2.2.1)), (a_h_was, .inl (cI, 10430, .inl u.2.2.2.2.1)), (a_h_accounts, .inl (cJ, 5, .inr (.inl u.2.2.2.2.2.1))), (a_h_aside, .inl (cI, 2086, .inl u.2.2.2.2.2.2.1)), (a_h_places, .inl (cI, 12, .inl u.2.2.2.2.2.2.2.1)), (a_h_told, .inl (cI, 6, .inl u.2.2.2.2.2.2.2.2))] u.1) ([.ref a_h, .int p0] : List Value).toArray s 0 0 A) (F0 m 59 ls []) := by
    intro k
    induction k with
    | zero =>
      intro x2 x3 m_account m_states m_d_A m_was_A m_accounts_A m_aside_A m_places_A m_told_A H locs ls h
      exact nomatch (show (none : Option (Int32 × Int64 × Int32 × (Nat → Int32) × (Nat → Int32) × (Nat → Int64) × (Nat → Int32) × (Nat → Int32) × (Nat → Int32))) = some u from h)
    | succ k ih =>
      intro x2 x3 m_account m_states m_d_A m_was_A m_accounts_A m_aside_A m_places_A m_told_A H locs ls h hP hD hS hl
      rw [f_X8_adopt_b59.eq_2] at h
      refine lv_iload_n hx hb dX8_adopt_59 rfl (lv_at hl 3 rfl) ?_
      refine lv_iload_n hx hb dX8_adopt_60 rfl (lv_at hl 2 rfl) ?_
      refine lv_icmp_gt (tgt := 99) hx hb dX8_adopt_61 (by decide) (fun hc12 => ?_) (fun hc12 => ?_)
      · replace h := it_e hc12 h
        refine lv_aload_n hx hb dX8_adopt_99 rfl (lv_at hl 0 rfl) ?_
        refine va_get (D := D) (ci := 8) (v := .ref a_h_d) (C := RX8) (T := TX8) (N := 14) hx hb hts in_X8_adopt_X8 hown hK hP 0 rfl rfl 0 (by decide) (hts _ q_X8_adopt_3) (fun _ h9 => h9) rfl dX8_adopt_100 ?_
        refine lv_bipush (v := (26 : Int32)) hx hb dX8_adopt_103 (by decide) ?_
        refine wx_iald hx hb hK hP 1 0 rfl rfl 26 (by decide) (by unfold vp_in; decide) dX8_adopt_105 ?_
        obtain rfl := sm_e h
        exact rx_i hx hb hr  hP hK hD hS dX8_adopt_106 hlocks
      · replace h := if_e hc12 h
        refine lv_aload_n hx hb dX8_adopt_64 rfl (lv_at hl 0 rfl) ?_
        refine va_get (D := D) (ci := 8) (v := .ref a_h_d) (C := RX8) (T := TX8) (N := 14) hx hb hts in_X8_adopt_X8 hown hK hP 0 rfl rfl 0 (by decide) (hts _ q_X8_adopt_3) (fun _ h9 => h9) rfl dX8_adopt_65 ?_
        refine lv_bipush (v := (27 : Int32)) hx hb dX8_adopt_68 (by decide) ?_
        refine lv_iload_n hx hb dX8_adopt_70 rfl (lv_at hl 3 rfl) ?_
        refine lv_iadd hx hb dX8_adopt_71 ?_
        refine lv_aload_n hx hb dX8_adopt_72 rfl (lv_at hl 0 rfl) ?_
        refine lv_iload_n hx hb dX8_adopt_73 rfl (lv_at hl 3 rfl) ?_
        obtain ⟨u13, hu13, h⟩ := bd_e h
        refine kx_i (mc := 0) (ms := 0) (wr := [(a_h_d, .inl (cI, 2086, .inl m_d_A)), (a_h_was, .inl (cI, 10430, .inl m_was_A)), (a_h_accounts, .inl (cJ, 5, .inr (.inl m_accounts_A))), (a_h_aside, .inl (cI, 2086, .inl m_aside_A)), (a_h_told, .inl (cI, 6, .inl m_told_A))]) (ws2 := [(a_h, .inr (8, [.ref a_h_d, .long m_account, .ref a_h_was, .ref a_h_accounts, .int m_states, .int v_refused, .ref a_h_text, .int v_typed, .int v_at, .int v_sign, .int v_number, .ref a_h_aside, .ref a_h_places, .ref a_h_told])), (a_h_d, .inl (cI, 2086, .inl m_d_A)), (a_h_was, .inl (cI, 10430, .inl m_was_A)), (a_h_accounts, .inl (cJ, 5, .inr (.inl m_accounts_A))), (a_h_aside, .inl (cI, 2086, .inl m_aside_A)), (a_h_places, .inl (cI, 12, .inl m_places_A)), (a_h_told, .inl (cI, 6, .inl m_told_A))]) (va_runV (As := [.int x3]) (rest := [.int ((27 : Int32) + x3), .ref a_h_d]) ⟨hx, hb, hml, hown, hts⟩ (k_X8_middle l D cI cC cJ cB a_h a_h_d a_h_was a_h_accounts a_h_text a_h_aside a_h_places a_h_told m_account m_states v_refused v_typed v_at v_sign v_number m_places_A N x3 H.size _ hu13) (cwV 1 hts gX8_adopt_X8_middle rfl rfl rfl (by decide +kernel) ⟨Nat.le_of_ble_eq_true rfl, Nat.le_of_ble_eq_true rfl⟩) (pv_V hP hD hK hN [0, 5] rfl rfl (ci := 8) rfl 0 rfl) rfl rfl hl.1 rfl (lv_room (Nat.le_of_ble_eq_true rfl)) dX8_adopt_74 ⟨Nat.zero_le _, Nat.zero_le _⟩) hP hD hS hA [0, 5] [1, 2, 3, 4, 6] [5, 0, 1, 2, 3, 6, 4] rfl rfl rfl rfl rfl rfl (fun H locs hP hD hS => ?_)
        obtain ⟨hi14, h⟩ := gA_e h
        refine wx_iast hx hb hK hP hD hS 1 0 rfl rfl (Int32.toNatClampNeg ((27 : Int32) + x3)) rfl hi14 dX8_adopt_77 rfl (fun H locs hP hD hS => ?_)
        obtain ⟨g15, eg15, h⟩ := nm_x h
        have hP : va_P D vwCl [(a_h, .inr (8, [.ref a_h_d, .long m_account, .ref a_h_was, .ref a_h_accounts, .int m_states, .int v_refused, .ref a_h_text, .int v_typed, .int v_at, .int v_sign, .int v_number, .ref a_h_aside, .ref a_h_places, .ref a_h_told])), (a_h_d, .inl (cI, 2086, .inl g15)), (a_h_was, .inl (cI, 10430, .inl m_was_A)), (a_h_accounts, .inl (cJ, 5, .inr (.inl m_accounts_A))), (a_h_aside, .inl (cI, 2086, .inl m_aside_A)), (a_h_places, .inl (cI, 12, .inl m_places_A)), (a_h_told, .inl (cI, 6, .inl m_told_A))] H := by rw [eg15]; exact hP
        have hD : va_D A [(a_h, .inr (8, [.ref a_h_d, .long m_account, .ref a_h_was, .ref a_h_accounts, .int m_states, .int v_refused, .ref a_h_text, .int v_typed, .int v_at, .int v_sign, .int v_number, .ref a_h_aside, .ref a_h_places, .ref a_h_told])), (a_h_d, .inl (cI, 2086, .inl g15)), (a_h_was, .inl (cI, 10430, .inl m_was_A)), (a_h_accounts, .inl (cJ, 5, .inr (.inl m_accounts_A))), (a_h_aside, .inl (cI, 2086, .inl m_aside_A)), (a_h_places, .inl (cI, 12, .inl m_places_A)), (a_h_told, .inl (cI, 6, .inl m_told_A))] := by rw [eg15]; exact hD
        refine lv_aload_n hx hb dX8_adopt_78 rfl (lv_at hl 0 rfl) ?_
        refine va_get (D := D) (ci := 8) (v := .ref a_h_d) (C := RX8) (T := TX8) (N := 14) hx hb hts in_X8_adopt_X8 hown hK hP 0 rfl rfl 0 (by decide) (hts _ q_X8_adopt_3) (fun _ h9 => h9) rfl dX8_adopt_79 ?_
        refine lv_bipush (v := (34 : Int32)) hx hb dX8_adopt_82 (by decide) ?_
        refine lv_iload_n hx hb dX8_adopt_84 rfl (lv_at hl 3 rfl) ?_
        refine lv_iadd hx hb dX8_adopt_85 ?_
        refine lv_aload_n hx hb dX8_adopt_86 rfl (lv_at hl 0 rfl) ?_
        refine va_get (D := D) (ci := 8) (v := .ref a_h_told) (C := RX8) (T := TX8) (N := 14) hx hb hts in_X8_adopt_X8 hown hK hP 0 rfl rfl 13 (by decide) (hts _ q_X8_adopt_4) (fun _ h9 => h9) rfl dX8_adopt_87 ?_
        refine lv_iload_n hx hb dX8_adopt_90 rfl (lv_at hl 3 rfl) ?_
        obtain ⟨hi16, h⟩ := gA_e h
        refine wx_iald hx hb hK hP 6 0 rfl rfl (Int32.toNatClampNeg x3) rfl hi16 dX8_adopt_91 ?_
        refine lv_topi (fun t17 et17 => ?_)
        replace h := nm_at h et17
        obtain ⟨hi18, h⟩ := gA_e h
        refine wx_iast hx hb hK hP hD hS 1 0 rfl rfl (Int32.toNatClampNeg ((34 : Int32) + x3)) rfl hi18 dX8_adopt_92 rfl (fun H locs hP hD hS => ?_)
        obtain ⟨g19, eg19, h⟩ := nm_x h
        have hP : va_P D vwCl [(a_h, .inr (8, [.ref a_h_d, .long m_account, .ref a_h_was, .ref a_h_accounts, .int m_states, .int v_refused, .ref a_h_text, .int v_typed, .int v_at, .int v_sign, .int v_number, .ref a_h_aside, .ref a_h_places, .ref a_h_told])), (a_h_d, .inl (cI, 2086, .inl g19)), (a_h_was, .inl (cI, 10430, .inl m_was_A)), (a_h_accounts, .inl (cJ, 5, .inr (.inl m_accounts_A))), (a_h_aside, .inl (cI, 2086, .inl m_aside_A)), (a_h_places, .inl (cI, 12, .inl m_places_A)), (a_h_told, .inl (cI, 6, .inl m_told_A))] H := by rw [eg19]; exact hP
        have hD : va_D A [(a_h, .inr (8, [.ref a_h_d, .long m_account, .ref a_h_was, .ref a_h_accounts, .int m_states, .int v_refused, .ref a_h_text, .int v_typed, .int v_at, .int v_sign, .int v_number, .ref a_h_aside, .ref a_h_places, .ref a_h_told])), (a_h_d, .inl (cI, 2086, .inl g19)), (a_h_was, .inl (cI, 10430, .inl m_was_A)), (a_h_accounts, .inl (cJ, 5, .inr (.inl m_accounts_A))), (a_h_aside, .inl (cI, 2086, .inl m_aside_A)), (a_h_places, .inl (cI, 12, .inl m_places_A)), (a_h_told, .inl (cI, 6, .inl m_told_A))] := by rw [eg19]; exact hD
        obtain ⟨t20, et20, h⟩ := nm_x h
        refine lv_iinc (v := t20) (lv' := [(3, .int t20), (0, .ref a_h), (1, .int p0), (2, .int x2)]) hx hb dX8_adopt_93 hl (k := 3) rfl (by rw [et20]; rfl) (by decide) rfl (fun ls hl => ?_)
        refine lv_goto (tgt := 59) hx hb dX8_adopt_96 (by decide) ?_
        exact ih x2 t20 m_account m_states g19 m_was_A m_accounts_A m_aside_A m_places_A m_told_A _ _ _ h hP hD hS (lv_sub hl [1, 2, 3, 0] rfl)
  refine lv_aload_n hx hb dX8_adopt_0 rfl (lv_at hl 0 rfl) ?_
  refine lv_iload_n hx hb dX8_adopt_1 rfl (lv_at hl 1 rfl) ?_
  obtain ⟨u1, hu1, h⟩ := bd_e h
  refine kx_i (mc := 0) (ms := 0) (wr := [(a_h_was, .inl (cI, 10430, .inl v_was_A)), (a_h_accounts, .inl (cJ, 5, .inr (.inl v_accounts_A))), (a_h_aside, .inl (cI, 2086, .inl v_aside_A)), (a_h_places, .inl (cI, 12, .inl v_places_A)), (a_h_told, .inl (cI, 6, .inl v_told_A))]) (ws2 := [(a_h, .inr (8, [.ref a_h_d, .long v_account, .ref a_h_was, .ref a_h_accounts, .int v_states, .int v_refused, .ref a_h_text, .int v_typed, .int v_at, .int v_sign, .int v_number, .ref a_h_aside, .ref a_h_places, .ref a_h_told])), (a_h_d, .inl (cI, 2086, .inl v_d_A)), (a_h_was, .inl (cI, 10430, .inl v_was_A)), (a_h_accounts, .inl (cJ, 5, .inr (.inl v_accounts_A))), (a_h_aside, .inl (cI, 2086, .inl v_aside_A)), (a_h_places, .inl (cI, 12, .inl v_places_A)), (a_h_told, .inl (cI, 6, .inl v_told_A))]) (va_runV (As := [.int p0]) (rest := []) ⟨hx, hb, hml, hown, hts⟩ (k_X8_isSet l D cI cC cJ cB a_h a_h_d a_h_was a_h_accounts a_h_text a_h_aside a_h_places a_h_told v_account v_states v_refused v_typed v_at v_sign v_number v_d_A N p0 s.heap.size _ hu1) (cwV 1 hts gX8_adopt_X8_isSet rfl rfl rfl (by decide +kernel) ⟨Nat.le_of_ble_eq_true rfl, Nat.le_of_ble_eq_true rfl⟩) (pv_V hP hD hK hN [0, 1] rfl rfl (ci := 8) rfl 0 rfl) rfl rfl hl.1 rfl (lv_room (Nat.le_of_ble_eq_true rfl)) dX8_adopt_2 ⟨Nat.zero_le _, Nat.zero_le _⟩) hP hD hS hA [0, 1] [2, 3, 4, 5, 6] [5, 6, 0, 1, 2, 3, 4] rfl rfl rfl rfl rfl rfl (fun H locs hP hD hS => ?_)
  refine lv_if_ne (tgt := 11) hx hb dX8_adopt_5 (by decide) (fun hc2 => ?_) (fun hc2 => ?_)
  · replace h := it_e hc2 h
    refine lv_aload_n hx hb dX8_adopt_11 rfl (lv_at hl 0 rfl) ?_
    refine lv_iload_n hx hb dX8_adopt_12 rfl (lv_at hl 1 rfl) ?_
    obtain ⟨u3, hu3, h⟩ := bd_e h
    refine kx_i (mc := 0) (ms := 0) (wr := [(a_h_was, .inl (cI, 10430, .inl v_was_A)), (a_h_accounts, .inl (cJ, 5, .inr (.inl v_accounts_A))), (a_h_aside, .inl (cI, 2086, .inl v_aside_A)), (a_h_places, .inl (cI, 12, .inl v_places_A)), (a_h_told, .inl (cI, 6, .inl v_told_A))]) (ws2 := [(a_h, .inr (8, [.ref a_h_d, .long v_account, .ref a_h_was, .ref a_h_accounts, .int v_states, .int v_refused, .ref a_h_text, .int v_typed, .int v_at, .int v_sign, .int v_number, .ref a_h_aside, .ref a_h_places, .ref a_h_told])), (a_h_d, .inl (cI, 2086, .inl v_d_A)), (a_h_was, .inl (cI, 10430, .inl v_was_A)), (a_h_accounts, .inl (cJ, 5, .inr (.inl v_accounts_A))), (a_h_aside, .inl (cI, 2086, .inl v_aside_A)), (a_h_places, .inl (cI, 12, .inl v_places_A)), (a_h_told, .inl (cI, 6, .inl v_told_A))]) (va_runV (As := [.int p0]) (rest := []) ⟨hx, hb, hml, hown, hts⟩ (k_X8_isCalibrating l D cI cC cJ cB a_h a_h_d a_h_was a_h_accounts a_h_text a_h_aside a_h_places a_h_told v_account v_states v_refused v_typed v_at v_sign v_number v_d_A N p0 H.size _ hu3) (cwV 1 hts gX8_adopt_X8_isCalibrating rfl rfl rfl (by decide +kernel) ⟨Nat.le_of_ble_eq_true rfl, Nat.le_of_ble_eq_true rfl⟩) (pv_V hP hD hK hN [0, 1] rfl rfl (ci := 8) rfl 0 rfl) rfl rfl hl.1 rfl (lv_room (Nat.le_of_ble_eq_true rfl)) dX8_adopt_13 ⟨Nat.zero_le _, Nat.zero_le _⟩) hP hD hS hA [0, 1] [2, 3, 4, 5, 6] [5, 6, 0, 1, 2, 3, 4] rfl rfl rfl rfl rfl rfl (fun H locs hP hD hS => ?_)
    refine lv_if_ne (tgt := 22) hx hb dX8_adopt_16 (by decide) (fun hc4 => ?_) (fun hc4 => ?_)
    · replace h := it_e hc4 h
      refine lv_iload_n hx hb dX8_adopt_22 rfl (lv_at hl 1 rfl) ?_
      obtain ⟨u5, hu5, h⟩ := bd_e h
      refine kx_i (mc := 0) (ms := 0) (wr := [(a_h, .inr (8, [.ref a_h_d, .long v_account, .ref a_h_was, .ref a_h_accounts, .int v_states, .int v_refused, .ref a_h_text, .int v_typed, .int v_at, .int v_sign, .int v_number, .ref a_h_aside, .ref a_h_places, .ref a_h_told])), (a_h_d, .inl (cI, 2086, .inl v_d_A)), (a_h_was, .inl (cI, 10430, .inl v_was_A)), (a_h_accounts, .inl (cJ, 5, .inr (.inl v_accounts_A))), (a_h_aside, .inl (cI, 2086, .inl v_aside_A)), (a_h_places, .inl (cI, 12, .inl v_places_A)), (a_h_told, .inl (cI, 6, .inl v_told_A))]) (ws2 := [(a_h, .inr (8, [.ref a_h_d, .long v_account, .ref a_h_was, .ref a_h_accounts, .int v_states, .int v_refused, .ref a_h_text, .int v_typed, .int v_at, .int v_sign, .int v_number, .ref a_h_aside, .ref a_h_places, .ref a_h_told])), (a_h_d, .inl (cI, 2086, .inl v_d_A)), (a_h_was, .inl (cI, 10430, .inl v_was_A)), (a_h_accounts, .inl (cJ, 5, .inr (.inl v_accounts_A))), (a_h_aside, .inl (cI, 2086, .inl v_aside_A)), (a_h_places, .inl (cI, 12, .inl v_places_A)), (a_h_told, .inl (cI, 6, .inl v_told_A))]) (va_runS (As := [.int p0]) (rest := []) ⟨hx, hb, hml, hown, hts⟩ (k_X8_ones l D cI cC cJ cB N p0 H.size _ hu5) (va_cwS 1 hts gX8_adopt_X8_ones rfl rfl rfl (by decide +kernel) ⟨Nat.le_of_ble_eq_true rfl, Nat.le_of_ble_eq_true rfl⟩) (pv_S hP hD hK hN [] rfl rfl) rfl rfl hl.1 rfl (lv_room (Nat.le_of_ble_eq_true rfl)) dX8_adopt_23 ⟨Nat.zero_le _, Nat.zero_le _⟩) hP hD hS hA [] [0, 1, 2, 3, 4, 5, 6] [0, 1, 2, 3, 4, 5, 6] rfl rfl rfl rfl rfl rfl (fun H locs hP hD hS => ?_)
      refine lv_istore_n (lv' := [(2, .int u5), (0, .ref a_h), (1, .int p0)]) hx hb dX8_adopt_26 rfl hl (by decide) rfl (fun ls hl => ?_)
      refine lv_aload_n hx hb dX8_adopt_27 rfl (lv_at hl 1 rfl) ?_
      refine lv_iload_n hx hb dX8_adopt_28 rfl (lv_at hl 2 rfl) ?_
      obtain ⟨u6, hu6, h⟩ := bd_e h
      refine kx_v (mc := 0) (ms := 0) (wr := [(a_h_was, .inl (cI, 10430, .inl v_was_A)), (a_h_accounts, .inl (cJ, 5, .inr (.inl v_accounts_A)))]) (ws2 := [(a_h, .inr (8, [.ref a_h_d, .long u6.1, .ref a_h_was, .ref a_h_accounts, .int v_states, .int v_refused, .ref a_h_text, .int v_typed, .int v_at, .int v_sign, .int v_number, .ref a_h_aside, .ref a_h_places, .ref a_h_told])), (a_h_d, .inl (cI, 2086, .inl u6.2.1)), (a_h_was, .inl (cI, 10430, .inl v_was_A)), (a_h_accounts, .inl (cJ, 5, .inr (.inl v_accounts_A))), (a_h_aside, .inl (cI, 2086, .inl u6.2.2.1)), (a_h_places, .inl (cI, 12, .inl u6.2.2.2.1)), (a_h_told, .inl (cI, 6, .inl u6.2.2.2.2))]) (va_runV (As := [.int p0]) (rest := []) ⟨hx, hb, hml, hown, hts⟩ (k_X8_calibrates l D cI cC cJ cB a_h a_h_d a_h_was a_h_accounts a_h_text a_h_aside a_h_places a_h_told v_account v_states v_refused v_typed v_at v_sign v_number v_d_A v_aside_A v_places_A v_told_A N p0 H.size _ hu6) (cwV 1 hts gX8_adopt_X8_calibrates rfl rfl rfl (by decide +kernel) ⟨Nat.le_of_ble_eq_true rfl, Nat.le_of_ble_eq_true rfl⟩) (pv_V hP hD hK hN [0, 1, 4, 5, 6] rfl rfl (ci := 8) rfl 0 rfl) rfl rfl hl.1 rfl (lv_room (Nat.le_of_ble_eq_true rfl)) dX8_adopt_29 ⟨Nat.zero_le _, Nat.zero_le _⟩) hP hD hS hA [0, 1, 4, 5, 6] [2, 3] [2, 3, 0, 1, 4, 5, 6] rfl rfl rfl rfl rfl rfl (fun H locs hP hD hS => ?_)
      refine lv_aload_n hx hb dX8_adopt_32 rfl (lv_at hl 1 rfl) ?_
      refine lv_iload_n hx hb dX8_adopt_33 rfl (lv_at hl 0 rfl) ?_
      obtain ⟨u7, hu7, h⟩ := bd_e h
      refine kx_i (mc := 0) (ms := 0) (wr := [(a_h_d, .inl (cI, 2086, .inl u6.2.1)), (a_h_was, .inl (cI, 10430, .inl v_was_A)), (a_h_accounts, .inl (cJ, 5, .inr (.inl v_accounts_A))), (a_h_aside, .inl (cI, 2086, .inl u6.2.2.1))]) (ws2 := [(a_h, .inr (8, [.ref a_h_d, .long u6.1, .ref a_h_was, .ref a_h_accounts, .int v_states, .int v_refused, .ref a_h_text, .int v_typed, .int v_at, .int v_sign, .int v_number, .ref a_h_aside, .ref a_h_places, .ref a_h_told])), (a_h_d, .inl (cI, 2086, .inl u6.2.1)), (a_h_was, .inl (cI, 10430, .inl v_was_A)), (a_h_accounts, .inl (cJ, 5, .inr (.inl v_accounts_A))), (a_h_aside, .inl (cI, 2086, .inl u6.2.2.1)), (a_h_places, .inl (cI, 12, .inl u6.2.2.2.1)), (a_h_told, .inl (cI, 6, .inl u6.2.2.2.2))]) (va_runV (As := [.int u5]) (rest := []) ⟨hx, hb, hml, hown, hts⟩ (k_X8_isScale l D cI cC cJ cB a_h a_h_d a_h_was a_h_accounts a_h_text a_h_aside a_h_places a_h_told u6.1 v_states v_refused v_typed v_at v_sign v_number u6.2.2.2.1 u6.2.2.2.2 N u5 H.size _ hu7) (cwV 1 hts gX8_adopt_X8_isScale rfl rfl rfl (by decide +kernel) ⟨Nat.le_of_ble_eq_true rfl, Nat.le_of_ble_eq_true rfl⟩) (pv_V hP hD hK hN [0, 5, 6] rfl rfl (ci := 8) rfl 0 rfl) rfl rfl hl.1 rfl (lv_room (Nat.le_of_ble_eq_true rfl)) dX8_adopt_34 ⟨Nat.zero_le _, Nat.zero_le _⟩) hP hD hS hA [0, 5, 6] [1, 2, 3, 4] [4, 0, 1, 2, 3, 5, 6] rfl rfl rfl rfl rfl rfl (fun H locs hP hD hS => ?_)
      refine lv_if_ne (tgt := 43) hx hb dX8_adopt_37 (by decide) (fun hc8 => ?_) (fun hc8 => ?_)
      · replace h := it_e hc8 h
        refine lv_aload_n hx hb dX8_adopt_43 rfl (lv_at hl 1 rfl) ?_
        obtain ⟨u9, hu9, h⟩ := bd_e h
        refine kx_v (mc := 0) (ms := 0) (wr := [(a_h_aside, .inl (cI, 2086, .inl u6.2.2.1)), (a_h_places, .inl (cI, 12, .inl u6.2.2.2.1)), (a_h_told, .inl (cI, 6, .inl u6.2.2.2.2))]) (ws2 := [(a_h, .inr (8, [.ref a_h_d, .long u6.1, .ref a_h_was, .ref a_h_accounts, .int u9.1, .int v_refused, .ref a_h_text, .int v_typed, .int v_at, .int v_sign, .int v_number, .ref a_h_aside, .ref a_h_places, .ref a_h_told])), (a_h_d, .inl (cI, 2086, .inl u6.2.1)), (a_h_was, .inl (cI, 10430, .inl u9.2.1)), (a_h_accounts, .inl (cJ, 5, .inr (.inl u9.2.2))), (a_h_aside, .inl (cI, 2086, .inl u6.2.2.1)), (a_h_places, .inl (cI, 12, .inl u6.2.2.2.1)), (a_h_told, .inl (cI, 6, .inl u6.2.2.2.2))]) (va_runV (As := []) (rest := []) ⟨hx, hb, hml, hown, hts⟩ (k_X8_records l D cI cC cJ cB a_h a_h_d a_h_was a_h_accounts a_h_text a_h_aside a_h_places a_h_told u6.1 v_states v_refused v_typed v_at v_sign v_number u6.2.1 v_was_A v_accounts_A N H.size _ hu9) (cwV 0 hts gX8_adopt_X8_records rfl rfl rfl (by decide +kernel) ⟨Nat.le_of_ble_eq_true rfl, Nat.le_of_ble_eq_true rfl⟩) (pv_V hP hD hK hN [0, 1, 2, 3] rfl rfl (ci := 8) rfl 0 rfl) rfl rfl hl.1 rfl (lv_room (Nat.le_of_ble_eq_true rfl)) dX8_adopt_44 ⟨Nat.zero_le _, Nat.zero_le _⟩) hP hD hS hA [0, 1, 2, 3] [4, 5, 6] [3, 4, 5, 6, 0, 1, 2] rfl rfl rfl rfl rfl rfl (fun H locs hP hD hS => ?_)
        refine lv_aload_n hx hb dX8_adopt_47 rfl (lv_at hl 1 rfl) ?_
        refine va_get (D := D) (ci := 8) (v := .ref a_h_d) (C := RX8) (T := TX8) (N := 14) hx hb hts in_X8_adopt_X8 hown hK hP 0 rfl rfl 0 (by decide) (hts _ q_X8_adopt_3) (fun _ h9 => h9) rfl dX8_adopt_48 ?_
        refine lv_bipush (v := (26 : Int32)) hx hb dX8_adopt_51 (by decide) ?_
        refine lv_iload_n hx hb dX8_adopt_53 rfl (lv_at hl 0 rfl) ?_
        refine lv_iconst (v := (1 : Int32)) hx hb dX8_adopt_54 (by decide) ?_
        refine lv_iadd hx hb dX8_adopt_55 ?_
        refine lv_topi (fun t10 et10 => ?_)
        replace h := nm_at h et10
        refine wx_iast hx hb hK hP hD hS 1 0 rfl rfl 26 (by decide) (by unfold vp_in; decide) dX8_adopt_56 rfl (fun H locs hP hD hS => ?_)
        obtain ⟨g11, eg11, h⟩ := nm_x h
        have hP : va_P D vwCl [(a_h, .inr (8, [.ref a_h_d, .long u6.1, .ref a_h_was, .ref a_h_accounts, .int u9.1, .int v_refused, .ref a_h_text, .int v_typed, .int v_at, .int v_sign, .int v_number, .ref a_h_aside, .ref a_h_places, .ref a_h_told])), (a_h_d, .inl (cI, 2086, .inl g11)), (a_h_was, .inl (cI, 10430, .inl u9.2.1)), (a_h_accounts, .inl (cJ, 5, .inr (.inl u9.2.2))), (a_h_aside, .inl (cI, 2086, .inl u6.2.2.1)), (a_h_places, .inl (cI, 12, .inl u6.2.2.2.1)), (a_h_told, .inl (cI, 6, .inl u6.2.2.2.2))] H := by rw [eg11]; exact hP
        have hD : va_D A [(a_h, .inr (8, [.ref a_h_d, .long u6.1, .ref a_h_was, .ref a_h_accounts, .int u9.1, .int v_refused, .ref a_h_text, .int v_typed, .int v_at, .int v_sign, .int v_number, .ref a_h_aside, .ref a_h_places, .ref a_h_told])), (a_h_d, .inl (cI, 2086, .inl g11)), (a_h_was, .inl (cI, 10430, .inl u9.2.1)), (a_h_accounts, .inl (cJ, 5, .inr (.inl u9.2.2))), (a_h_aside, .inl (cI, 2086, .inl u6.2.2.1)), (a_h_places, .inl (cI, 12, .inl u6.2.2.2.1)), (a_h_told, .inl (cI, 6, .inl u6.2.2.2.2))] := by rw [eg11]; exact hD
        refine lv_iconst (v := (0 : Int32)) hx hb dX8_adopt_57 (by decide) ?_
        refine lv_istore_n (lv' := [(3, .int (0 : Int32)), (2, .int u5), (0, .ref a_h), (1, .int p0)]) hx hb dX8_adopt_58 rfl hl (by decide) rfl (fun ls hl => ?_)
        exact B59 N u5 (0 : Int32) u6.1 u9.1 g11 u9.2.1 u9.2.2 u6.2.2.1 u6.2.2.2.1 u6.2.2.2.2 _ _ _ h hP hD hS (lv_sub hl [2, 3, 1, 0] rfl)
      · replace h := in_e hc8 h
        refine lv_ldc (v := (-2000000002 : Int32)) hx hb hown (hts _ q_X8_adopt_2) dX8_adopt_40 ?_
        obtain rfl := sm_e h
        exact rx_i hx hb hr  hP hK hD hS dX8_adopt_42 hlocks
    · replace h := in_e hc4 h
      refine lv_ldc (v := (-2000000002 : Int32)) hx hb hown (hts _ q_X8_adopt_2) dX8_adopt_19 ?_
      obtain rfl := sm_e h
      exact rx_i hx hb hr  hP hK hD hS dX8_adopt_21 hlocks
  · replace h := in_e hc2 h
    refine lv_ldc (v := (-2000000001 : Int32)) hx hb hown (hts _ q_X8_adopt_1) dX8_adopt_8 ?_
    obtain rfl := sm_e h
    exact rx_i hx hb hr  hP hK hD hS dX8_adopt_10 hlocks
-- X8_type
def f_X8_type (v_typed : Int32) (v_text_A : Nat → Int32) (p0 : Int32) : Option (Int32 × Int32 × (Nat → Int32)) :=
  Option.bind (f_X8_in p0 (32 : Int32) (126 : Int32)) (fun u1 => (if ¬ u1 = 0 then (if ¬ v_typed = (80 : Int32) then nm (((Int32.toUInt32 p0) % 65536).toInt32) (fun t4 => gA v_typed 80 (nm (upd v_text_A (Int32.toNatClampNeg v_typed) (vp_nar .char t4)) (fun g6 => nm (v_typed + (1 : Int32)) (fun t7 => some (t7, t7, g6)))))
    else some ((-2000000003 : Int32), v_typed, v_text_A))
    else some ((-2000000001 : Int32), v_typed, v_text_A)))
theorem q_X8_type_2 : (.fieldLink RX8 93 "SpringBalanceModel" "typed" "I" : Cond) ∈ wsX8_type := List.mem_of_getElem? (i := 2) (by decide +kernel)
set_option maxRecDepth 20000 in
theorem in_X8_type_X8 : ∀ w ∈ u_ws RX8 TX8 14, w ∈ wsX8_type := by decide +kernel
theorem q_X8_type_4 : (.fieldLink RX8 20 "SpringBalanceModel" "text" "[C" : Cond) ∈ wsX8_type := List.mem_of_getElem? (i := 4) (by decide +kernel)
theorem q_X8_type_3 : (.constant RX8 104 (-2000000003) : Cond) ∈ wsX8_type := List.mem_of_getElem? (i := 3) (by decide +kernel)
theorem q_X8_type_1 : (.constant RX8 64 (-2000000001) : Cond) ∈ wsX8_type := List.mem_of_getElem? (i := 1) (by decide +kernel)
set_option maxHeartbeats 8000000 in
set_option maxRecDepth 100000 in
theorem k_X8_type (l : Launch) (D : va_G) (cI cC cJ cB : ClassId) (a_h a_h_d a_h_was a_h_accounts a_h_text a_h_aside a_h_places a_h_told : Nat) (v_account : Int64) (v_states : Int32) (v_refused : Int32) (v_typed : Int32) (v_at : Int32) (v_sign : Int32) (v_number : Int32) (v_text_A : Nat → Int32) (N : Nat) (p0 : Int32) (sz : Nat) (u : Int32 × Int32 × (Nat → Int32)) (hu : f_X8_type v_typed v_text_A p0 = some u) :
    Met l yX8_type wsX8_type ({ frames := 1, cells := 0, slots := 0, locals := 22 } : Room) (va_Pc [.ref a_h, .int p0] (PreW D (ty4 cI cC cJ cB) sz [(a_h, .inr (8, [.ref a_h_d, .long v_account, .ref a_h_was, .ref a_h_accounts, .int v_states, .int v_refused, .ref a_h_text, .int v_typed, .int v_at, .int v_sign, .int v_number, .ref a_h_aside, .ref a_h_places, .ref a_h_told])), (a_h_text, .inl (cC, 80, .inl v_text_A))]))
      (QI D (ty4 cI cC cJ cB) (va_A [(a_h, .inr (8, [.ref a_h_d, .long v_account, .ref a_h_was, .ref a_h_accounts, .int v_states, .int v_refused, .ref a_h_text, .int v_typed, .int v_at, .int v_sign, .int v_number, .ref a_h_aside, .ref a_h_places, .ref a_h_told])), (a_h_text, .inl (cC, 80, .inl v_text_A))] sz) [(a_h, .inr (8, [.ref a_h_d, .long v_account, .ref a_h_was, .ref a_h_accounts, .int v_states, .int v_refused, .ref a_h_text, .int u.2.1, .int v_at, .int v_sign, .int v_number, .ref a_h_aside, .ref a_h_places, .ref a_h_told])), (a_h_text, .inl (cC, 80, .inl u.2.2))] u.1) 0 0 (va_A [(a_h, .inr (8, [.ref a_h_d, .long v_account, .ref a_h_was, .ref a_h_accounts, .int v_states, .int v_refused, .ref a_h_text, .int v_typed, .int v_at, .int v_sign, .int v_number, .ref a_h_aside, .ref a_h_places, .ref a_h_told])), (a_h_text, .inl (cC, 80, .inl v_text_A))] sz) := by
  refine met_go (y := yX8_type) (wsy := wsX8_type) (cc := cX8_type) (maxL := 2) (ret := (some .int)) (av := [.ref a_h, .int p0]) (Qc := fun A => QI D (ty4 cI cC cJ cB) A [(a_h, .inr (8, [.ref a_h_d, .long v_account, .ref a_h_was, .ref a_h_accounts, .int v_states, .int v_refused, .ref a_h_text, .int u.2.1, .int v_at, .int v_sign, .int v_number, .ref a_h_aside, .ref a_h_places, .ref a_h_told])), (a_h_text, .inl (cC, 80, .inl u.2.2))] u.1) (by decide) rfl (Nat.le_of_ble_eq_true rfl) ?_
  intro p e s m below meth c A ls hx hb hr hml hown hts hlocks hnm hN hK hP hD hS hA hl
  have h := hu
  clear hu
  unfold f_X8_type at h
  have hl : lv_has ls 2 [(0, .ref a_h), (1, .int p0)] := hl
  refine lv_iload_n hx hb dX8_type_0 rfl (lv_at hl 1 rfl) ?_
  refine lv_bipush (v := (32 : Int32)) hx hb dX8_type_1 (by decide) ?_
  refine lv_bipush (v := (126 : Int32)) hx hb dX8_type_3 (by decide) ?_
  obtain ⟨u1, hu1, h⟩ := bd_e h
  refine kx_i (mc := 0) (ms := 0) (wr := [(a_h, .inr (8, [.ref a_h_d, .long v_account, .ref a_h_was, .ref a_h_accounts, .int v_states, .int v_refused, .ref a_h_text, .int v_typed, .int v_at, .int v_sign, .int v_number, .ref a_h_aside, .ref a_h_places, .ref a_h_told])), (a_h_text, .inl (cC, 80, .inl v_text_A))]) (ws2 := [(a_h, .inr (8, [.ref a_h_d, .long v_account, .ref a_h_was, .ref a_h_accounts, .int v_states, .int v_refused, .ref a_h_text, .int v_typed, .int v_at, .int v_sign, .int v_number, .ref a_h_aside, .ref a_h_places, .ref a_h_told])), (a_h_text, .inl (cC, 80, .inl v_text_A))]) (va_runS (As := [.int p0, .int (32 : Int32), .int (126 : Int32)]) (rest := []) ⟨hx, hb, hml, hown, hts⟩ (k_X8_in l D cI cC cJ cB N p0 (32 : Int32) (126 : Int32) s.heap.size _ hu1) (va_cwS 3 hts gX8_type_X8_in rfl rfl rfl (by decide +kernel) ⟨Nat.le_of_ble_eq_true rfl, Nat.le_of_ble_eq_true rfl⟩) (pv_S hP hD hK hN [] rfl rfl) rfl rfl hl.1 rfl (lv_room (Nat.le_of_ble_eq_true rfl)) dX8_type_5 ⟨Nat.zero_le _, Nat.zero_le _⟩) hP hD hS hA [] [0, 1] [0, 1] rfl rfl rfl rfl rfl rfl (fun H locs hP hD hS => ?_)
  refine lv_if_ne (tgt := 14) hx hb dX8_type_8 (by decide) (fun hc2 => ?_) (fun hc2 => ?_)
  · replace h := it_e hc2 h
    refine lv_aload_n hx hb dX8_type_14 rfl (lv_at hl 0 rfl) ?_
    refine va_get (D := D) (ci := 8) (v := .int v_typed) (C := RX8) (T := TX8) (N := 14) hx hb hts in_X8_type_X8 hown hK hP 0 rfl rfl 7 (by decide) (hts _ q_X8_type_2) (fun _ h9 => h9) rfl dX8_type_15 ?_
    refine lv_bipush (v := (80 : Int32)) hx hb dX8_type_18 (by decide) ?_
    refine lv_icmp_ne (tgt := 26) hx hb dX8_type_20 (by decide) (fun hc3 => ?_) (fun hc3 => ?_)
    · replace h := it_e hc3 h
      refine lv_aload_n hx hb dX8_type_26 rfl (lv_at hl 0 rfl) ?_
      refine va_get (D := D) (ci := 8) (v := .ref a_h_text) (C := RX8) (T := TX8) (N := 14) hx hb hts in_X8_type_X8 hown hK hP 0 rfl rfl 6 (by decide) (hts _ q_X8_type_4) (fun _ h9 => h9) rfl dX8_type_27 ?_
      refine lv_aload_n hx hb dX8_type_30 rfl (lv_at hl 0 rfl) ?_
      refine va_get (D := D) (ci := 8) (v := .int v_typed) (C := RX8) (T := TX8) (N := 14) hx hb hts in_X8_type_X8 hown hK hP 0 rfl rfl 7 (by decide) (hts _ q_X8_type_2) (fun _ h9 => h9) rfl dX8_type_31 ?_
      refine lv_iload_n hx hb dX8_type_34 rfl (lv_at hl 1 rfl) ?_
      refine lv_i2c (v := ((Int32.toUInt32 p0) % 65536).toInt32) hx hb dX8_type_35 rfl ?_
      refine lv_topi (fun t4 et4 => ?_)
      replace h := nm_at h et4
      obtain ⟨hi5, h⟩ := gA_e h
      refine va_cast hx hb hK hP hD hS 1 1 rfl rfl hi5 dX8_type_36 (fun H locs hP hD hS => ?_)
      obtain ⟨g6, eg6, h⟩ := nm_x h
      have hP : va_P D vwCl [(a_h, .inr (8, [.ref a_h_d, .long v_account, .ref a_h_was, .ref a_h_accounts, .int v_states, .int v_refused, .ref a_h_text, .int v_typed, .int v_at, .int v_sign, .int v_number, .ref a_h_aside, .ref a_h_places, .ref a_h_told])), (a_h_text, .inl (cC, 80, .inl g6))] H := by rw [eg6]; exact hP
      have hD : va_D A [(a_h, .inr (8, [.ref a_h_d, .long v_account, .ref a_h_was, .ref a_h_accounts, .int v_states, .int v_refused, .ref a_h_text, .int v_typed, .int v_at, .int v_sign, .int v_number, .ref a_h_aside, .ref a_h_places, .ref a_h_told])), (a_h_text, .inl (cC, 80, .inl g6))] := by rw [eg6]; exact hD
      refine lv_aload_n hx hb dX8_type_37 rfl (lv_at hl 0 rfl) ?_
      refine lv_dup hx hb dX8_type_38 rfl ?_
      refine va_get (D := D) (ci := 8) (v := .int v_typed) (C := RX8) (T := TX8) (N := 14) hx hb hts in_X8_type_X8 hown hK hP 0 rfl rfl 7 (by decide) (hts _ q_X8_type_2) (fun _ h9 => h9) rfl dX8_type_39 ?_
      refine lv_iconst (v := (1 : Int32)) hx hb dX8_type_42 (by decide) ?_
      refine lv_iadd hx hb dX8_type_43 ?_
      refine lv_topi (fun t7 et7 => ?_)
      replace h := nm_at h et7
      refine va_put (D := D) (ci := 8) (v := .int t7) (ty := .int) (C := RX8) (T := TX8) (N := 14) hx hb hts in_X8_type_X8 tyX8 tyX8_ok nmX8 hown hK hP hD hS 0 rfl rfl 7 (by decide) (hts _ q_X8_type_2) (fun _ h9 => h9) rfl (by decide +kernel) rfl rfl (Nat.le_of_ble_eq_true rfl) dX8_type_44 (fun H locs hP hD hS => ?_)
      have hP : va_P D vwCl [(a_h, .inr (8, [.ref a_h_d, .long v_account, .ref a_h_was, .ref a_h_accounts, .int v_states, .int v_refused, .ref a_h_text, .int t7, .int v_at, .int v_sign, .int v_number, .ref a_h_aside, .ref a_h_places, .ref a_h_told])), (a_h_text, .inl (cC, 80, .inl g6))] H := hP
      have hD : va_D A [(a_h, .inr (8, [.ref a_h_d, .long v_account, .ref a_h_was, .ref a_h_accounts, .int v_states, .int v_refused, .ref a_h_text, .int t7, .int v_at, .int v_sign, .int v_number, .ref a_h_aside, .ref a_h_places, .ref a_h_told])), (a_h_text, .inl (cC, 80, .inl g6))] := hD
      refine lv_aload_n hx hb dX8_type_47 rfl (lv_at hl 0 rfl) ?_
      refine va_get (D := D) (ci := 8) (v := .int t7) (C := RX8) (T := TX8) (N := 14) hx hb hts in_X8_type_X8 hown hK hP 0 rfl rfl 7 (by decide) (hts _ q_X8_type_2) (fun _ h9 => h9) rfl dX8_type_48 ?_
      obtain rfl := sm_e h
      exact rx_i hx hb hr  hP hK hD hS dX8_type_51 hlocks
    · replace h := in_e hc3 h
      refine lv_ldc (v := (-2000000003 : Int32)) hx hb hown (hts _ q_X8_type_3) dX8_type_23 ?_
      obtain rfl := sm_e h
      exact rx_i hx hb hr  hP hK hD hS dX8_type_25 hlocks
  · replace h := in_e hc2 h
    refine lv_ldc (v := (-2000000001 : Int32)) hx hb hown (hts _ q_X8_type_1) dX8_type_11 ?_
    obtain rfl := sm_e h
    exact rx_i hx hb hr  hP hK hD hS dX8_type_13 hlocks
-- X8_clearText
def f_X8_clearText (v_typed : Int32) : Option (Int32 × Int32) :=
  some (v_typed, (0 : Int32))
theorem q_X8_clearText_1 : (.fieldLink RX8 93 "SpringBalanceModel" "typed" "I" : Cond) ∈ wsX8_clearText := List.mem_of_getElem? (i := 1) (by decide +kernel)
set_option maxRecDepth 20000 in
theorem in_X8_clearText_X8 : ∀ w ∈ u_ws RX8 TX8 14, w ∈ wsX8_clearText := by decide +kernel
set_option maxHeartbeats 8000000 in
set_option maxRecDepth 100000 in
theorem k_X8_clearText (l : Launch) (D : va_G) (cI cC cJ cB : ClassId) (a_h a_h_d a_h_was a_h_accounts a_h_text a_h_aside a_h_places a_h_told : Nat) (v_account : Int64) (v_states : Int32) (v_refused : Int32) (v_typed : Int32) (v_at : Int32) (v_sign : Int32) (v_number : Int32) (N : Nat) (sz : Nat) (u : Int32 × Int32) (hu : f_X8_clearText v_typed = some u) :
    Met l yX8_clearText wsX8_clearText ({ frames := 0, cells := 0, slots := 0, locals := 0 } : Room) (va_Pc [.ref a_h] (PreW D (ty4 cI cC cJ cB) sz [(a_h, .inr (8, [.ref a_h_d, .long v_account, .ref a_h_was, .ref a_h_accounts, .int v_states, .int v_refused, .ref a_h_text, .int v_typed, .int v_at, .int v_sign, .int v_number, .ref a_h_aside, .ref a_h_places, .ref a_h_told]))]))
      (QI D (ty4 cI cC cJ cB) (va_A [(a_h, .inr (8, [.ref a_h_d, .long v_account, .ref a_h_was, .ref a_h_accounts, .int v_states, .int v_refused, .ref a_h_text, .int v_typed, .int v_at, .int v_sign, .int v_number, .ref a_h_aside, .ref a_h_places, .ref a_h_told]))] sz) [(a_h, .inr (8, [.ref a_h_d, .long v_account, .ref a_h_was, .ref a_h_accounts, .int v_states, .int v_refused, .ref a_h_text, .int u.2, .int v_at, .int v_sign, .int v_number, .ref a_h_aside, .ref a_h_places, .ref a_h_told]))] u.1) 0 0 (va_A [(a_h, .inr (8, [.ref a_h_d, .long v_account, .ref a_h_was, .ref a_h_accounts, .int v_states, .int v_refused, .ref a_h_text, .int v_typed, .int v_at, .int v_sign, .int v_number, .ref a_h_aside, .ref a_h_places, .ref a_h_told]))] sz) := by
  refine met_go (y := yX8_clearText) (wsy := wsX8_clearText) (cc := cX8_clearText) (maxL := 2) (ret := (some .int)) (av := [.ref a_h]) (Qc := fun A => QI D (ty4 cI cC cJ cB) A [(a_h, .inr (8, [.ref a_h_d, .long v_account, .ref a_h_was, .ref a_h_accounts, .int v_states, .int v_refused, .ref a_h_text, .int u.2, .int v_at, .int v_sign, .int v_number, .ref a_h_aside, .ref a_h_places, .ref a_h_told]))] u.1) (by decide) rfl (Nat.le_of_ble_eq_true rfl) ?_
  intro p e s m below meth c A ls hx hb hr hml hown hts hlocks hnm hN hK hP hD hS hA hl
  have h := hu
  clear hu
  unfold f_X8_clearText at h
  have hl : lv_has ls 2 [(0, .ref a_h)] := hl
  refine lv_aload_n hx hb dX8_clearText_0 rfl (lv_at hl 0 rfl) ?_
  refine va_get (D := D) (ci := 8) (v := .int v_typed) (C := RX8) (T := TX8) (N := 14) hx hb hts in_X8_clearText_X8 hown hK hP 0 rfl rfl 7 (by decide) (hts _ q_X8_clearText_1) (fun _ h9 => h9) rfl dX8_clearText_1 ?_
  refine lv_istore_n (lv' := [(1, .int v_typed), (0, .ref a_h)]) hx hb dX8_clearText_4 rfl hl (by decide) rfl (fun ls hl => ?_)
  refine lv_aload_n hx hb dX8_clearText_5 rfl (lv_at hl 1 rfl) ?_
  refine lv_iconst (v := (0 : Int32)) hx hb dX8_clearText_6 (by decide) ?_
  refine va_put (D := D) (ci := 8) (v := .int (0 : Int32)) (ty := .int) (C := RX8) (T := TX8) (N := 14) hx hb hts in_X8_clearText_X8 tyX8 tyX8_ok nmX8 hown hK hP hD hS 0 rfl rfl 7 (by decide) (hts _ q_X8_clearText_1) (fun _ h9 => h9) rfl (by decide +kernel) rfl rfl (Nat.le_of_ble_eq_true rfl) dX8_clearText_7 (fun H locs hP hD hS => ?_)
  have hP : va_P D vwCl [(a_h, .inr (8, [.ref a_h_d, .long v_account, .ref a_h_was, .ref a_h_accounts, .int v_states, .int v_refused, .ref a_h_text, .int (0 : Int32), .int v_at, .int v_sign, .int v_number, .ref a_h_aside, .ref a_h_places, .ref a_h_told]))] H := hP
  have hD : va_D A [(a_h, .inr (8, [.ref a_h_d, .long v_account, .ref a_h_was, .ref a_h_accounts, .int v_states, .int v_refused, .ref a_h_text, .int (0 : Int32), .int v_at, .int v_sign, .int v_number, .ref a_h_aside, .ref a_h_places, .ref a_h_told]))] := hD
  refine lv_iload_n hx hb dX8_clearText_10 rfl (lv_at hl 0 rfl) ?_
  obtain rfl := sm_e h
  exact rx_i hx hb hr  hP hK hD hS dX8_clearText_11 hlocks
-- X8_readsNumber
def f_X8_readsNumber_b11 (v_typed : Int32) (v_text_A : Nat → Int32) (p0 : Int32) (p1 : Int32) (p2 : Int32) (x4 : Int32) : Nat → Int32 → Int32 → Option (Int32 × Int32 × Int32)
  | 0, _, _ => none
  | k + 1, m_at, m_number =>
    (if v_typed ≤ m_at then (if m_at ≤ x4 then some ((0 : Int32), m_at, m_number)
    else Option.bind (f_X8_in m_number p1 p2) (fun u3 => (if u3 = 0 then some ((0 : Int32), m_at, m_number)
    else some ((1 : Int32), m_at, m_number))))
    else (if (x4 + p0) ≤ m_at then (if m_at ≤ x4 then some ((0 : Int32), m_at, m_number)
    else Option.bind (f_X8_in m_number p1 p2) (fun u7 => (if u7 = 0 then some ((0 : Int32), m_at, m_number)
    else some ((1 : Int32), m_at, m_number))))
    else gA m_at 80 (Option.bind (f_X8_in (v_text_A (Int32.toNatClampNeg m_at)) (48 : Int32) (57 : Int32)) (fun u10 => (if u10 = 0 then (if m_at ≤ x4 then some ((0 : Int32), m_at, m_number)
    else Option.bind (f_X8_in m_number p1 p2) (fun u13 => (if u13 = 0 then some ((0 : Int32), m_at, m_number)
    else some ((1 : Int32), m_at, m_number))))
    else gA m_at 80 (nm ((((10 : Int32) * m_number) + (v_text_A (Int32.toNatClampNeg m_at))) - (48 : Int32)) (fun t16 => nm (m_at + (1 : Int32)) (fun t17 => (f_X8_readsNumber_b11 v_typed v_text_A p0 p1 p2 x4 k t17 t16)))))))))
def f_X8_readsNumber (N : Nat) (v_typed : Int32) (v_at : Int32) (v_text_A : Nat → Int32) (p0 : Int32) (p1 : Int32) (p2 : Int32) : Option (Int32 × Int32 × Int32) :=
  (f_X8_readsNumber_b11 v_typed v_text_A p0 p1 p2 v_at N v_at (0 : Int32))
theorem q_X8_readsNumber_1 : (.fieldLink RX8 142 "SpringBalanceModel" "at" "I" : Cond) ∈ wsX8_readsNumber := List.mem_of_getElem? (i := 1) (by decide +kernel)
set_option maxRecDepth 20000 in
theorem in_X8_readsNumber_X8 : ∀ w ∈ u_ws RX8 TX8 14, w ∈ wsX8_readsNumber := by decide +kernel
theorem q_X8_readsNumber_2 : (.fieldLink RX8 145 "SpringBalanceModel" "number" "I" : Cond) ∈ wsX8_readsNumber := List.mem_of_getElem? (i := 2) (by decide +kernel)
theorem q_X8_readsNumber_3 : (.fieldLink RX8 93 "SpringBalanceModel" "typed" "I" : Cond) ∈ wsX8_readsNumber := List.mem_of_getElem? (i := 3) (by decide +kernel)
theorem q_X8_readsNumber_4 : (.fieldLink RX8 20 "SpringBalanceModel" "text" "[C" : Cond) ∈ wsX8_readsNumber := List.mem_of_getElem? (i := 4) (by decide +kernel)
set_option maxHeartbeats 8000000 in
set_option maxRecDepth 100000 in
theorem k_X8_readsNumber (l : Launch) (D : va_G) (cI cC cJ cB : ClassId) (a_h a_h_d a_h_was a_h_accounts a_h_text a_h_aside a_h_places a_h_told : Nat) (v_account : Int64) (v_states : Int32) (v_refused : Int32) (v_typed : Int32) (v_at : Int32) (v_sign : Int32) (v_number : Int32) (v_text_A : Nat → Int32) (N : Nat) (p0 : Int32) (p1 : Int32) (p2 : Int32) (sz : Nat) (u : Int32 × Int32 × Int32) (hu : f_X8_readsNumber N v_typed v_at v_text_A p0 p1 p2 = some u) :
    Met l yX8_readsNumber wsX8_readsNumber ({ frames := 1, cells := 0, slots := 0, locals := 22 } : Room) (va_Pc [.ref a_h, .int p0, .int p1, .int p2] (PreW D (ty4 cI cC cJ cB) sz [(a_h, .inr (8, [.ref a_h_d, .long v_account, .ref a_h_was, .ref a_h_accounts, .int v_states, .int v_refused, .ref a_h_text, .int v_typed, .int v_at, .int v_sign, .int v_number, .ref a_h_aside, .ref a_h_places, .ref a_h_told])), (a_h_text, .inl (cC, 80, .inl v_text_A))]))
      (QI D (ty4 cI cC cJ cB) (va_A [(a_h, .inr (8, [.ref a_h_d, .long v_account, .ref a_h_was, .ref a_h_accounts, .int v_states, .int v_refused, .ref a_h_text, .int v_typed, .int v_at, .int v_sign, .int v_number, .ref a_h_aside, .ref a_h_places, .ref a_h_told])), (a_h_text, .inl (cC, 80, .inl v_text_A))] sz) [(a_h, .inr (8, [.ref a_h_d, .long v_account, .ref a_h_was, .ref a_h_accounts, .int v_states, .int v_refused, .ref a_h_text, .int v_typed, .int u.2.1, .int v_sign, .int u.2.2, .ref a_h_aside, .ref a_h_places, .ref a_h_told])), (a_h_text, .inl (cC, 80, .inl v_text_A))] u.1) 0 0 (va_A [(a_h, .inr (8, [.ref a_h_d, .long v_account, .ref a_h_was, .ref a_h_accounts, .int v_states, .int v_refused, .ref a_h_text, .int v_typed, .int v_at, .int v_sign, .int v_number, .ref a_h_aside, .ref a_h_places, .ref a_h_told])), (a_h_text, .inl (cC, 80, .inl v_text_A))] sz) := by
  refine met_go (y := yX8_readsNumber) (wsy := wsX8_readsNumber) (cc := cX8_readsNumber) (maxL := 5) (ret := (some .boolean)) (av := [.ref a_h, .int p0, .int p1, .int p2]) (Qc := fun A => QI D (ty4 cI cC cJ cB) A [(a_h, .inr (8, [.ref a_h_d, .long v_account, .ref a_h_was, .ref a_h_accounts, .int v_states, .int v_refused, .ref a_h_text, .int v_typed, .int u.2.1, .int v_sign, .int u.2.2, .ref a_h_aside, .ref a_h_places, .ref a_h_told])), (a_h_text, .inl (cC, 80, .inl v_text_A))] u.1) (by decide) rfl (Nat.le_of_ble_eq_true rfl) ?_
  intro p e s m below meth c A ls hx hb hr hml hown hts hlocks hnm hN hK hP hD hS hA hl
  have h := hu
  clear hu
  unfold f_X8_readsNumber at h
  have hl : lv_has ls 5 [(0, .ref a_h), (1, .int p0), (2, .int p1), (3, .int p2)] := hl
  have B11 : ∀ (k : Nat) (x4 : Int32) (m_at : Int32) (m_number : Int32) (H : Heap) (locs : List Loc) (ls : Array Slot), f_X8_readsNumber_b11 v_typed v_text_A p0 p1 p2 x4 k m_at m_number = some u → va_P D vwCl [(a_h, .inr (8, [.ref a_h_d, .long v_account, .ref a_h_was, .ref a_h_accounts, .int v_states, .int v_refused, .ref a_h_text, .int v_typed, .int m_at, .int v_sign, .int m_number, .ref a_h_aside, .ref a_h_places, .ref a_h_told])), (a_h_text, .inl (cC, 80, .inl v_text_A))] H → va_D A [(a_h, .inr (8, [.ref a_h_d, .long v_account, .ref a_h_was, .ref a_h_accounts, .int v_states, .int v_refused, .ref a_h_text, .int v_typed, .int m_at, .int v_sign, .int m_number, .ref a_h_aside, .ref a_h_places, .ref a_h_told])), (a_h_text, .inl (cC, 80, .inl v_text_A))] → va_S A s.heap H locs → lv_has ls 5 [(0, .ref a_h), (1, .int p0), (2, .int p1), (3, .int p2), (4, .int x4)] → W p l e ({ frames := 1, cells := 0, slots := 0, locals := 22 } : Room) s m ([.ref a_h, .int p0, .int p1, .int p2] : List Value).toArray below meth c H locs 0 0 (MQ below (QI D (ty4 cI cC cJ cB) A [(a_h, .inr (8, [.ref a_h_d, .long v_account, .ref a_h_was, .ref a_h_accounts, .int v_states, .int v_refused, .ref a_h_text, .int v_typed, .int u.2.1, .int v_sign, .int u.2.2, .ref a_h_aside, .ref a_h_places, .ref a_h_told])), (a_h_text, .inl (cC, 80, .inl v_text_A))] u.1) ([.ref a_h, .int p0, .int p1, .int p2] : List Value).toArray s 0 0 A) (F0 m 11 ls []) := by
    intro k
    induction k with
    | zero =>
      intro x4 m_at m_number H locs ls h
      exact nomatch (show (none : Option (Int32 × Int32 × Int32)) = some u from h)
    | succ k ih =>
      intro x4 m_at m_number H locs ls h hP hD hS hl
      rw [f_X8_readsNumber_b11.eq_2] at h
      refine lv_aload_n hx hb dX8_readsNumber_11 rfl (lv_at hl 0 rfl) ?_
      refine va_get (D := D) (ci := 8) (v := .int m_at) (C := RX8) (T := TX8) (N := 14) hx hb hts in_X8_readsNumber_X8 hown hK hP 0 rfl rfl 8 (by decide) (hts _ q_X8_readsNumber_1) (fun _ h9 => h9) rfl dX8_readsNumber_12 ?_
      refine lv_aload_n hx hb dX8_readsNumber_15 rfl (lv_at hl 0 rfl) ?_
      refine va_get (D := D) (ci := 8) (v := .int v_typed) (C := RX8) (T := TX8) (N := 14) hx hb hts in_X8_readsNumber_X8 hown hK hP 0 rfl rfl 7 (by decide) (hts _ q_X8_readsNumber_3) (fun _ h9 => h9) rfl dX8_readsNumber_16 ?_
      refine lv_icmp_ge (tgt := 89) hx hb dX8_readsNumber_19 (by decide) (fun hc1 => ?_) (fun hc1 => ?_)
      · replace h := it_e hc1 h
        refine lv_aload_n hx hb dX8_readsNumber_89 rfl (lv_at hl 0 rfl) ?_
        refine va_get (D := D) (ci := 8) (v := .int m_at) (C := RX8) (T := TX8) (N := 14) hx hb hts in_X8_readsNumber_X8 hown hK hP 0 rfl rfl 8 (by decide) (hts _ q_X8_readsNumber_1) (fun _ h9 => h9) rfl dX8_readsNumber_90 ?_
        refine lv_iload hx hb dX8_readsNumber_93 (lv_at hl 4 rfl) ?_
        refine lv_icmp_le (tgt := 114) hx hb dX8_readsNumber_95 (by decide) (fun hc2 => ?_) (fun hc2 => ?_)
        · replace h := it_e hc2 h
          refine lv_iconst (v := (0 : Int32)) hx hb dX8_readsNumber_114 (by decide) ?_
          obtain rfl := sm_e h
          exact rx_z hx hb hr (nar_z (Or.inl rfl)) hP hK hD hS dX8_readsNumber_115 hlocks
        · replace h := if_e hc2 h
          refine lv_aload_n hx hb dX8_readsNumber_98 rfl (lv_at hl 0 rfl) ?_
          refine va_get (D := D) (ci := 8) (v := .int m_number) (C := RX8) (T := TX8) (N := 14) hx hb hts in_X8_readsNumber_X8 hown hK hP 0 rfl rfl 10 (by decide) (hts _ q_X8_readsNumber_2) (fun _ h9 => h9) rfl dX8_readsNumber_99 ?_
          refine lv_iload_n hx hb dX8_readsNumber_102 rfl (lv_at hl 2 rfl) ?_
          refine lv_iload_n hx hb dX8_readsNumber_103 rfl (lv_at hl 3 rfl) ?_
          obtain ⟨u3, hu3, h⟩ := bd_e h
          refine kx_i (mc := 0) (ms := 0) (wr := [(a_h, .inr (8, [.ref a_h_d, .long v_account, .ref a_h_was, .ref a_h_accounts, .int v_states, .int v_refused, .ref a_h_text, .int v_typed, .int m_at, .int v_sign, .int m_number, .ref a_h_aside, .ref a_h_places, .ref a_h_told])), (a_h_text, .inl (cC, 80, .inl v_text_A))]) (ws2 := [(a_h, .inr (8, [.ref a_h_d, .long v_account, .ref a_h_was, .ref a_h_accounts, .int v_states, .int v_refused, .ref a_h_text, .int v_typed, .int m_at, .int v_sign, .int m_number, .ref a_h_aside, .ref a_h_places, .ref a_h_told])), (a_h_text, .inl (cC, 80, .inl v_text_A))]) (va_runS (As := [.int m_number, .int p1, .int p2]) (rest := []) ⟨hx, hb, hml, hown, hts⟩ (k_X8_in l D cI cC cJ cB N m_number p1 p2 H.size _ hu3) (va_cwS 3 hts gX8_readsNumber_X8_in rfl rfl rfl (by decide +kernel) ⟨Nat.le_of_ble_eq_true rfl, Nat.le_of_ble_eq_true rfl⟩) (pv_S hP hD hK hN [] rfl rfl) rfl rfl hl.1 rfl (lv_room (Nat.le_of_ble_eq_true rfl)) dX8_readsNumber_104 ⟨Nat.zero_le _, Nat.zero_le _⟩) hP hD hS hA [] [0, 1] [0, 1] rfl rfl rfl rfl rfl rfl (fun H locs hP hD hS => ?_)
          refine lv_if_eq (tgt := 114) hx hb dX8_readsNumber_107 (by decide) (fun hc4 => ?_) (fun hc4 => ?_)
          · replace h := it_e hc4 h
            refine lv_iconst (v := (0 : Int32)) hx hb dX8_readsNumber_114 (by decide) ?_
            obtain rfl := sm_e h
            exact rx_z hx hb hr (nar_z (Or.inl rfl)) hP hK hD hS dX8_readsNumber_115 hlocks
          · replace h := if_e hc4 h
            refine lv_iconst (v := (1 : Int32)) hx hb dX8_readsNumber_110 (by decide) ?_
            refine lv_goto (tgt := 115) hx hb dX8_readsNumber_111 (by decide) ?_
            obtain rfl := sm_e h
            exact rx_z hx hb hr (nar_z (Or.inr rfl)) hP hK hD hS dX8_readsNumber_115 hlocks
      · replace h := if_e hc1 h
        refine lv_aload_n hx hb dX8_readsNumber_22 rfl (lv_at hl 0 rfl) ?_
        refine va_get (D := D) (ci := 8) (v := .int m_at) (C := RX8) (T := TX8) (N := 14) hx hb hts in_X8_readsNumber_X8 hown hK hP 0 rfl rfl 8 (by decide) (hts _ q_X8_readsNumber_1) (fun _ h9 => h9) rfl dX8_readsNumber_23 ?_
        refine lv_iload hx hb dX8_readsNumber_26 (lv_at hl 4 rfl) ?_
        refine lv_iload_n hx hb dX8_readsNumber_28 rfl (lv_at hl 1 rfl) ?_
        refine lv_iadd hx hb dX8_readsNumber_29 ?_
        refine lv_icmp_ge (tgt := 89) hx hb dX8_readsNumber_30 (by decide) (fun hc5 => ?_) (fun hc5 => ?_)
        · replace h := it_e hc5 h
          refine lv_aload_n hx hb dX8_readsNumber_89 rfl (lv_at hl 0 rfl) ?_
          refine va_get (D := D) (ci := 8) (v := .int m_at) (C := RX8) (T := TX8) (N := 14) hx hb hts in_X8_readsNumber_X8 hown hK hP 0 rfl rfl 8 (by decide) (hts _ q_X8_readsNumber_1) (fun _ h9 => h9) rfl dX8_readsNumber_90 ?_
          refine lv_iload hx hb dX8_readsNumber_93 (lv_at hl 4 rfl) ?_
          refine lv_icmp_le (tgt := 114) hx hb dX8_readsNumber_95 (by decide) (fun hc6 => ?_) (fun hc6 => ?_)
          · replace h := it_e hc6 h
            refine lv_iconst (v := (0 : Int32)) hx hb dX8_readsNumber_114 (by decide) ?_
            obtain rfl := sm_e h
            exact rx_z hx hb hr (nar_z (Or.inl rfl)) hP hK hD hS dX8_readsNumber_115 hlocks
          · replace h := if_e hc6 h
            refine lv_aload_n hx hb dX8_readsNumber_98 rfl (lv_at hl 0 rfl) ?_
            refine va_get (D := D) (ci := 8) (v := .int m_number) (C := RX8) (T := TX8) (N := 14) hx hb hts in_X8_readsNumber_X8 hown hK hP 0 rfl rfl 10 (by decide) (hts _ q_X8_readsNumber_2) (fun _ h9 => h9) rfl dX8_readsNumber_99 ?_
            refine lv_iload_n hx hb dX8_readsNumber_102 rfl (lv_at hl 2 rfl) ?_
            refine lv_iload_n hx hb dX8_readsNumber_103 rfl (lv_at hl 3 rfl) ?_
            obtain ⟨u7, hu7, h⟩ := bd_e h
            refine kx_i (mc := 0) (ms := 0) (wr := [(a_h, .inr (8, [.ref a_h_d, .long v_account, .ref a_h_was, .ref a_h_accounts, .int v_states, .int v_refused, .ref a_h_text, .int v_typed, .int m_at, .int v_sign, .int m_number, .ref a_h_aside, .ref a_h_places, .ref a_h_told])), (a_h_text, .inl (cC, 80, .inl v_text_A))]) (ws2 := [(a_h, .inr (8, [.ref a_h_d, .long v_account, .ref a_h_was, .ref a_h_accounts, .int v_states, .int v_refused, .ref a_h_text, .int v_typed, .int m_at, .int v_sign, .int m_number, .ref a_h_aside, .ref a_h_places, .ref a_h_told])), (a_h_text, .inl (cC, 80, .inl v_text_A))]) (va_runS (As := [.int m_number, .int p1, .int p2]) (rest := []) ⟨hx, hb, hml, hown, hts⟩ (k_X8_in l D cI cC cJ cB N m_number p1 p2 H.size _ hu7) (va_cwS 3 hts gX8_readsNumber_X8_in rfl rfl rfl (by decide +kernel) ⟨Nat.le_of_ble_eq_true rfl, Nat.le_of_ble_eq_true rfl⟩) (pv_S hP hD hK hN [] rfl rfl) rfl rfl hl.1 rfl (lv_room (Nat.le_of_ble_eq_true rfl)) dX8_readsNumber_104 ⟨Nat.zero_le _, Nat.zero_le _⟩) hP hD hS hA [] [0, 1] [0, 1] rfl rfl rfl rfl rfl rfl (fun H locs hP hD hS => ?_)
            refine lv_if_eq (tgt := 114) hx hb dX8_readsNumber_107 (by decide) (fun hc8 => ?_) (fun hc8 => ?_)
            · replace h := it_e hc8 h
              refine lv_iconst (v := (0 : Int32)) hx hb dX8_readsNumber_114 (by decide) ?_
              obtain rfl := sm_e h
              exact rx_z hx hb hr (nar_z (Or.inl rfl)) hP hK hD hS dX8_readsNumber_115 hlocks
            · replace h := if_e hc8 h
              refine lv_iconst (v := (1 : Int32)) hx hb dX8_readsNumber_110 (by decide) ?_
              refine lv_goto (tgt := 115) hx hb dX8_readsNumber_111 (by decide) ?_
              obtain rfl := sm_e h
              exact rx_z hx hb hr (nar_z (Or.inr rfl)) hP hK hD hS dX8_readsNumber_115 hlocks
        · replace h := if_e hc5 h
          refine lv_aload_n hx hb dX8_readsNumber_33 rfl (lv_at hl 0 rfl) ?_
          refine va_get (D := D) (ci := 8) (v := .ref a_h_text) (C := RX8) (T := TX8) (N := 14) hx hb hts in_X8_readsNumber_X8 hown hK hP 0 rfl rfl 6 (by decide) (hts _ q_X8_readsNumber_4) (fun _ h9 => h9) rfl dX8_readsNumber_34 ?_
          refine lv_aload_n hx hb dX8_readsNumber_37 rfl (lv_at hl 0 rfl) ?_
          refine va_get (D := D) (ci := 8) (v := .int m_at) (C := RX8) (T := TX8) (N := 14) hx hb hts in_X8_readsNumber_X8 hown hK hP 0 rfl rfl 8 (by decide) (hts _ q_X8_readsNumber_1) (fun _ h9 => h9) rfl dX8_readsNumber_38 ?_
          obtain ⟨hi9, h⟩ := gA_e h
          refine va_cald hx hb hK hP 1 1 rfl rfl hi9 dX8_readsNumber_41 ?_
          refine lv_bipush (v := (48 : Int32)) hx hb dX8_readsNumber_42 (by decide) ?_
          refine lv_bipush (v := (57 : Int32)) hx hb dX8_readsNumber_44 (by decide) ?_
          obtain ⟨u10, hu10, h⟩ := bd_e h
          refine kx_i (mc := 0) (ms := 0) (wr := [(a_h, .inr (8, [.ref a_h_d, .long v_account, .ref a_h_was, .ref a_h_accounts, .int v_states, .int v_refused, .ref a_h_text, .int v_typed, .int m_at, .int v_sign, .int m_number, .ref a_h_aside, .ref a_h_places, .ref a_h_told])), (a_h_text, .inl (cC, 80, .inl v_text_A))]) (ws2 := [(a_h, .inr (8, [.ref a_h_d, .long v_account, .ref a_h_was, .ref a_h_accounts, .int v_states, .int v_refused, .ref a_h_text, .int v_typed, .int m_at, .int v_sign, .int m_number, .ref a_h_aside, .ref a_h_places, .ref a_h_told])), (a_h_text, .inl (cC, 80, .inl v_text_A))]) (va_runS (As := [.int (v_text_A (Int32.toNatClampNeg m_at)), .int (48 : Int32), .int (57 : Int32)]) (rest := []) ⟨hx, hb, hml, hown, hts⟩ (k_X8_in l D cI cC cJ cB N (v_text_A (Int32.toNatClampNeg m_at)) (48 : Int32) (57 : Int32) H.size _ hu10) (va_cwS 3 hts gX8_readsNumber_X8_in rfl rfl rfl (by decide +kernel) ⟨Nat.le_of_ble_eq_true rfl, Nat.le_of_ble_eq_true rfl⟩) (pv_S hP hD hK hN [] rfl rfl) rfl rfl hl.1 rfl (lv_room (Nat.le_of_ble_eq_true rfl)) dX8_readsNumber_46 ⟨Nat.zero_le _, Nat.zero_le _⟩) hP hD hS hA [] [0, 1] [0, 1] rfl rfl rfl rfl rfl rfl (fun H locs hP hD hS => ?_)
          refine lv_if_eq (tgt := 89) hx hb dX8_readsNumber_49 (by decide) (fun hc11 => ?_) (fun hc11 => ?_)
          · replace h := it_e hc11 h
            refine lv_aload_n hx hb dX8_readsNumber_89 rfl (lv_at hl 0 rfl) ?_
            refine va_get (D := D) (ci := 8) (v := .int m_at) (C := RX8) (T := TX8) (N := 14) hx hb hts in_X8_readsNumber_X8 hown hK hP 0 rfl rfl 8 (by decide) (hts _ q_X8_readsNumber_1) (fun _ h9 => h9) rfl dX8_readsNumber_90 ?_
            refine lv_iload hx hb dX8_readsNumber_93 (lv_at hl 4 rfl) ?_
            refine lv_icmp_le (tgt := 114) hx hb dX8_readsNumber_95 (by decide) (fun hc12 => ?_) (fun hc12 => ?_)
            · replace h := it_e hc12 h
              refine lv_iconst (v := (0 : Int32)) hx hb dX8_readsNumber_114 (by decide) ?_
              obtain rfl := sm_e h
              exact rx_z hx hb hr (nar_z (Or.inl rfl)) hP hK hD hS dX8_readsNumber_115 hlocks
            · replace h := if_e hc12 h
              refine lv_aload_n hx hb dX8_readsNumber_98 rfl (lv_at hl 0 rfl) ?_
              refine va_get (D := D) (ci := 8) (v := .int m_number) (C := RX8) (T := TX8) (N := 14) hx hb hts in_X8_readsNumber_X8 hown hK hP 0 rfl rfl 10 (by decide) (hts _ q_X8_readsNumber_2) (fun _ h9 => h9) rfl dX8_readsNumber_99 ?_
              refine lv_iload_n hx hb dX8_readsNumber_102 rfl (lv_at hl 2 rfl) ?_
              refine lv_iload_n hx hb dX8_readsNumber_103 rfl (lv_at hl 3 rfl) ?_
              obtain ⟨u13, hu13, h⟩ := bd_e h
              refine kx_i (mc := 0) (ms := 0) (wr := [(a_h, .inr (8, [.ref a_h_d, .long v_account, .ref a_h_was, .ref a_h_accounts, .int v_states, .int v_refused, .ref a_h_text, .int v_typed, .int m_at, .int v_sign, .int m_number, .ref a_h_aside, .ref a_h_places, .ref a_h_told])), (a_h_text, .inl (cC, 80, .inl v_text_A))]) (ws2 := [(a_h, .inr (8, [.ref a_h_d, .long v_account, .ref a_h_was, .ref a_h_accounts, .int v_states, .int v_refused, .ref a_h_text, .int v_typed, .int m_at, .int v_sign, .int m_number, .ref a_h_aside, .ref a_h_places, .ref a_h_told])), (a_h_text, .inl (cC, 80, .inl v_text_A))]) (va_runS (As := [.int m_number, .int p1, .int p2]) (rest := []) ⟨hx, hb, hml, hown, hts⟩ (k_X8_in l D cI cC cJ cB N m_number p1 p2 H.size _ hu13) (va_cwS 3 hts gX8_readsNumber_X8_in rfl rfl rfl (by decide +kernel) ⟨Nat.le_of_ble_eq_true rfl, Nat.le_of_ble_eq_true rfl⟩) (pv_S hP hD hK hN [] rfl rfl) rfl rfl hl.1 rfl (lv_room (Nat.le_of_ble_eq_true rfl)) dX8_readsNumber_104 ⟨Nat.zero_le _, Nat.zero_le _⟩) hP hD hS hA [] [0, 1] [0, 1] rfl rfl rfl rfl rfl rfl (fun H locs hP hD hS => ?_)
              refine lv_if_eq (tgt := 114) hx hb dX8_readsNumber_107 (by decide) (fun hc14 => ?_) (fun hc14 => ?_)
              · replace h := it_e hc14 h
                refine lv_iconst (v := (0 : Int32)) hx hb dX8_readsNumber_114 (by decide) ?_
                obtain rfl := sm_e h
                exact rx_z hx hb hr (nar_z (Or.inl rfl)) hP hK hD hS dX8_readsNumber_115 hlocks
              · replace h := if_e hc14 h
                refine lv_iconst (v := (1 : Int32)) hx hb dX8_readsNumber_110 (by decide) ?_
                refine lv_goto (tgt := 115) hx hb dX8_readsNumber_111 (by decide) ?_
                obtain rfl := sm_e h
                exact rx_z hx hb hr (nar_z (Or.inr rfl)) hP hK hD hS dX8_readsNumber_115 hlocks
          · replace h := if_e hc11 h
            refine lv_aload_n hx hb dX8_readsNumber_52 rfl (lv_at hl 0 rfl) ?_
            refine lv_bipush (v := (10 : Int32)) hx hb dX8_readsNumber_53 (by decide) ?_
            refine lv_aload_n hx hb dX8_readsNumber_55 rfl (lv_at hl 0 rfl) ?_
            refine va_get (D := D) (ci := 8) (v := .int m_number) (C := RX8) (T := TX8) (N := 14) hx hb hts in_X8_readsNumber_X8 hown hK hP 0 rfl rfl 10 (by decide) (hts _ q_X8_readsNumber_2) (fun _ h9 => h9) rfl dX8_readsNumber_56 ?_
            refine lv_imul hx hb dX8_readsNumber_59 ?_
            refine lv_aload_n hx hb dX8_readsNumber_60 rfl (lv_at hl 0 rfl) ?_
            refine va_get (D := D) (ci := 8) (v := .ref a_h_text) (C := RX8) (T := TX8) (N := 14) hx hb hts in_X8_readsNumber_X8 hown hK hP 0 rfl rfl 6 (by decide) (hts _ q_X8_readsNumber_4) (fun _ h9 => h9) rfl dX8_readsNumber_61 ?_
            refine lv_aload_n hx hb dX8_readsNumber_64 rfl (lv_at hl 0 rfl) ?_
            refine va_get (D := D) (ci := 8) (v := .int m_at) (C := RX8) (T := TX8) (N := 14) hx hb hts in_X8_readsNumber_X8 hown hK hP 0 rfl rfl 8 (by decide) (hts _ q_X8_readsNumber_1) (fun _ h9 => h9) rfl dX8_readsNumber_65 ?_
            obtain ⟨hi15, h⟩ := gA_e h
            refine va_cald hx hb hK hP 1 1 rfl rfl hi15 dX8_readsNumber_68 ?_
            refine lv_iadd hx hb dX8_readsNumber_69 ?_
            refine lv_bipush (v := (48 : Int32)) hx hb dX8_readsNumber_70 (by decide) ?_
            refine lv_isub hx hb dX8_readsNumber_72 ?_
            refine lv_topi (fun t16 et16 => ?_)
            replace h := nm_at h et16
            refine va_put (D := D) (ci := 8) (v := .int t16) (ty := .int) (C := RX8) (T := TX8) (N := 14) hx hb hts in_X8_readsNumber_X8 tyX8 tyX8_ok nmX8 hown hK hP hD hS 0 rfl rfl 10 (by decide) (hts _ q_X8_readsNumber_2) (fun _ h9 => h9) rfl (by decide +kernel) rfl rfl (Nat.le_of_ble_eq_true rfl) dX8_readsNumber_73 (fun H locs hP hD hS => ?_)
            have hP : va_P D vwCl [(a_h, .inr (8, [.ref a_h_d, .long v_account, .ref a_h_was, .ref a_h_accounts, .int v_states, .int v_refused, .ref a_h_text, .int v_typed, .int m_at, .int v_sign, .int t16, .ref a_h_aside, .ref a_h_places, .ref a_h_told])), (a_h_text, .inl (cC, 80, .inl v_text_A))] H := hP
            have hD : va_D A [(a_h, .inr (8, [.ref a_h_d, .long v_account, .ref a_h_was, .ref a_h_accounts, .int v_states, .int v_refused, .ref a_h_text, .int v_typed, .int m_at, .int v_sign, .int t16, .ref a_h_aside, .ref a_h_places, .ref a_h_told])), (a_h_text, .inl (cC, 80, .inl v_text_A))] := hD
            refine lv_aload_n hx hb dX8_readsNumber_76 rfl (lv_at hl 0 rfl) ?_
            refine lv_dup hx hb dX8_readsNumber_77 rfl ?_
            refine va_get (D := D) (ci := 8) (v := .int m_at) (C := RX8) (T := TX8) (N := 14) hx hb hts in_X8_readsNumber_X8 hown hK hP 0 rfl rfl 8 (by decide) (hts _ q_X8_readsNumber_1) (fun _ h9 => h9) rfl dX8_readsNumber_78 ?_
            refine lv_iconst (v := (1 : Int32)) hx hb dX8_readsNumber_81 (by decide) ?_
            refine lv_iadd hx hb dX8_readsNumber_82 ?_
            refine lv_topi (fun t17 et17 => ?_)
            replace h := nm_at h et17
            refine va_put (D := D) (ci := 8) (v := .int t17) (ty := .int) (C := RX8) (T := TX8) (N := 14) hx hb hts in_X8_readsNumber_X8 tyX8 tyX8_ok nmX8 hown hK hP hD hS 0 rfl rfl 8 (by decide) (hts _ q_X8_readsNumber_1) (fun _ h9 => h9) rfl (by decide +kernel) rfl rfl (Nat.le_of_ble_eq_true rfl) dX8_readsNumber_83 (fun H locs hP hD hS => ?_)
            have hP : va_P D vwCl [(a_h, .inr (8, [.ref a_h_d, .long v_account, .ref a_h_was, .ref a_h_accounts, .int v_states, .int v_refused, .ref a_h_text, .int v_typed, .int t17, .int v_sign, .int t16, .ref a_h_aside, .ref a_h_places, .ref a_h_told])), (a_h_text, .inl (cC, 80, .inl v_text_A))] H := hP
            have hD : va_D A [(a_h, .inr (8, [.ref a_h_d, .long v_account, .ref a_h_was, .ref a_h_accounts, .int v_states, .int v_refused, .ref a_h_text, .int v_typed, .int t17, .int v_sign, .int t16, .ref a_h_aside, .ref a_h_places, .ref a_h_told])), (a_h_text, .inl (cC, 80, .inl v_text_A))] := hD
            refine lv_goto (tgt := 11) hx hb dX8_readsNumber_86 (by decide) ?_
            exact ih x4 t17 t16 _ _ _ h hP hD hS hl
  refine lv_aload_n hx hb dX8_readsNumber_0 rfl (lv_at hl 0 rfl) ?_
  refine va_get (D := D) (ci := 8) (v := .int v_at) (C := RX8) (T := TX8) (N := 14) hx hb hts in_X8_readsNumber_X8 hown hK hP 0 rfl rfl 8 (by decide) (hts _ q_X8_readsNumber_1) (fun _ h9 => h9) rfl dX8_readsNumber_1 ?_
  refine lv_istore (lv' := [(4, .int v_at), (0, .ref a_h), (1, .int p0), (2, .int p1), (3, .int p2)]) hx hb dX8_readsNumber_4 hl (by decide) rfl (fun ls hl => ?_)
  refine lv_aload_n hx hb dX8_readsNumber_6 rfl (lv_at hl 1 rfl) ?_
  refine lv_iconst (v := (0 : Int32)) hx hb dX8_readsNumber_7 (by decide) ?_
  refine va_put (D := D) (ci := 8) (v := .int (0 : Int32)) (ty := .int) (C := RX8) (T := TX8) (N := 14) hx hb hts in_X8_readsNumber_X8 tyX8 tyX8_ok nmX8 hown hK hP hD hS 0 rfl rfl 10 (by decide) (hts _ q_X8_readsNumber_2) (fun _ h9 => h9) rfl (by decide +kernel) rfl rfl (Nat.le_of_ble_eq_true rfl) dX8_readsNumber_8 (fun H locs hP hD hS => ?_)
  have hP : va_P D vwCl [(a_h, .inr (8, [.ref a_h_d, .long v_account, .ref a_h_was, .ref a_h_accounts, .int v_states, .int v_refused, .ref a_h_text, .int v_typed, .int v_at, .int v_sign, .int (0 : Int32), .ref a_h_aside, .ref a_h_places, .ref a_h_told])), (a_h_text, .inl (cC, 80, .inl v_text_A))] H := hP
  have hD : va_D A [(a_h, .inr (8, [.ref a_h_d, .long v_account, .ref a_h_was, .ref a_h_accounts, .int v_states, .int v_refused, .ref a_h_text, .int v_typed, .int v_at, .int v_sign, .int (0 : Int32), .ref a_h_aside, .ref a_h_places, .ref a_h_told])), (a_h_text, .inl (cC, 80, .inl v_text_A))] := hD
  exact B11 N v_at v_at (0 : Int32) _ _ _ h hP hD hS (lv_sub hl [1, 2, 3, 4, 0] rfl)
-- X8_readsMove
def f_X8_readsMove_b131 (v_typed : Int32) (v_text_A : Nat → Int32) (s0 : Int32) (m_at : Int32) (m_sign : Int32) (m_number : Int32) : Option (Int32 × Int32 × Int32 × Int32) :=
  (if v_typed ≤ (m_at + (1 : Int32)) then (if (0 : Int32) = 0 then nm (m_at + (0 : Int32)) (fun t9 => (if ¬ s0 = 0 then some ((1 : Int32), t9, m_sign, m_number)
    else (if (0 : Int32) = 0 then some ((0 : Int32), t9, m_sign, m_number)
    else some ((1 : Int32), t9, m_sign, m_number))))
    else nm (m_at + (1 : Int32)) (fun t12 => (if ¬ s0 = 0 then some ((1 : Int32), t12, m_sign, m_number)
    else (if (0 : Int32) = 0 then some ((0 : Int32), t12, m_sign, m_number)
    else some ((1 : Int32), t12, m_sign, m_number)))))
    else gA m_at 80 ((if ¬ (v_text_A (Int32.toNatClampNeg m_at)) = (59 : Int32) then (if (0 : Int32) = 0 then nm (m_at + (0 : Int32)) (fun t18 => (if ¬ s0 = 0 then some ((1 : Int32), t18, m_sign, m_number)
    else (if (0 : Int32) = 0 then some ((0 : Int32), t18, m_sign, m_number)
    else some ((1 : Int32), t18, m_sign, m_number))))
    else nm (m_at + (1 : Int32)) (fun t21 => (if ¬ s0 = 0 then some ((1 : Int32), t21, m_sign, m_number)
    else (if (0 : Int32) = 0 then some ((0 : Int32), t21, m_sign, m_number)
    else some ((1 : Int32), t21, m_sign, m_number)))))
    else (if (1 : Int32) = 0 then nm (m_at + (0 : Int32)) (fun t25 => (if ¬ s0 = 0 then some ((1 : Int32), t25, m_sign, m_number)
    else (if (1 : Int32) = 0 then some ((0 : Int32), t25, m_sign, m_number)
    else some ((1 : Int32), t25, m_sign, m_number))))
    else nm (m_at + (1 : Int32)) (fun t28 => (if ¬ s0 = 0 then some ((1 : Int32), t28, m_sign, m_number)
    else (if (1 : Int32) = 0 then some ((0 : Int32), t28, m_sign, m_number)
    else some ((1 : Int32), t28, m_sign, m_number))))))))
def f_X8_readsMove_b108 (v_typed : Int32) (v_text_A : Nat → Int32) (s0 : Int32) (m_at : Int32) (m_sign : Int32) (m_number : Int32) : Option (Int32 × Int32 × Int32 × Int32) :=
  (if ¬ s0 = 0 then (if ¬ m_at = v_typed then (f_X8_readsMove_b131 v_typed v_text_A (0 : Int32) m_at m_sign m_number )
    else (f_X8_readsMove_b131 v_typed v_text_A (1 : Int32) m_at m_sign m_number ))
    else some ((0 : Int32), m_at, m_sign, m_number))
def f_X8_readsMove_b103 (v_typed : Int32) (v_text_A : Nat → Int32) (m_at : Int32) (m_sign : Int32) (m_number : Int32) : Option (Int32 × Int32 × Int32 × Int32) :=
  (f_X8_readsMove_b108 v_typed v_text_A (1 : Int32) m_at m_sign m_number )
def f_X8_readsMove_b107 (v_typed : Int32) (v_text_A : Nat → Int32) (m_at : Int32) (m_sign : Int32) (m_number : Int32) : Option (Int32 × Int32 × Int32 × Int32) :=
  (f_X8_readsMove_b108 v_typed v_text_A (0 : Int32) m_at m_sign m_number )
def f_X8_readsMove_b82 (N : Nat) (v_typed : Int32) (v_text_A : Nat → Int32) (m_at : Int32) (m_sign : Int32) (m_number : Int32) : Option (Int32 × Int32 × Int32 × Int32) :=
  (if ¬ m_sign = (104 : Int32) then (f_X8_readsMove_b107 v_typed v_text_A m_at m_sign m_number )
    else Option.bind (f_X8_readsNumber N v_typed m_at v_text_A (3 : Int32) (1 : Int32) (200 : Int32)) (fun u36 => (if u36.1 = 0 then (f_X8_readsMove_b107 v_typed v_text_A u36.2.1 m_sign u36.2.2 )
    else (f_X8_readsMove_b103 v_typed v_text_A u36.2.1 m_sign u36.2.2 ))))
def f_X8_readsMove_b61 (N : Nat) (v_typed : Int32) (v_text_A : Nat → Int32) (m_at : Int32) (m_sign : Int32) (m_number : Int32) : Option (Int32 × Int32 × Int32 × Int32) :=
  (if ¬ m_sign = (61 : Int32) then (f_X8_readsMove_b82 N v_typed v_text_A m_at m_sign m_number )
    else Option.bind (f_X8_readsNumber N v_typed m_at v_text_A (4 : Int32) (0 : Int32) (1000 : Int32)) (fun u38 => (if ¬ u38.1 = 0 then (f_X8_readsMove_b103 v_typed v_text_A u38.2.1 m_sign u38.2.2 )
    else (f_X8_readsMove_b82 N v_typed v_text_A u38.2.1 m_sign u38.2.2 ))))
def f_X8_readsMove_b50 (N : Nat) (v_typed : Int32) (v_text_A : Nat → Int32) (m_at : Int32) (m_sign : Int32) : Option (Int32 × Int32 × Int32 × Int32) :=
  Option.bind (f_X8_readsNumber N v_typed m_at v_text_A (1 : Int32) (0 : Int32) (9 : Int32)) (fun u32 => (if ¬ u32.1 = 0 then (f_X8_readsMove_b103 v_typed v_text_A u32.2.1 m_sign u32.2.2 )
    else (f_X8_readsMove_b61 N v_typed v_text_A u32.2.1 m_sign u32.2.2 )))
def f_X8_readsMove (N : Nat) (v_typed : Int32) (v_at : Int32) (v_number : Int32) (v_text_A : Nat → Int32) : Option (Int32 × Int32 × Int32 × Int32) :=
  gA v_at 80 (nm (v_text_A (Int32.toNatClampNeg v_at)) (fun t2 => nm (v_at + (1 : Int32)) (fun t3 => (if t2 = (122 : Int32) then (f_X8_readsMove_b103 v_typed v_text_A t3 t2 v_number )
    else (if t2 = (43 : Int32) then (f_X8_readsMove_b50 N v_typed v_text_A t3 t2 )
    else (if ¬ t2 = (45 : Int32) then (f_X8_readsMove_b61 N v_typed v_text_A t3 t2 v_number )
    else (f_X8_readsMove_b50 N v_typed v_text_A t3 t2 )))))))
theorem q_X8_readsMove_1 : (.fieldLink RX8 20 "SpringBalanceModel" "text" "[C" : Cond) ∈ wsX8_readsMove := List.mem_of_getElem? (i := 1) (by decide +kernel)
set_option maxRecDepth 20000 in
theorem in_X8_readsMove_X8 : ∀ w ∈ u_ws RX8 TX8 14, w ∈ wsX8_readsMove := by decide +kernel
theorem q_X8_readsMove_2 : (.fieldLink RX8 142 "SpringBalanceModel" "at" "I" : Cond) ∈ wsX8_readsMove := List.mem_of_getElem? (i := 2) (by decide +kernel)
theorem q_X8_readsMove_3 : (.fieldLink RX8 148 "SpringBalanceModel" "sign" "I" : Cond) ∈ wsX8_readsMove := List.mem_of_getElem? (i := 3) (by decide +kernel)
theorem q_X8_readsMove_4 : (.fieldLink RX8 93 "SpringBalanceModel" "typed" "I" : Cond) ∈ wsX8_readsMove := List.mem_of_getElem? (i := 4) (by decide +kernel)
set_option maxHeartbeats 8000000 in
set_option maxRecDepth 100000 in
theorem k_X8_readsMove (l : Launch) (D : va_G) (cI cC cJ cB : ClassId) (a_h a_h_d a_h_was a_h_accounts a_h_text a_h_aside a_h_places a_h_told : Nat) (v_account : Int64) (v_states : Int32) (v_refused : Int32) (v_typed : Int32) (v_at : Int32) (v_sign : Int32) (v_number : Int32) (v_text_A : Nat → Int32) (N : Nat) (sz : Nat) (u : Int32 × Int32 × Int32 × Int32) (hu : f_X8_readsMove N v_typed v_at v_number v_text_A = some u) :
    Met l yX8_readsMove wsX8_readsMove ({ frames := 2, cells := 0, slots := 0, locals := 46 } : Room) (va_Pc [.ref a_h] (PreW D (ty4 cI cC cJ cB) sz [(a_h, .inr (8, [.ref a_h_d, .long v_account, .ref a_h_was, .ref a_h_accounts, .int v_states, .int v_refused, .ref a_h_text, .int v_typed, .int v_at, .int v_sign, .int v_number, .ref a_h_aside, .ref a_h_places, .ref a_h_told])), (a_h_text, .inl (cC, 80, .inl v_text_A))]))
      (QI D (ty4 cI cC cJ cB) (va_A [(a_h, .inr (8, [.ref a_h_d, .long v_account, .ref a_h_was, .ref a_h_accounts, .int v_states, .int v_refused, .ref a_h_text, .int v_typed, .int v_at, .int v_sign, .int v_number, .ref a_h_aside, .ref a_h_places, .ref a_h_told])), (a_h_text, .inl (cC, 80, .inl v_text_A))] sz) [(a_h, .inr (8, [.ref a_h_d, .long v_account, .ref a_h_was, .ref a_h_accounts, .int v_states, .int v_refused, .ref a_h_text, .int v_typed, .int u.2.1, .int u.2.2.1, .int u.2.2.2, .ref a_h_aside, .ref a_h_places, .ref a_h_told])), (a_h_text, .inl (cC, 80, .inl v_text_A))] u.1) 0 0 (va_A [(a_h, .inr (8, [.ref a_h_d, .long v_account, .ref a_h_was, .ref a_h_accounts, .int v_states, .int v_refused, .ref a_h_text, .int v_typed, .int v_at, .int v_sign, .int v_number, .ref a_h_aside, .ref a_h_places, .ref a_h_told])), (a_h_text, .inl (cC, 80, .inl v_text_A))] sz) := by
  refine met_go (y := yX8_readsMove) (wsy := wsX8_readsMove) (cc := cX8_readsMove) (maxL := 4) (ret := (some .boolean)) (av := [.ref a_h]) (Qc := fun A => QI D (ty4 cI cC cJ cB) A [(a_h, .inr (8, [.ref a_h_d, .long v_account, .ref a_h_was, .ref a_h_accounts, .int v_states, .int v_refused, .ref a_h_text, .int v_typed, .int u.2.1, .int u.2.2.1, .int u.2.2.2, .ref a_h_aside, .ref a_h_places, .ref a_h_told])), (a_h_text, .inl (cC, 80, .inl v_text_A))] u.1) (by decide) rfl (Nat.le_of_ble_eq_true rfl) ?_
  intro p e s m below meth c A ls hx hb hr hml hown hts hlocks hnm hN hK hP hD hS hA hl
  have h := hu
  clear hu
  unfold f_X8_readsMove at h
  have hl : lv_has ls 4 [(0, .ref a_h)] := hl
  have B131 : ∀ (x1 : Int32) (s0 : Int32) (m_at : Int32) (m_sign : Int32) (m_number : Int32) (H : Heap) (locs : List Loc) (ls : Array Slot), f_X8_readsMove_b131 v_typed v_text_A s0 m_at m_sign m_number  = some u → va_P D vwCl [(a_h, .inr (8, [.ref a_h_d, .long v_account, .ref a_h_was, .ref a_h_accounts, .int v_states, .int v_refused, .ref a_h_text, .int v_typed, .int m_at, .int m_sign, .int m_number, .ref a_h_aside, .ref a_h_places, .ref a_h_told])), (a_h_text, .inl (cC, 80, .inl v_text_A))] H → va_D A [(a_h, .inr (8, [.ref a_h_d, .long v_account, .ref a_h_was, .ref a_h_accounts, .int v_states, .int v_refused, .ref a_h_text, .int v_typed, .int m_at, .int m_sign, .int m_number, .ref a_h_aside, .ref a_h_places, .ref a_h_told])), (a_h_text, .inl (cC, 80, .inl v_text_A))] → va_S A s.heap H locs → lv_has ls 4 [(0, .ref a_h), (1, .int x1)] → W p l e ({ frames := 2, cells := 0, slots := 0, locals := 46 } : Room) s m ([.ref a_h] : List Value).toArray below meth c H locs 0 0 (MQ below (QI D (ty4 cI cC cJ cB) A [(a_h, .inr (8, [.ref a_h_d, .long v_account, .ref a_h_was, .ref a_h_accounts, .int v_states, .int v_refused, .ref a_h_text, .int v_typed, .int u.2.1, .int u.2.2.1, .int u.2.2.2, .ref a_h_aside, .ref a_h_places, .ref a_h_told])), (a_h_text, .inl (cC, 80, .inl v_text_A))] u.1) ([.ref a_h] : List Value).toArray s 0 0 A) (F0 m 131 ls [.int s0]) := by
    intro x1 s0 m_at m_sign m_number H locs ls h hP hD hS hl
    unfold f_X8_readsMove_b131 at h
    refine lv_istore_n (lv' := [(2, .int s0), (0, .ref a_h), (1, .int x1)]) hx hb dX8_readsMove_131 rfl hl (by decide) rfl (fun ls hl => ?_)
    refine lv_aload_n hx hb dX8_readsMove_132 rfl (lv_at hl 1 rfl) ?_
    refine va_get (D := D) (ci := 8) (v := .int m_at) (C := RX8) (T := TX8) (N := 14) hx hb hts in_X8_readsMove_X8 hown hK hP 0 rfl rfl 8 (by decide) (hts _ q_X8_readsMove_2) (fun _ h9 => h9) rfl dX8_readsMove_133 ?_
    refine lv_iconst (v := (1 : Int32)) hx hb dX8_readsMove_136 (by decide) ?_
    refine lv_iadd hx hb dX8_readsMove_137 ?_
    refine lv_aload_n hx hb dX8_readsMove_138 rfl (lv_at hl 1 rfl) ?_
    refine va_get (D := D) (ci := 8) (v := .int v_typed) (C := RX8) (T := TX8) (N := 14) hx hb hts in_X8_readsMove_X8 hown hK hP 0 rfl rfl 7 (by decide) (hts _ q_X8_readsMove_4) (fun _ h9 => h9) rfl dX8_readsMove_139 ?_
    refine lv_icmp_ge (tgt := 163) hx hb dX8_readsMove_142 (by decide) (fun hc7 => ?_) (fun hc7 => ?_)
    · replace h := it_e hc7 h
      refine lv_iconst (v := (0 : Int32)) hx hb dX8_readsMove_163 (by decide) ?_
      refine lv_istore_n (lv' := [(3, .int (0 : Int32)), (2, .int s0), (0, .ref a_h), (1, .int x1)]) hx hb dX8_readsMove_164 rfl hl (by decide) rfl (fun ls hl => ?_)
      refine lv_aload_n hx hb dX8_readsMove_165 rfl (lv_at hl 2 rfl) ?_
      refine lv_dup hx hb dX8_readsMove_166 rfl ?_
      refine va_get (D := D) (ci := 8) (v := .int m_at) (C := RX8) (T := TX8) (N := 14) hx hb hts in_X8_readsMove_X8 hown hK hP 0 rfl rfl 8 (by decide) (hts _ q_X8_readsMove_2) (fun _ h9 => h9) rfl dX8_readsMove_167 ?_
      refine lv_iload_n hx hb dX8_readsMove_170 rfl (lv_at hl 0 rfl) ?_
      refine lv_if_eq (tgt := 178) hx hb dX8_readsMove_171 (by decide) (fun hc8 => ?_) (fun hc8 => ?_)
      · replace h := it_e hc8 h
        refine lv_iconst (v := (0 : Int32)) hx hb dX8_readsMove_178 (by decide) ?_
        refine lv_iadd hx hb dX8_readsMove_179 ?_
        refine lv_topi (fun t9 et9 => ?_)
        replace h := nm_at h et9
        refine va_put (D := D) (ci := 8) (v := .int t9) (ty := .int) (C := RX8) (T := TX8) (N := 14) hx hb hts in_X8_readsMove_X8 tyX8 tyX8_ok nmX8 hown hK hP hD hS 0 rfl rfl 8 (by decide) (hts _ q_X8_readsMove_2) (fun _ h9 => h9) rfl (by decide +kernel) rfl rfl (Nat.le_of_ble_eq_true rfl) dX8_readsMove_180 (fun H locs hP hD hS => ?_)
        have hP : va_P D vwCl [(a_h, .inr (8, [.ref a_h_d, .long v_account, .ref a_h_was, .ref a_h_accounts, .int v_states, .int v_refused, .ref a_h_text, .int v_typed, .int t9, .int m_sign, .int m_number, .ref a_h_aside, .ref a_h_places, .ref a_h_told])), (a_h_text, .inl (cC, 80, .inl v_text_A))] H := hP
        have hD : va_D A [(a_h, .inr (8, [.ref a_h_d, .long v_account, .ref a_h_was, .ref a_h_accounts, .int v_states, .int v_refused, .ref a_h_text, .int v_typed, .int t9, .int m_sign, .int m_number, .ref a_h_aside, .ref a_h_places, .ref a_h_told])), (a_h_text, .inl (cC, 80, .inl v_text_A))] := hD
        refine lv_iload_n hx hb dX8_readsMove_183 rfl (lv_at hl 1 rfl) ?_
        refine lv_if_ne (tgt := 191) hx hb dX8_readsMove_184 (by decide) (fun hc10 => ?_) (fun hc10 => ?_)
        · replace h := it_e hc10 h
          refine lv_iconst (v := (1 : Int32)) hx hb dX8_readsMove_191 (by decide) ?_
          refine lv_goto (tgt := 196) hx hb dX8_readsMove_192 (by decide) ?_
          obtain rfl := sm_e h
          exact rx_z hx hb hr (nar_z (Or.inr rfl)) hP hK hD hS dX8_readsMove_196 hlocks
        · replace h := in_e hc10 h
          refine lv_iload_n hx hb dX8_readsMove_187 rfl (lv_at hl 0 rfl) ?_
          refine lv_if_eq (tgt := 195) hx hb dX8_readsMove_188 (by decide) (fun hc11 => ?_) (fun hc11 => ?_)
          · replace h := it_e hc11 h
            refine lv_iconst (v := (0 : Int32)) hx hb dX8_readsMove_195 (by decide) ?_
            obtain rfl := sm_e h
            exact rx_z hx hb hr (nar_z (Or.inl rfl)) hP hK hD hS dX8_readsMove_196 hlocks
          · replace h := if_e hc11 h
            refine lv_iconst (v := (1 : Int32)) hx hb dX8_readsMove_191 (by decide) ?_
            refine lv_goto (tgt := 196) hx hb dX8_readsMove_192 (by decide) ?_
            obtain rfl := sm_e h
            exact rx_z hx hb hr (nar_z (Or.inr rfl)) hP hK hD hS dX8_readsMove_196 hlocks
      · replace h := if_e hc8 h
        refine lv_iconst (v := (1 : Int32)) hx hb dX8_readsMove_174 (by decide) ?_
        refine lv_goto (tgt := 179) hx hb dX8_readsMove_175 (by decide) ?_
        refine lv_iadd hx hb dX8_readsMove_179 ?_
        refine lv_topi (fun t12 et12 => ?_)
        replace h := nm_at h et12
        refine va_put (D := D) (ci := 8) (v := .int t12) (ty := .int) (C := RX8) (T := TX8) (N := 14) hx hb hts in_X8_readsMove_X8 tyX8 tyX8_ok nmX8 hown hK hP hD hS 0 rfl rfl 8 (by decide) (hts _ q_X8_readsMove_2) (fun _ h9 => h9) rfl (by decide +kernel) rfl rfl (Nat.le_of_ble_eq_true rfl) dX8_readsMove_180 (fun H locs hP hD hS => ?_)
        have hP : va_P D vwCl [(a_h, .inr (8, [.ref a_h_d, .long v_account, .ref a_h_was, .ref a_h_accounts, .int v_states, .int v_refused, .ref a_h_text, .int v_typed, .int t12, .int m_sign, .int m_number, .ref a_h_aside, .ref a_h_places, .ref a_h_told])), (a_h_text, .inl (cC, 80, .inl v_text_A))] H := hP
        have hD : va_D A [(a_h, .inr (8, [.ref a_h_d, .long v_account, .ref a_h_was, .ref a_h_accounts, .int v_states, .int v_refused, .ref a_h_text, .int v_typed, .int t12, .int m_sign, .int m_number, .ref a_h_aside, .ref a_h_places, .ref a_h_told])), (a_h_text, .inl (cC, 80, .inl v_text_A))] := hD
        refine lv_iload_n hx hb dX8_readsMove_183 rfl (lv_at hl 1 rfl) ?_
        refine lv_if_ne (tgt := 191) hx hb dX8_readsMove_184 (by decide) (fun hc13 => ?_) (fun hc13 => ?_)
        · replace h := it_e hc13 h
          refine lv_iconst (v := (1 : Int32)) hx hb dX8_readsMove_191 (by decide) ?_
          refine lv_goto (tgt := 196) hx hb dX8_readsMove_192 (by decide) ?_
          obtain rfl := sm_e h
          exact rx_z hx hb hr (nar_z (Or.inr rfl)) hP hK hD hS dX8_readsMove_196 hlocks
        · replace h := in_e hc13 h
          refine lv_iload_n hx hb dX8_readsMove_187 rfl (lv_at hl 0 rfl) ?_
          refine lv_if_eq (tgt := 195) hx hb dX8_readsMove_188 (by decide) (fun hc14 => ?_) (fun hc14 => ?_)
          · replace h := it_e hc14 h
            refine lv_iconst (v := (0 : Int32)) hx hb dX8_readsMove_195 (by decide) ?_
            obtain rfl := sm_e h
            exact rx_z hx hb hr (nar_z (Or.inl rfl)) hP hK hD hS dX8_readsMove_196 hlocks
          · replace h := if_e hc14 h
            refine lv_iconst (v := (1 : Int32)) hx hb dX8_readsMove_191 (by decide) ?_
            refine lv_goto (tgt := 196) hx hb dX8_readsMove_192 (by decide) ?_
            obtain rfl := sm_e h
            exact rx_z hx hb hr (nar_z (Or.inr rfl)) hP hK hD hS dX8_readsMove_196 hlocks
    · replace h := if_e hc7 h
      refine lv_aload_n hx hb dX8_readsMove_145 rfl (lv_at hl 1 rfl) ?_
      refine va_get (D := D) (ci := 8) (v := .ref a_h_text) (C := RX8) (T := TX8) (N := 14) hx hb hts in_X8_readsMove_X8 hown hK hP 0 rfl rfl 6 (by decide) (hts _ q_X8_readsMove_1) (fun _ h9 => h9) rfl dX8_readsMove_146 ?_
      refine lv_aload_n hx hb dX8_readsMove_149 rfl (lv_at hl 1 rfl) ?_
      refine va_get (D := D) (ci := 8) (v := .int m_at) (C := RX8) (T := TX8) (N := 14) hx hb hts in_X8_readsMove_X8 hown hK hP 0 rfl rfl 8 (by decide) (hts _ q_X8_readsMove_2) (fun _ h9 => h9) rfl dX8_readsMove_150 ?_
      obtain ⟨hi15, h⟩ := gA_e h
      refine va_cald hx hb hK hP 1 1 rfl rfl hi15 dX8_readsMove_153 ?_
      refine lv_bipush (v := (59 : Int32)) hx hb dX8_readsMove_154 (by decide) ?_
      refine lv_icmp_ne (tgt := 163) hx hb dX8_readsMove_156 (by decide) (fun hc16 => ?_) (fun hc16 => ?_)
      · replace h := it_e hc16 h
        refine lv_iconst (v := (0 : Int32)) hx hb dX8_readsMove_163 (by decide) ?_
        refine lv_istore_n (lv' := [(3, .int (0 : Int32)), (2, .int s0), (0, .ref a_h), (1, .int x1)]) hx hb dX8_readsMove_164 rfl hl (by decide) rfl (fun ls hl => ?_)
        refine lv_aload_n hx hb dX8_readsMove_165 rfl (lv_at hl 2 rfl) ?_
        refine lv_dup hx hb dX8_readsMove_166 rfl ?_
        refine va_get (D := D) (ci := 8) (v := .int m_at) (C := RX8) (T := TX8) (N := 14) hx hb hts in_X8_readsMove_X8 hown hK hP 0 rfl rfl 8 (by decide) (hts _ q_X8_readsMove_2) (fun _ h9 => h9) rfl dX8_readsMove_167 ?_
        refine lv_iload_n hx hb dX8_readsMove_170 rfl (lv_at hl 0 rfl) ?_
        refine lv_if_eq (tgt := 178) hx hb dX8_readsMove_171 (by decide) (fun hc17 => ?_) (fun hc17 => ?_)
        · replace h := it_e hc17 h
          refine lv_iconst (v := (0 : Int32)) hx hb dX8_readsMove_178 (by decide) ?_
          refine lv_iadd hx hb dX8_readsMove_179 ?_
          refine lv_topi (fun t18 et18 => ?_)
          replace h := nm_at h et18
          refine va_put (D := D) (ci := 8) (v := .int t18) (ty := .int) (C := RX8) (T := TX8) (N := 14) hx hb hts in_X8_readsMove_X8 tyX8 tyX8_ok nmX8 hown hK hP hD hS 0 rfl rfl 8 (by decide) (hts _ q_X8_readsMove_2) (fun _ h9 => h9) rfl (by decide +kernel) rfl rfl (Nat.le_of_ble_eq_true rfl) dX8_readsMove_180 (fun H locs hP hD hS => ?_)
          have hP : va_P D vwCl [(a_h, .inr (8, [.ref a_h_d, .long v_account, .ref a_h_was, .ref a_h_accounts, .int v_states, .int v_refused, .ref a_h_text, .int v_typed, .int t18, .int m_sign, .int m_number, .ref a_h_aside, .ref a_h_places, .ref a_h_told])), (a_h_text, .inl (cC, 80, .inl v_text_A))] H := hP
          have hD : va_D A [(a_h, .inr (8, [.ref a_h_d, .long v_account, .ref a_h_was, .ref a_h_accounts, .int v_states, .int v_refused, .ref a_h_text, .int v_typed, .int t18, .int m_sign, .int m_number, .ref a_h_aside, .ref a_h_places, .ref a_h_told])), (a_h_text, .inl (cC, 80, .inl v_text_A))] := hD
          refine lv_iload_n hx hb dX8_readsMove_183 rfl (lv_at hl 1 rfl) ?_
          refine lv_if_ne (tgt := 191) hx hb dX8_readsMove_184 (by decide) (fun hc19 => ?_) (fun hc19 => ?_)
          · replace h := it_e hc19 h
            refine lv_iconst (v := (1 : Int32)) hx hb dX8_readsMove_191 (by decide) ?_
            refine lv_goto (tgt := 196) hx hb dX8_readsMove_192 (by decide) ?_
            obtain rfl := sm_e h
            exact rx_z hx hb hr (nar_z (Or.inr rfl)) hP hK hD hS dX8_readsMove_196 hlocks
          · replace h := in_e hc19 h
            refine lv_iload_n hx hb dX8_readsMove_187 rfl (lv_at hl 0 rfl) ?_
            refine lv_if_eq (tgt := 195) hx hb dX8_readsMove_188 (by decide) (fun hc20 => ?_) (fun hc20 => ?_)
            · replace h := it_e hc20 h
              refine lv_iconst (v := (0 : Int32)) hx hb dX8_readsMove_195 (by decide) ?_
              obtain rfl := sm_e h
              exact rx_z hx hb hr (nar_z (Or.inl rfl)) hP hK hD hS dX8_readsMove_196 hlocks
            · replace h := if_e hc20 h
              refine lv_iconst (v := (1 : Int32)) hx hb dX8_readsMove_191 (by decide) ?_
              refine lv_goto (tgt := 196) hx hb dX8_readsMove_192 (by decide) ?_
              obtain rfl := sm_e h
              exact rx_z hx hb hr (nar_z (Or.inr rfl)) hP hK hD hS dX8_readsMove_196 hlocks
        · replace h := if_e hc17 h
          refine lv_iconst (v := (1 : Int32)) hx hb dX8_readsMove_174 (by decide) ?_
          refine lv_goto (tgt := 179) hx hb dX8_readsMove_175 (by decide) ?_
          refine lv_iadd hx hb dX8_readsMove_179 ?_
          refine lv_topi (fun t21 et21 => ?_)
          replace h := nm_at h et21
          refine va_put (D := D) (ci := 8) (v := .int t21) (ty := .int) (C := RX8) (T := TX8) (N := 14) hx hb hts in_X8_readsMove_X8 tyX8 tyX8_ok nmX8 hown hK hP hD hS 0 rfl rfl 8 (by decide) (hts _ q_X8_readsMove_2) (fun _ h9 => h9) rfl (by decide +kernel) rfl rfl (Nat.le_of_ble_eq_true rfl) dX8_readsMove_180 (fun H locs hP hD hS => ?_)
          have hP : va_P D vwCl [(a_h, .inr (8, [.ref a_h_d, .long v_account, .ref a_h_was, .ref a_h_accounts, .int v_states, .int v_refused, .ref a_h_text, .int v_typed, .int t21, .int m_sign, .int m_number, .ref a_h_aside, .ref a_h_places, .ref a_h_told])), (a_h_text, .inl (cC, 80, .inl v_text_A))] H := hP
          have hD : va_D A [(a_h, .inr (8, [.ref a_h_d, .long v_account, .ref a_h_was, .ref a_h_accounts, .int v_states, .int v_refused, .ref a_h_text, .int v_typed, .int t21, .int m_sign, .int m_number, .ref a_h_aside, .ref a_h_places, .ref a_h_told])), (a_h_text, .inl (cC, 80, .inl v_text_A))] := hD
          refine lv_iload_n hx hb dX8_readsMove_183 rfl (lv_at hl 1 rfl) ?_
          refine lv_if_ne (tgt := 191) hx hb dX8_readsMove_184 (by decide) (fun hc22 => ?_) (fun hc22 => ?_)
          · replace h := it_e hc22 h
            refine lv_iconst (v := (1 : Int32)) hx hb dX8_readsMove_191 (by decide) ?_
            refine lv_goto (tgt := 196) hx hb dX8_readsMove_192 (by decide) ?_
            obtain rfl := sm_e h
            exact rx_z hx hb hr (nar_z (Or.inr rfl)) hP hK hD hS dX8_readsMove_196 hlocks
          · replace h := in_e hc22 h
            refine lv_iload_n hx hb dX8_readsMove_187 rfl (lv_at hl 0 rfl) ?_
            refine lv_if_eq (tgt := 195) hx hb dX8_readsMove_188 (by decide) (fun hc23 => ?_) (fun hc23 => ?_)
            · replace h := it_e hc23 h
              refine lv_iconst (v := (0 : Int32)) hx hb dX8_readsMove_195 (by decide) ?_
              obtain rfl := sm_e h
              exact rx_z hx hb hr (nar_z (Or.inl rfl)) hP hK hD hS dX8_readsMove_196 hlocks
            · replace h := if_e hc23 h
              refine lv_iconst (v := (1 : Int32)) hx hb dX8_readsMove_191 (by decide) ?_
              refine lv_goto (tgt := 196) hx hb dX8_readsMove_192 (by decide) ?_
              obtain rfl := sm_e h
              exact rx_z hx hb hr (nar_z (Or.inr rfl)) hP hK hD hS dX8_readsMove_196 hlocks
      · replace h := in_e hc16 h
        refine lv_iconst (v := (1 : Int32)) hx hb dX8_readsMove_159 (by decide) ?_
        refine lv_goto (tgt := 164) hx hb dX8_readsMove_160 (by decide) ?_
        refine lv_istore_n (lv' := [(3, .int (1 : Int32)), (2, .int s0), (0, .ref a_h), (1, .int x1)]) hx hb dX8_readsMove_164 rfl hl (by decide) rfl (fun ls hl => ?_)
        refine lv_aload_n hx hb dX8_readsMove_165 rfl (lv_at hl 2 rfl) ?_
        refine lv_dup hx hb dX8_readsMove_166 rfl ?_
        refine va_get (D := D) (ci := 8) (v := .int m_at) (C := RX8) (T := TX8) (N := 14) hx hb hts in_X8_readsMove_X8 hown hK hP 0 rfl rfl 8 (by decide) (hts _ q_X8_readsMove_2) (fun _ h9 => h9) rfl dX8_readsMove_167 ?_
        refine lv_iload_n hx hb dX8_readsMove_170 rfl (lv_at hl 0 rfl) ?_
        refine lv_if_eq (tgt := 178) hx hb dX8_readsMove_171 (by decide) (fun hc24 => ?_) (fun hc24 => ?_)
        · replace h := it_e hc24 h
          refine lv_iconst (v := (0 : Int32)) hx hb dX8_readsMove_178 (by decide) ?_
          refine lv_iadd hx hb dX8_readsMove_179 ?_
          refine lv_topi (fun t25 et25 => ?_)
          replace h := nm_at h et25
          refine va_put (D := D) (ci := 8) (v := .int t25) (ty := .int) (C := RX8) (T := TX8) (N := 14) hx hb hts in_X8_readsMove_X8 tyX8 tyX8_ok nmX8 hown hK hP hD hS 0 rfl rfl 8 (by decide) (hts _ q_X8_readsMove_2) (fun _ h9 => h9) rfl (by decide +kernel) rfl rfl (Nat.le_of_ble_eq_true rfl) dX8_readsMove_180 (fun H locs hP hD hS => ?_)
          have hP : va_P D vwCl [(a_h, .inr (8, [.ref a_h_d, .long v_account, .ref a_h_was, .ref a_h_accounts, .int v_states, .int v_refused, .ref a_h_text, .int v_typed, .int t25, .int m_sign, .int m_number, .ref a_h_aside, .ref a_h_places, .ref a_h_told])), (a_h_text, .inl (cC, 80, .inl v_text_A))] H := hP
          have hD : va_D A [(a_h, .inr (8, [.ref a_h_d, .long v_account, .ref a_h_was, .ref a_h_accounts, .int v_states, .int v_refused, .ref a_h_text, .int v_typed, .int t25, .int m_sign, .int m_number, .ref a_h_aside, .ref a_h_places, .ref a_h_told])), (a_h_text, .inl (cC, 80, .inl v_text_A))] := hD
          refine lv_iload_n hx hb dX8_readsMove_183 rfl (lv_at hl 1 rfl) ?_
          refine lv_if_ne (tgt := 191) hx hb dX8_readsMove_184 (by decide) (fun hc26 => ?_) (fun hc26 => ?_)
          · replace h := it_e hc26 h
            refine lv_iconst (v := (1 : Int32)) hx hb dX8_readsMove_191 (by decide) ?_
            refine lv_goto (tgt := 196) hx hb dX8_readsMove_192 (by decide) ?_
            obtain rfl := sm_e h
            exact rx_z hx hb hr (nar_z (Or.inr rfl)) hP hK hD hS dX8_readsMove_196 hlocks
          · replace h := in_e hc26 h
            refine lv_iload_n hx hb dX8_readsMove_187 rfl (lv_at hl 0 rfl) ?_
            refine lv_if_eq (tgt := 195) hx hb dX8_readsMove_188 (by decide) (fun hc27 => ?_) (fun hc27 => ?_)
            · replace h := it_e hc27 h
              refine lv_iconst (v := (0 : Int32)) hx hb dX8_readsMove_195 (by decide) ?_
              obtain rfl := sm_e h
              exact rx_z hx hb hr (nar_z (Or.inl rfl)) hP hK hD hS dX8_readsMove_196 hlocks
            · replace h := if_e hc27 h
              refine lv_iconst (v := (1 : Int32)) hx hb dX8_readsMove_191 (by decide) ?_
              refine lv_goto (tgt := 196) hx hb dX8_readsMove_192 (by decide) ?_
              obtain rfl := sm_e h
              exact rx_z hx hb hr (nar_z (Or.inr rfl)) hP hK hD hS dX8_readsMove_196 hlocks
        · replace h := if_e hc24 h
          refine lv_iconst (v := (1 : Int32)) hx hb dX8_readsMove_174 (by decide) ?_
          refine lv_goto (tgt := 179) hx hb dX8_readsMove_175 (by decide) ?_
          refine lv_iadd hx hb dX8_readsMove_179 ?_
          refine lv_topi (fun t28 et28 => ?_)
          replace h := nm_at h et28
          refine va_put (D := D) (ci := 8) (v := .int t28) (ty := .int) (C := RX8) (T := TX8) (N := 14) hx hb hts in_X8_readsMove_X8 tyX8 tyX8_ok nmX8 hown hK hP hD hS 0 rfl rfl 8 (by decide) (hts _ q_X8_readsMove_2) (fun _ h9 => h9) rfl (by decide +kernel) rfl rfl (Nat.le_of_ble_eq_true rfl) dX8_readsMove_180 (fun H locs hP hD hS => ?_)
          have hP : va_P D vwCl [(a_h, .inr (8, [.ref a_h_d, .long v_account, .ref a_h_was, .ref a_h_accounts, .int v_states, .int v_refused, .ref a_h_text, .int v_typed, .int t28, .int m_sign, .int m_number, .ref a_h_aside, .ref a_h_places, .ref a_h_told])), (a_h_text, .inl (cC, 80, .inl v_text_A))] H := hP
          have hD : va_D A [(a_h, .inr (8, [.ref a_h_d, .long v_account, .ref a_h_was, .ref a_h_accounts, .int v_states, .int v_refused, .ref a_h_text, .int v_typed, .int t28, .int m_sign, .int m_number, .ref a_h_aside, .ref a_h_places, .ref a_h_told])), (a_h_text, .inl (cC, 80, .inl v_text_A))] := hD
          refine lv_iload_n hx hb dX8_readsMove_183 rfl (lv_at hl 1 rfl) ?_
          refine lv_if_ne (tgt := 191) hx hb dX8_readsMove_184 (by decide) (fun hc29 => ?_) (fun hc29 => ?_)
          · replace h := it_e hc29 h
            refine lv_iconst (v := (1 : Int32)) hx hb dX8_readsMove_191 (by decide) ?_
            refine lv_goto (tgt := 196) hx hb dX8_readsMove_192 (by decide) ?_
            obtain rfl := sm_e h
            exact rx_z hx hb hr (nar_z (Or.inr rfl)) hP hK hD hS dX8_readsMove_196 hlocks
          · replace h := in_e hc29 h
            refine lv_iload_n hx hb dX8_readsMove_187 rfl (lv_at hl 0 rfl) ?_
            refine lv_if_eq (tgt := 195) hx hb dX8_readsMove_188 (by decide) (fun hc30 => ?_) (fun hc30 => ?_)
            · replace h := it_e hc30 h
              refine lv_iconst (v := (0 : Int32)) hx hb dX8_readsMove_195 (by decide) ?_
              obtain rfl := sm_e h
              exact rx_z hx hb hr (nar_z (Or.inl rfl)) hP hK hD hS dX8_readsMove_196 hlocks
            · replace h := if_e hc30 h
              refine lv_iconst (v := (1 : Int32)) hx hb dX8_readsMove_191 (by decide) ?_
              refine lv_goto (tgt := 196) hx hb dX8_readsMove_192 (by decide) ?_
              obtain rfl := sm_e h
              exact rx_z hx hb hr (nar_z (Or.inr rfl)) hP hK hD hS dX8_readsMove_196 hlocks
  have B108 : ∀ (s0 : Int32) (m_at : Int32) (m_sign : Int32) (m_number : Int32) (H : Heap) (locs : List Loc) (ls : Array Slot), f_X8_readsMove_b108 v_typed v_text_A s0 m_at m_sign m_number  = some u → va_P D vwCl [(a_h, .inr (8, [.ref a_h_d, .long v_account, .ref a_h_was, .ref a_h_accounts, .int v_states, .int v_refused, .ref a_h_text, .int v_typed, .int m_at, .int m_sign, .int m_number, .ref a_h_aside, .ref a_h_places, .ref a_h_told])), (a_h_text, .inl (cC, 80, .inl v_text_A))] H → va_D A [(a_h, .inr (8, [.ref a_h_d, .long v_account, .ref a_h_was, .ref a_h_accounts, .int v_states, .int v_refused, .ref a_h_text, .int v_typed, .int m_at, .int m_sign, .int m_number, .ref a_h_aside, .ref a_h_places, .ref a_h_told])), (a_h_text, .inl (cC, 80, .inl v_text_A))] → va_S A s.heap H locs → lv_has ls 4 [(0, .ref a_h)] → W p l e ({ frames := 2, cells := 0, slots := 0, locals := 46 } : Room) s m ([.ref a_h] : List Value).toArray below meth c H locs 0 0 (MQ below (QI D (ty4 cI cC cJ cB) A [(a_h, .inr (8, [.ref a_h_d, .long v_account, .ref a_h_was, .ref a_h_accounts, .int v_states, .int v_refused, .ref a_h_text, .int v_typed, .int u.2.1, .int u.2.2.1, .int u.2.2.2, .ref a_h_aside, .ref a_h_places, .ref a_h_told])), (a_h_text, .inl (cC, 80, .inl v_text_A))] u.1) ([.ref a_h] : List Value).toArray s 0 0 A) (F0 m 108 ls [.int s0]) := by
    intro s0 m_at m_sign m_number H locs ls h hP hD hS hl
    unfold f_X8_readsMove_b108 at h
    refine lv_istore_n (lv' := [(1, .int s0), (0, .ref a_h)]) hx hb dX8_readsMove_108 rfl hl (by decide) rfl (fun ls hl => ?_)
    refine lv_iload_n hx hb dX8_readsMove_109 rfl (lv_at hl 0 rfl) ?_
    refine lv_if_ne (tgt := 115) hx hb dX8_readsMove_110 (by decide) (fun hc5 => ?_) (fun hc5 => ?_)
    · replace h := it_e hc5 h
      refine lv_aload_n hx hb dX8_readsMove_115 rfl (lv_at hl 1 rfl) ?_
      refine va_get (D := D) (ci := 8) (v := .int m_at) (C := RX8) (T := TX8) (N := 14) hx hb hts in_X8_readsMove_X8 hown hK hP 0 rfl rfl 8 (by decide) (hts _ q_X8_readsMove_2) (fun _ h9 => h9) rfl dX8_readsMove_116 ?_
      refine lv_aload_n hx hb dX8_readsMove_119 rfl (lv_at hl 1 rfl) ?_
      refine va_get (D := D) (ci := 8) (v := .int v_typed) (C := RX8) (T := TX8) (N := 14) hx hb hts in_X8_readsMove_X8 hown hK hP 0 rfl rfl 7 (by decide) (hts _ q_X8_readsMove_4) (fun _ h9 => h9) rfl dX8_readsMove_120 ?_
      refine lv_icmp_ne (tgt := 130) hx hb dX8_readsMove_123 (by decide) (fun hc6 => ?_) (fun hc6 => ?_)
      · replace h := it_e hc6 h
        refine lv_iconst (v := (0 : Int32)) hx hb dX8_readsMove_130 (by decide) ?_
        exact B131 s0 (0 : Int32) m_at m_sign m_number _ _ _ h hP hD hS (lv_sub hl [1, 0] rfl)
      · replace h := in_e hc6 h
        refine lv_iconst (v := (1 : Int32)) hx hb dX8_readsMove_126 (by decide) ?_
        refine lv_goto (tgt := 131) hx hb dX8_readsMove_127 (by decide) ?_
        exact B131 s0 (1 : Int32) m_at m_sign m_number _ _ _ h hP hD hS (lv_sub hl [1, 0] rfl)
    · replace h := in_e hc5 h
      refine lv_iconst (v := (0 : Int32)) hx hb dX8_readsMove_113 (by decide) ?_
      obtain rfl := sm_e h
      exact rx_z hx hb hr (nar_z (Or.inl rfl)) hP hK hD hS dX8_readsMove_114 hlocks
  have B103 : ∀ (m_at : Int32) (m_sign : Int32) (m_number : Int32) (H : Heap) (locs : List Loc) (ls : Array Slot), f_X8_readsMove_b103 v_typed v_text_A m_at m_sign m_number  = some u → va_P D vwCl [(a_h, .inr (8, [.ref a_h_d, .long v_account, .ref a_h_was, .ref a_h_accounts, .int v_states, .int v_refused, .ref a_h_text, .int v_typed, .int m_at, .int m_sign, .int m_number, .ref a_h_aside, .ref a_h_places, .ref a_h_told])), (a_h_text, .inl (cC, 80, .inl v_text_A))] H → va_D A [(a_h, .inr (8, [.ref a_h_d, .long v_account, .ref a_h_was, .ref a_h_accounts, .int v_states, .int v_refused, .ref a_h_text, .int v_typed, .int m_at, .int m_sign, .int m_number, .ref a_h_aside, .ref a_h_places, .ref a_h_told])), (a_h_text, .inl (cC, 80, .inl v_text_A))] → va_S A s.heap H locs → lv_has ls 4 [(0, .ref a_h)] → W p l e ({ frames := 2, cells := 0, slots := 0, locals := 46 } : Room) s m ([.ref a_h] : List Value).toArray below meth c H locs 0 0 (MQ below (QI D (ty4 cI cC cJ cB) A [(a_h, .inr (8, [.ref a_h_d, .long v_account, .ref a_h_was, .ref a_h_accounts, .int v_states, .int v_refused, .ref a_h_text, .int v_typed, .int u.2.1, .int u.2.2.1, .int u.2.2.2, .ref a_h_aside, .ref a_h_places, .ref a_h_told])), (a_h_text, .inl (cC, 80, .inl v_text_A))] u.1) ([.ref a_h] : List Value).toArray s 0 0 A) (F0 m 103 ls []) := by
    intro m_at m_sign m_number H locs ls h hP hD hS hl
    unfold f_X8_readsMove_b103 at h
    refine lv_iconst (v := (1 : Int32)) hx hb dX8_readsMove_103 (by decide) ?_
    refine lv_goto (tgt := 108) hx hb dX8_readsMove_104 (by decide) ?_
    exact B108 (1 : Int32) m_at m_sign m_number _ _ _ h hP hD hS hl
  have B107 : ∀ (m_at : Int32) (m_sign : Int32) (m_number : Int32) (H : Heap) (locs : List Loc) (ls : Array Slot), f_X8_readsMove_b107 v_typed v_text_A m_at m_sign m_number  = some u → va_P D vwCl [(a_h, .inr (8, [.ref a_h_d, .long v_account, .ref a_h_was, .ref a_h_accounts, .int v_states, .int v_refused, .ref a_h_text, .int v_typed, .int m_at, .int m_sign, .int m_number, .ref a_h_aside, .ref a_h_places, .ref a_h_told])), (a_h_text, .inl (cC, 80, .inl v_text_A))] H → va_D A [(a_h, .inr (8, [.ref a_h_d, .long v_account, .ref a_h_was, .ref a_h_accounts, .int v_states, .int v_refused, .ref a_h_text, .int v_typed, .int m_at, .int m_sign, .int m_number, .ref a_h_aside, .ref a_h_places, .ref a_h_told])), (a_h_text, .inl (cC, 80, .inl v_text_A))] → va_S A s.heap H locs → lv_has ls 4 [(0, .ref a_h)] → W p l e ({ frames := 2, cells := 0, slots := 0, locals := 46 } : Room) s m ([.ref a_h] : List Value).toArray below meth c H locs 0 0 (MQ below (QI D (ty4 cI cC cJ cB) A [(a_h, .inr (8, [.ref a_h_d, .long v_account, .ref a_h_was, .ref a_h_accounts, .int v_states, .int v_refused, .ref a_h_text, .int v_typed, .int u.2.1, .int u.2.2.1, .int u.2.2.2, .ref a_h_aside, .ref a_h_places, .ref a_h_told])), (a_h_text, .inl (cC, 80, .inl v_text_A))] u.1) ([.ref a_h] : List Value).toArray s 0 0 A) (F0 m 107 ls []) := by
    intro m_at m_sign m_number H locs ls h hP hD hS hl
    unfold f_X8_readsMove_b107 at h
    refine lv_iconst (v := (0 : Int32)) hx hb dX8_readsMove_107 (by decide) ?_
    exact B108 (0 : Int32) m_at m_sign m_number _ _ _ h hP hD hS hl
  have B82 : ∀ (m_at : Int32) (m_sign : Int32) (m_number : Int32) (H : Heap) (locs : List Loc) (ls : Array Slot), f_X8_readsMove_b82 N v_typed v_text_A m_at m_sign m_number  = some u → va_P D vwCl [(a_h, .inr (8, [.ref a_h_d, .long v_account, .ref a_h_was, .ref a_h_accounts, .int v_states, .int v_refused, .ref a_h_text, .int v_typed, .int m_at, .int m_sign, .int m_number, .ref a_h_aside, .ref a_h_places, .ref a_h_told])), (a_h_text, .inl (cC, 80, .inl v_text_A))] H → va_D A [(a_h, .inr (8, [.ref a_h_d, .long v_account, .ref a_h_was, .ref a_h_accounts, .int v_states, .int v_refused, .ref a_h_text, .int v_typed, .int m_at, .int m_sign, .int m_number, .ref a_h_aside, .ref a_h_places, .ref a_h_told])), (a_h_text, .inl (cC, 80, .inl v_text_A))] → va_S A s.heap H locs → lv_has ls 4 [(0, .ref a_h)] → W p l e ({ frames := 2, cells := 0, slots := 0, locals := 46 } : Room) s m ([.ref a_h] : List Value).toArray below meth c H locs 0 0 (MQ below (QI D (ty4 cI cC cJ cB) A [(a_h, .inr (8, [.ref a_h_d, .long v_account, .ref a_h_was, .ref a_h_accounts, .int v_states, .int v_refused, .ref a_h_text, .int v_typed, .int u.2.1, .int u.2.2.1, .int u.2.2.2, .ref a_h_aside, .ref a_h_places, .ref a_h_told])), (a_h_text, .inl (cC, 80, .inl v_text_A))] u.1) ([.ref a_h] : List Value).toArray s 0 0 A) (F0 m 82 ls []) := by
    intro m_at m_sign m_number H locs ls h hP hD hS hl
    unfold f_X8_readsMove_b82 at h
    refine lv_aload_n hx hb dX8_readsMove_82 rfl (lv_at hl 0 rfl) ?_
    refine va_get (D := D) (ci := 8) (v := .int m_sign) (C := RX8) (T := TX8) (N := 14) hx hb hts in_X8_readsMove_X8 hown hK hP 0 rfl rfl 9 (by decide) (hts _ q_X8_readsMove_3) (fun _ h9 => h9) rfl dX8_readsMove_83 ?_
    refine lv_bipush (v := (104 : Int32)) hx hb dX8_readsMove_86 (by decide) ?_
    refine lv_icmp_ne (tgt := 107) hx hb dX8_readsMove_88 (by decide) (fun hc35 => ?_) (fun hc35 => ?_)
    · replace h := it_e hc35 h
      exact B107 m_at m_sign m_number _ _ _ h hP hD hS hl
    · replace h := in_e hc35 h
      refine lv_aload_n hx hb dX8_readsMove_91 rfl (lv_at hl 0 rfl) ?_
      refine lv_iconst (v := (3 : Int32)) hx hb dX8_readsMove_92 (by decide) ?_
      refine lv_iconst (v := (1 : Int32)) hx hb dX8_readsMove_93 (by decide) ?_
      refine lv_sipush (v := (200 : Int32)) hx hb dX8_readsMove_94 (by decide) ?_
      obtain ⟨u36, hu36, h⟩ := bd_e h
      refine kx_i (mc := 0) (ms := 0) (wr := []) (ws2 := [(a_h, .inr (8, [.ref a_h_d, .long v_account, .ref a_h_was, .ref a_h_accounts, .int v_states, .int v_refused, .ref a_h_text, .int v_typed, .int u36.2.1, .int m_sign, .int u36.2.2, .ref a_h_aside, .ref a_h_places, .ref a_h_told])), (a_h_text, .inl (cC, 80, .inl v_text_A))]) (va_runV (As := [.int (3 : Int32), .int (1 : Int32), .int (200 : Int32)]) (rest := []) ⟨hx, hb, hml, hown, hts⟩ (k_X8_readsNumber l D cI cC cJ cB a_h a_h_d a_h_was a_h_accounts a_h_text a_h_aside a_h_places a_h_told v_account v_states v_refused v_typed m_at m_sign m_number v_text_A N (3 : Int32) (1 : Int32) (200 : Int32) H.size _ hu36) (cwV 3 hts gX8_readsMove_X8_readsNumber rfl rfl rfl (by decide +kernel) ⟨Nat.le_of_ble_eq_true rfl, Nat.le_of_ble_eq_true rfl⟩) (pv_V hP hD hK hN [0, 1] rfl rfl (ci := 8) rfl 0 rfl) rfl rfl hl.1 rfl (lv_room (Nat.le_of_ble_eq_true rfl)) dX8_readsMove_97 ⟨Nat.zero_le _, Nat.zero_le _⟩) hP hD hS hA [0, 1] [] [0, 1] rfl rfl rfl rfl rfl rfl (fun H locs hP hD hS => ?_)
      refine lv_if_eq (tgt := 107) hx hb dX8_readsMove_100 (by decide) (fun hc37 => ?_) (fun hc37 => ?_)
      · replace h := it_e hc37 h
        exact B107 u36.2.1 m_sign u36.2.2 _ _ _ h hP hD hS hl
      · replace h := if_e hc37 h
        exact B103 u36.2.1 m_sign u36.2.2 _ _ _ h hP hD hS hl
  have B61 : ∀ (m_at : Int32) (m_sign : Int32) (m_number : Int32) (H : Heap) (locs : List Loc) (ls : Array Slot), f_X8_readsMove_b61 N v_typed v_text_A m_at m_sign m_number  = some u → va_P D vwCl [(a_h, .inr (8, [.ref a_h_d, .long v_account, .ref a_h_was, .ref a_h_accounts, .int v_states, .int v_refused, .ref a_h_text, .int v_typed, .int m_at, .int m_sign, .int m_number, .ref a_h_aside, .ref a_h_places, .ref a_h_told])), (a_h_text, .inl (cC, 80, .inl v_text_A))] H → va_D A [(a_h, .inr (8, [.ref a_h_d, .long v_account, .ref a_h_was, .ref a_h_accounts, .int v_states, .int v_refused, .ref a_h_text, .int v_typed, .int m_at, .int m_sign, .int m_number, .ref a_h_aside, .ref a_h_places, .ref a_h_told])), (a_h_text, .inl (cC, 80, .inl v_text_A))] → va_S A s.heap H locs → lv_has ls 4 [(0, .ref a_h)] → W p l e ({ frames := 2, cells := 0, slots := 0, locals := 46 } : Room) s m ([.ref a_h] : List Value).toArray below meth c H locs 0 0 (MQ below (QI D (ty4 cI cC cJ cB) A [(a_h, .inr (8, [.ref a_h_d, .long v_account, .ref a_h_was, .ref a_h_accounts, .int v_states, .int v_refused, .ref a_h_text, .int v_typed, .int u.2.1, .int u.2.2.1, .int u.2.2.2, .ref a_h_aside, .ref a_h_places, .ref a_h_told])), (a_h_text, .inl (cC, 80, .inl v_text_A))] u.1) ([.ref a_h] : List Value).toArray s 0 0 A) (F0 m 61 ls []) := by
    intro m_at m_sign m_number H locs ls h hP hD hS hl
    unfold f_X8_readsMove_b61 at h
    refine lv_aload_n hx hb dX8_readsMove_61 rfl (lv_at hl 0 rfl) ?_
    refine va_get (D := D) (ci := 8) (v := .int m_sign) (C := RX8) (T := TX8) (N := 14) hx hb hts in_X8_readsMove_X8 hown hK hP 0 rfl rfl 9 (by decide) (hts _ q_X8_readsMove_3) (fun _ h9 => h9) rfl dX8_readsMove_62 ?_
    refine lv_bipush (v := (61 : Int32)) hx hb dX8_readsMove_65 (by decide) ?_
    refine lv_icmp_ne (tgt := 82) hx hb dX8_readsMove_67 (by decide) (fun hc34 => ?_) (fun hc34 => ?_)
    · replace h := it_e hc34 h
      exact B82 m_at m_sign m_number _ _ _ h hP hD hS hl
    · replace h := in_e hc34 h
      refine lv_aload_n hx hb dX8_readsMove_70 rfl (lv_at hl 0 rfl) ?_
      refine lv_iconst (v := (4 : Int32)) hx hb dX8_readsMove_71 (by decide) ?_
      refine lv_iconst (v := (0 : Int32)) hx hb dX8_readsMove_72 (by decide) ?_
      refine lv_sipush (v := (1000 : Int32)) hx hb dX8_readsMove_73 (by decide) ?_
      obtain ⟨u38, hu38, h⟩ := bd_e h
      refine kx_i (mc := 0) (ms := 0) (wr := []) (ws2 := [(a_h, .inr (8, [.ref a_h_d, .long v_account, .ref a_h_was, .ref a_h_accounts, .int v_states, .int v_refused, .ref a_h_text, .int v_typed, .int u38.2.1, .int m_sign, .int u38.2.2, .ref a_h_aside, .ref a_h_places, .ref a_h_told])), (a_h_text, .inl (cC, 80, .inl v_text_A))]) (va_runV (As := [.int (4 : Int32), .int (0 : Int32), .int (1000 : Int32)]) (rest := []) ⟨hx, hb, hml, hown, hts⟩ (k_X8_readsNumber l D cI cC cJ cB a_h a_h_d a_h_was a_h_accounts a_h_text a_h_aside a_h_places a_h_told v_account v_states v_refused v_typed m_at m_sign m_number v_text_A N (4 : Int32) (0 : Int32) (1000 : Int32) H.size _ hu38) (cwV 3 hts gX8_readsMove_X8_readsNumber rfl rfl rfl (by decide +kernel) ⟨Nat.le_of_ble_eq_true rfl, Nat.le_of_ble_eq_true rfl⟩) (pv_V hP hD hK hN [0, 1] rfl rfl (ci := 8) rfl 0 rfl) rfl rfl hl.1 rfl (lv_room (Nat.le_of_ble_eq_true rfl)) dX8_readsMove_76 ⟨Nat.zero_le _, Nat.zero_le _⟩) hP hD hS hA [0, 1] [] [0, 1] rfl rfl rfl rfl rfl rfl (fun H locs hP hD hS => ?_)
      refine lv_if_ne (tgt := 103) hx hb dX8_readsMove_79 (by decide) (fun hc39 => ?_) (fun hc39 => ?_)
      · replace h := it_e hc39 h
        exact B103 u38.2.1 m_sign u38.2.2 _ _ _ h hP hD hS hl
      · replace h := in_e hc39 h
        exact B82 u38.2.1 m_sign u38.2.2 _ _ _ h hP hD hS hl
  have B50 : ∀ (m_at : Int32) (m_sign : Int32) (m_number : Int32) (H : Heap) (locs : List Loc) (ls : Array Slot), f_X8_readsMove_b50 N v_typed v_text_A m_at m_sign  = some u → va_P D vwCl [(a_h, .inr (8, [.ref a_h_d, .long v_account, .ref a_h_was, .ref a_h_accounts, .int v_states, .int v_refused, .ref a_h_text, .int v_typed, .int m_at, .int m_sign, .int m_number, .ref a_h_aside, .ref a_h_places, .ref a_h_told])), (a_h_text, .inl (cC, 80, .inl v_text_A))] H → va_D A [(a_h, .inr (8, [.ref a_h_d, .long v_account, .ref a_h_was, .ref a_h_accounts, .int v_states, .int v_refused, .ref a_h_text, .int v_typed, .int m_at, .int m_sign, .int m_number, .ref a_h_aside, .ref a_h_places, .ref a_h_told])), (a_h_text, .inl (cC, 80, .inl v_text_A))] → va_S A s.heap H locs → lv_has ls 4 [(0, .ref a_h)] → W p l e ({ frames := 2, cells := 0, slots := 0, locals := 46 } : Room) s m ([.ref a_h] : List Value).toArray below meth c H locs 0 0 (MQ below (QI D (ty4 cI cC cJ cB) A [(a_h, .inr (8, [.ref a_h_d, .long v_account, .ref a_h_was, .ref a_h_accounts, .int v_states, .int v_refused, .ref a_h_text, .int v_typed, .int u.2.1, .int u.2.2.1, .int u.2.2.2, .ref a_h_aside, .ref a_h_places, .ref a_h_told])), (a_h_text, .inl (cC, 80, .inl v_text_A))] u.1) ([.ref a_h] : List Value).toArray s 0 0 A) (F0 m 50 ls []) := by
    intro m_at m_sign m_number H locs ls h hP hD hS hl
    unfold f_X8_readsMove_b50 at h
    refine lv_aload_n hx hb dX8_readsMove_50 rfl (lv_at hl 0 rfl) ?_
    refine lv_iconst (v := (1 : Int32)) hx hb dX8_readsMove_51 (by decide) ?_
    refine lv_iconst (v := (0 : Int32)) hx hb dX8_readsMove_52 (by decide) ?_
    refine lv_bipush (v := (9 : Int32)) hx hb dX8_readsMove_53 (by decide) ?_
    obtain ⟨u32, hu32, h⟩ := bd_e h
    refine kx_i (mc := 0) (ms := 0) (wr := []) (ws2 := [(a_h, .inr (8, [.ref a_h_d, .long v_account, .ref a_h_was, .ref a_h_accounts, .int v_states, .int v_refused, .ref a_h_text, .int v_typed, .int u32.2.1, .int m_sign, .int u32.2.2, .ref a_h_aside, .ref a_h_places, .ref a_h_told])), (a_h_text, .inl (cC, 80, .inl v_text_A))]) (va_runV (As := [.int (1 : Int32), .int (0 : Int32), .int (9 : Int32)]) (rest := []) ⟨hx, hb, hml, hown, hts⟩ (k_X8_readsNumber l D cI cC cJ cB a_h a_h_d a_h_was a_h_accounts a_h_text a_h_aside a_h_places a_h_told v_account v_states v_refused v_typed m_at m_sign m_number v_text_A N (1 : Int32) (0 : Int32) (9 : Int32) H.size _ hu32) (cwV 3 hts gX8_readsMove_X8_readsNumber rfl rfl rfl (by decide +kernel) ⟨Nat.le_of_ble_eq_true rfl, Nat.le_of_ble_eq_true rfl⟩) (pv_V hP hD hK hN [0, 1] rfl rfl (ci := 8) rfl 0 rfl) rfl rfl hl.1 rfl (lv_room (Nat.le_of_ble_eq_true rfl)) dX8_readsMove_55 ⟨Nat.zero_le _, Nat.zero_le _⟩) hP hD hS hA [0, 1] [] [0, 1] rfl rfl rfl rfl rfl rfl (fun H locs hP hD hS => ?_)
    refine lv_if_ne (tgt := 103) hx hb dX8_readsMove_58 (by decide) (fun hc33 => ?_) (fun hc33 => ?_)
    · replace h := it_e hc33 h
      exact B103 u32.2.1 m_sign u32.2.2 _ _ _ h hP hD hS hl
    · replace h := in_e hc33 h
      exact B61 u32.2.1 m_sign u32.2.2 _ _ _ h hP hD hS hl
  refine lv_aload_n hx hb dX8_readsMove_0 rfl (lv_at hl 0 rfl) ?_
  refine lv_aload_n hx hb dX8_readsMove_1 rfl (lv_at hl 0 rfl) ?_
  refine va_get (D := D) (ci := 8) (v := .ref a_h_text) (C := RX8) (T := TX8) (N := 14) hx hb hts in_X8_readsMove_X8 hown hK hP 0 rfl rfl 6 (by decide) (hts _ q_X8_readsMove_1) (fun _ h9 => h9) rfl dX8_readsMove_2 ?_
  refine lv_aload_n hx hb dX8_readsMove_5 rfl (lv_at hl 0 rfl) ?_
  refine va_get (D := D) (ci := 8) (v := .int v_at) (C := RX8) (T := TX8) (N := 14) hx hb hts in_X8_readsMove_X8 hown hK hP 0 rfl rfl 8 (by decide) (hts _ q_X8_readsMove_2) (fun _ h9 => h9) rfl dX8_readsMove_6 ?_
  obtain ⟨hi1, h⟩ := gA_e h
  refine va_cald hx hb hK hP 1 1 rfl rfl hi1 dX8_readsMove_9 ?_
  refine lv_topi (fun t2 et2 => ?_)
  replace h := nm_at h et2
  refine va_put (D := D) (ci := 8) (v := .int t2) (ty := .int) (C := RX8) (T := TX8) (N := 14) hx hb hts in_X8_readsMove_X8 tyX8 tyX8_ok nmX8 hown hK hP hD hS 0 rfl rfl 9 (by decide) (hts _ q_X8_readsMove_3) (fun _ h9 => h9) rfl (by decide +kernel) rfl rfl (Nat.le_of_ble_eq_true rfl) dX8_readsMove_10 (fun H locs hP hD hS => ?_)
  have hP : va_P D vwCl [(a_h, .inr (8, [.ref a_h_d, .long v_account, .ref a_h_was, .ref a_h_accounts, .int v_states, .int v_refused, .ref a_h_text, .int v_typed, .int v_at, .int t2, .int v_number, .ref a_h_aside, .ref a_h_places, .ref a_h_told])), (a_h_text, .inl (cC, 80, .inl v_text_A))] H := hP
  have hD : va_D A [(a_h, .inr (8, [.ref a_h_d, .long v_account, .ref a_h_was, .ref a_h_accounts, .int v_states, .int v_refused, .ref a_h_text, .int v_typed, .int v_at, .int t2, .int v_number, .ref a_h_aside, .ref a_h_places, .ref a_h_told])), (a_h_text, .inl (cC, 80, .inl v_text_A))] := hD
  refine lv_aload_n hx hb dX8_readsMove_13 rfl (lv_at hl 0 rfl) ?_
  refine lv_dup hx hb dX8_readsMove_14 rfl ?_
  refine va_get (D := D) (ci := 8) (v := .int v_at) (C := RX8) (T := TX8) (N := 14) hx hb hts in_X8_readsMove_X8 hown hK hP 0 rfl rfl 8 (by decide) (hts _ q_X8_readsMove_2) (fun _ h9 => h9) rfl dX8_readsMove_15 ?_
  refine lv_iconst (v := (1 : Int32)) hx hb dX8_readsMove_18 (by decide) ?_
  refine lv_iadd hx hb dX8_readsMove_19 ?_
  refine lv_topi (fun t3 et3 => ?_)
  replace h := nm_at h et3
  refine va_put (D := D) (ci := 8) (v := .int t3) (ty := .int) (C := RX8) (T := TX8) (N := 14) hx hb hts in_X8_readsMove_X8 tyX8 tyX8_ok nmX8 hown hK hP hD hS 0 rfl rfl 8 (by decide) (hts _ q_X8_readsMove_2) (fun _ h9 => h9) rfl (by decide +kernel) rfl rfl (Nat.le_of_ble_eq_true rfl) dX8_readsMove_20 (fun H locs hP hD hS => ?_)
  have hP : va_P D vwCl [(a_h, .inr (8, [.ref a_h_d, .long v_account, .ref a_h_was, .ref a_h_accounts, .int v_states, .int v_refused, .ref a_h_text, .int v_typed, .int t3, .int t2, .int v_number, .ref a_h_aside, .ref a_h_places, .ref a_h_told])), (a_h_text, .inl (cC, 80, .inl v_text_A))] H := hP
  have hD : va_D A [(a_h, .inr (8, [.ref a_h_d, .long v_account, .ref a_h_was, .ref a_h_accounts, .int v_states, .int v_refused, .ref a_h_text, .int v_typed, .int t3, .int t2, .int v_number, .ref a_h_aside, .ref a_h_places, .ref a_h_told])), (a_h_text, .inl (cC, 80, .inl v_text_A))] := hD
  refine lv_aload_n hx hb dX8_readsMove_23 rfl (lv_at hl 0 rfl) ?_
  refine va_get (D := D) (ci := 8) (v := .int t2) (C := RX8) (T := TX8) (N := 14) hx hb hts in_X8_readsMove_X8 hown hK hP 0 rfl rfl 9 (by decide) (hts _ q_X8_readsMove_3) (fun _ h9 => h9) rfl dX8_readsMove_24 ?_
  refine lv_bipush (v := (122 : Int32)) hx hb dX8_readsMove_27 (by decide) ?_
  refine lv_icmp_eq (tgt := 103) hx hb dX8_readsMove_29 (by decide) (fun hc4 => ?_) (fun hc4 => ?_)
  · replace h := it_e hc4 h
    exact B103 t3 t2 v_number _ _ _ h hP hD hS hl
  · replace h := if_e hc4 h
    refine lv_aload_n hx hb dX8_readsMove_32 rfl (lv_at hl 0 rfl) ?_
    refine va_get (D := D) (ci := 8) (v := .int t2) (C := RX8) (T := TX8) (N := 14) hx hb hts in_X8_readsMove_X8 hown hK hP 0 rfl rfl 9 (by decide) (hts _ q_X8_readsMove_3) (fun _ h9 => h9) rfl dX8_readsMove_33 ?_
    refine lv_bipush (v := (43 : Int32)) hx hb dX8_readsMove_36 (by decide) ?_
    refine lv_icmp_eq (tgt := 50) hx hb dX8_readsMove_38 (by decide) (fun hc31 => ?_) (fun hc31 => ?_)
    · replace h := it_e hc31 h
      exact B50 t3 t2 v_number _ _ _ h hP hD hS hl
    · replace h := if_e hc31 h
      refine lv_aload_n hx hb dX8_readsMove_41 rfl (lv_at hl 0 rfl) ?_
      refine va_get (D := D) (ci := 8) (v := .int t2) (C := RX8) (T := TX8) (N := 14) hx hb hts in_X8_readsMove_X8 hown hK hP 0 rfl rfl 9 (by decide) (hts _ q_X8_readsMove_3) (fun _ h9 => h9) rfl dX8_readsMove_42 ?_
      refine lv_bipush (v := (45 : Int32)) hx hb dX8_readsMove_45 (by decide) ?_
      refine lv_icmp_ne (tgt := 61) hx hb dX8_readsMove_47 (by decide) (fun hc40 => ?_) (fun hc40 => ?_)
      · replace h := it_e hc40 h
        exact B61 t3 t2 v_number _ _ _ h hP hD hS hl
      · replace h := in_e hc40 h
        exact B50 t3 t2 v_number _ _ _ h hP hD hS hl
-- X8_fault
def f_X8_fault_b5 (N : Nat) (v_typed : Int32) (v_text_A : Nat → Int32) : Nat → Int32 → Int32 → Int32 → Option (Int32 × Int32 × Int32 × Int32)
  | 0, _, _, _ => none
  | k + 1, m_at, m_sign, m_number =>
    (if v_typed ≤ m_at then some ((-2000000004 : Int32), m_at, m_sign, m_number)
    else Option.bind (f_X8_readsMove N v_typed m_at m_number v_text_A) (fun u2 => (if ¬ u2.1 = 0 then (f_X8_fault_b5 N v_typed v_text_A k u2.2.1 u2.2.2.1 u2.2.2.2)
    else some (m_at, u2.2.1, u2.2.2.1, u2.2.2.2))))
def f_X8_fault (N : Nat) (v_typed : Int32) (v_sign : Int32) (v_number : Int32) (v_text_A : Nat → Int32) : Option (Int32 × Int32 × Int32 × Int32) :=
  (f_X8_fault_b5 N v_typed v_text_A N (0 : Int32) v_sign v_number)
theorem q_X8_fault_1 : (.fieldLink RX8 142 "SpringBalanceModel" "at" "I" : Cond) ∈ wsX8_fault := List.mem_of_getElem? (i := 1) (by decide +kernel)
set_option maxRecDepth 20000 in
theorem in_X8_fault_X8 : ∀ w ∈ u_ws RX8 TX8 14, w ∈ wsX8_fault := by decide +kernel
theorem q_X8_fault_2 : (.fieldLink RX8 93 "SpringBalanceModel" "typed" "I" : Cond) ∈ wsX8_fault := List.mem_of_getElem? (i := 2) (by decide +kernel)
theorem q_X8_fault_3 : (.constant RX8 96 (-2000000004) : Cond) ∈ wsX8_fault := List.mem_of_getElem? (i := 3) (by decide +kernel)
set_option maxHeartbeats 8000000 in
set_option maxRecDepth 100000 in
theorem k_X8_fault (l : Launch) (D : va_G) (cI cC cJ cB : ClassId) (a_h a_h_d a_h_was a_h_accounts a_h_text a_h_aside a_h_places a_h_told : Nat) (v_account : Int64) (v_states : Int32) (v_refused : Int32) (v_typed : Int32) (v_at : Int32) (v_sign : Int32) (v_number : Int32) (v_text_A : Nat → Int32) (N : Nat) (sz : Nat) (u : Int32 × Int32 × Int32 × Int32) (hu : f_X8_fault N v_typed v_sign v_number v_text_A = some u) :
    Met l yX8_fault wsX8_fault ({ frames := 3, cells := 0, slots := 0, locals := 69 } : Room) (va_Pc [.ref a_h] (PreW D (ty4 cI cC cJ cB) sz [(a_h, .inr (8, [.ref a_h_d, .long v_account, .ref a_h_was, .ref a_h_accounts, .int v_states, .int v_refused, .ref a_h_text, .int v_typed, .int v_at, .int v_sign, .int v_number, .ref a_h_aside, .ref a_h_places, .ref a_h_told])), (a_h_text, .inl (cC, 80, .inl v_text_A))]))
      (QI D (ty4 cI cC cJ cB) (va_A [(a_h, .inr (8, [.ref a_h_d, .long v_account, .ref a_h_was, .ref a_h_accounts, .int v_states, .int v_refused, .ref a_h_text, .int v_typed, .int v_at, .int v_sign, .int v_number, .ref a_h_aside, .ref a_h_places, .ref a_h_told])), (a_h_text, .inl (cC, 80, .inl v_text_A))] sz) [(a_h, .inr (8, [.ref a_h_d, .long v_account, .ref a_h_was, .ref a_h_accounts, .int v_states, .int v_refused, .ref a_h_text, .int v_typed, .int u.2.1, .int u.2.2.1, .int u.2.2.2, .ref a_h_aside, .ref a_h_places, .ref a_h_told])), (a_h_text, .inl (cC, 80, .inl v_text_A))] u.1) 0 0 (va_A [(a_h, .inr (8, [.ref a_h_d, .long v_account, .ref a_h_was, .ref a_h_accounts, .int v_states, .int v_refused, .ref a_h_text, .int v_typed, .int v_at, .int v_sign, .int v_number, .ref a_h_aside, .ref a_h_places, .ref a_h_told])), (a_h_text, .inl (cC, 80, .inl v_text_A))] sz) := by
  refine met_go (y := yX8_fault) (wsy := wsX8_fault) (cc := cX8_fault) (maxL := 2) (ret := (some .int)) (av := [.ref a_h]) (Qc := fun A => QI D (ty4 cI cC cJ cB) A [(a_h, .inr (8, [.ref a_h_d, .long v_account, .ref a_h_was, .ref a_h_accounts, .int v_states, .int v_refused, .ref a_h_text, .int v_typed, .int u.2.1, .int u.2.2.1, .int u.2.2.2, .ref a_h_aside, .ref a_h_places, .ref a_h_told])), (a_h_text, .inl (cC, 80, .inl v_text_A))] u.1) (by decide) rfl (Nat.le_of_ble_eq_true rfl) ?_
  intro p e s m below meth c A ls hx hb hr hml hown hts hlocks hnm hN hK hP hD hS hA hl
  have h := hu
  clear hu
  unfold f_X8_fault at h
  have hl : lv_has ls 2 [(0, .ref a_h)] := hl
  have B5 : ∀ (k : Nat) (m_at : Int32) (m_sign : Int32) (m_number : Int32) (H : Heap) (locs : List Loc) (ls : Array Slot), f_X8_fault_b5 N v_typed v_text_A k m_at m_sign m_number = some u → va_P D vwCl [(a_h, .inr (8, [.ref a_h_d, .long v_account, .ref a_h_was, .ref a_h_accounts, .int v_states, .int v_refused, .ref a_h_text, .int v_typed, .int m_at, .int m_sign, .int m_number, .ref a_h_aside, .ref a_h_places, .ref a_h_told])), (a_h_text, .inl (cC, 80, .inl v_text_A))] H → va_D A [(a_h, .inr (8, [.ref a_h_d, .long v_account, .ref a_h_was, .ref a_h_accounts, .int v_states, .int v_refused, .ref a_h_text, .int v_typed, .int m_at, .int m_sign, .int m_number, .ref a_h_aside, .ref a_h_places, .ref a_h_told])), (a_h_text, .inl (cC, 80, .inl v_text_A))] → va_S A s.heap H locs → lv_has ls 2 [(0, .ref a_h)] → W p l e ({ frames := 3, cells := 0, slots := 0, locals := 69 } : Room) s m ([.ref a_h] : List Value).toArray below meth c H locs 0 0 (MQ below (QI D (ty4 cI cC cJ cB) A [(a_h, .inr (8, [.ref a_h_d, .long v_account, .ref a_h_was, .ref a_h_accounts, .int v_states, .int v_refused, .ref a_h_text, .int v_typed, .int u.2.1, .int u.2.2.1, .int u.2.2.2, .ref a_h_aside, .ref a_h_places, .ref a_h_told])), (a_h_text, .inl (cC, 80, .inl v_text_A))] u.1) ([.ref a_h] : List Value).toArray s 0 0 A) (F0 m 5 ls []) := by
    intro k
    induction k with
    | zero =>
      intro m_at m_sign m_number H locs ls h
      exact nomatch (show (none : Option (Int32 × Int32 × Int32 × Int32)) = some u from h)
    | succ k ih =>
      intro m_at m_sign m_number H locs ls h hP hD hS hl
      rw [f_X8_fault_b5.eq_2] at h
      refine lv_aload_n hx hb dX8_fault_5 rfl (lv_at hl 0 rfl) ?_
      refine va_get (D := D) (ci := 8) (v := .int m_at) (C := RX8) (T := TX8) (N := 14) hx hb hts in_X8_fault_X8 hown hK hP 0 rfl rfl 8 (by decide) (hts _ q_X8_fault_1) (fun _ h9 => h9) rfl dX8_fault_6 ?_
      refine lv_aload_n hx hb dX8_fault_9 rfl (lv_at hl 0 rfl) ?_
      refine va_get (D := D) (ci := 8) (v := .int v_typed) (C := RX8) (T := TX8) (N := 14) hx hb hts in_X8_fault_X8 hown hK hP 0 rfl rfl 7 (by decide) (hts _ q_X8_fault_2) (fun _ h9 => h9) rfl dX8_fault_10 ?_
      refine lv_icmp_ge (tgt := 33) hx hb dX8_fault_13 (by decide) (fun hc1 => ?_) (fun hc1 => ?_)
      · replace h := it_e hc1 h
        refine lv_ldc (v := (-2000000004 : Int32)) hx hb hown (hts _ q_X8_fault_3) dX8_fault_33 ?_
        obtain rfl := sm_e h
        exact rx_i hx hb hr  hP hK hD hS dX8_fault_35 hlocks
      · replace h := if_e hc1 h
        refine lv_aload_n hx hb dX8_fault_16 rfl (lv_at hl 0 rfl) ?_
        refine va_get (D := D) (ci := 8) (v := .int m_at) (C := RX8) (T := TX8) (N := 14) hx hb hts in_X8_fault_X8 hown hK hP 0 rfl rfl 8 (by decide) (hts _ q_X8_fault_1) (fun _ h9 => h9) rfl dX8_fault_17 ?_
        refine lv_istore_n (lv' := [(1, .int m_at), (0, .ref a_h)]) hx hb dX8_fault_20 rfl hl (by decide) rfl (fun ls hl => ?_)
        refine lv_aload_n hx hb dX8_fault_21 rfl (lv_at hl 1 rfl) ?_
        obtain ⟨u2, hu2, h⟩ := bd_e h
        refine kx_i (mc := 0) (ms := 0) (wr := []) (ws2 := [(a_h, .inr (8, [.ref a_h_d, .long v_account, .ref a_h_was, .ref a_h_accounts, .int v_states, .int v_refused, .ref a_h_text, .int v_typed, .int u2.2.1, .int u2.2.2.1, .int u2.2.2.2, .ref a_h_aside, .ref a_h_places, .ref a_h_told])), (a_h_text, .inl (cC, 80, .inl v_text_A))]) (va_runV (As := []) (rest := []) ⟨hx, hb, hml, hown, hts⟩ (k_X8_readsMove l D cI cC cJ cB a_h a_h_d a_h_was a_h_accounts a_h_text a_h_aside a_h_places a_h_told v_account v_states v_refused v_typed m_at m_sign m_number v_text_A N H.size _ hu2) (cwV 0 hts gX8_fault_X8_readsMove rfl rfl rfl (by decide +kernel) ⟨Nat.le_of_ble_eq_true rfl, Nat.le_of_ble_eq_true rfl⟩) (pv_V hP hD hK hN [0, 1] rfl rfl (ci := 8) rfl 0 rfl) rfl rfl hl.1 rfl (lv_room (Nat.le_of_ble_eq_true rfl)) dX8_fault_22 ⟨Nat.zero_le _, Nat.zero_le _⟩) hP hD hS hA [0, 1] [] [0, 1] rfl rfl rfl rfl rfl rfl (fun H locs hP hD hS => ?_)
        refine lv_if_ne (tgt := 30) hx hb dX8_fault_25 (by decide) (fun hc3 => ?_) (fun hc3 => ?_)
        · replace h := it_e hc3 h
          refine lv_goto (tgt := 5) hx hb dX8_fault_30 (by decide) ?_
          exact ih u2.2.1 u2.2.2.1 u2.2.2.2 _ _ _ h hP hD hS (lv_sub hl [1] rfl)
        · replace h := in_e hc3 h
          refine lv_iload_n hx hb dX8_fault_28 rfl (lv_at hl 0 rfl) ?_
          obtain rfl := sm_e h
          exact rx_i hx hb hr  hP hK hD hS dX8_fault_29 hlocks
  refine lv_aload_n hx hb dX8_fault_0 rfl (lv_at hl 0 rfl) ?_
  refine lv_iconst (v := (0 : Int32)) hx hb dX8_fault_1 (by decide) ?_
  refine va_put (D := D) (ci := 8) (v := .int (0 : Int32)) (ty := .int) (C := RX8) (T := TX8) (N := 14) hx hb hts in_X8_fault_X8 tyX8 tyX8_ok nmX8 hown hK hP hD hS 0 rfl rfl 8 (by decide) (hts _ q_X8_fault_1) (fun _ h9 => h9) rfl (by decide +kernel) rfl rfl (Nat.le_of_ble_eq_true rfl) dX8_fault_2 (fun H locs hP hD hS => ?_)
  have hP : va_P D vwCl [(a_h, .inr (8, [.ref a_h_d, .long v_account, .ref a_h_was, .ref a_h_accounts, .int v_states, .int v_refused, .ref a_h_text, .int v_typed, .int (0 : Int32), .int v_sign, .int v_number, .ref a_h_aside, .ref a_h_places, .ref a_h_told])), (a_h_text, .inl (cC, 80, .inl v_text_A))] H := hP
  have hD : va_D A [(a_h, .inr (8, [.ref a_h_d, .long v_account, .ref a_h_was, .ref a_h_accounts, .int v_states, .int v_refused, .ref a_h_text, .int v_typed, .int (0 : Int32), .int v_sign, .int v_number, .ref a_h_aside, .ref a_h_places, .ref a_h_told])), (a_h_text, .inl (cC, 80, .inl v_text_A))] := hD
  exact B5 N (0 : Int32) v_sign v_number _ _ _ h hP hD hS hl
-- X8_carries
def f_X8_carries_b20 (N : Nat) (v_sign : Int32) (v_number : Int32) (m_account : Int64) (m_d_A : Nat → Int32) : Option (Int32 × Int64 × (Nat → Int32)) :=
  (if ¬ v_sign = (43 : Int32) then Option.bind (f_X8_refusal m_d_A v_number (0 : Int32)) (fun u3 => (if ¬ u3 = 0 then some (u3, m_account, m_d_A)
    else (if ¬ v_sign = (43 : Int32) then Option.bind (f_X8_moves N m_account m_d_A v_number (0 : Int32)) (fun u6 => some (u3, u6.1, u6.2))
    else Option.bind (f_X8_moves N m_account m_d_A v_number (1 : Int32)) (fun u7 => some (u3, u7.1, u7.2)))))
    else Option.bind (f_X8_refusal m_d_A v_number (1 : Int32)) (fun u8 => (if ¬ u8 = 0 then some (u8, m_account, m_d_A)
    else (if ¬ v_sign = (43 : Int32) then Option.bind (f_X8_moves N m_account m_d_A v_number (0 : Int32)) (fun u11 => some (u8, u11.1, u11.2))
    else Option.bind (f_X8_moves N m_account m_d_A v_number (1 : Int32)) (fun u12 => some (u8, u12.1, u12.2))))))
def f_X8_carries (N : Nat) (v_account : Int64) (v_sign : Int32) (v_number : Int32) (v_d_A : Nat → Int32) : Option (Int32 × Int64 × (Nat → Int32)) :=
  (if v_sign = (43 : Int32) then (f_X8_carries_b20 N v_sign v_number v_account v_d_A )
    else (if ¬ v_sign = (45 : Int32) then (if ¬ v_sign = (61 : Int32) then (if ¬ v_sign = (104 : Int32) then (if (v_d_A 0) = 0 then (if ¬ (0 : Int32) = 0 then some ((0 : Int32), v_account, v_d_A)
    else Option.bind (f_X8_zeroes v_d_A) (fun u18 => some ((0 : Int32), u18.1, u18.2)))
    else (if ¬ (5 : Int32) = 0 then some ((5 : Int32), v_account, v_d_A)
    else Option.bind (f_X8_zeroes v_d_A) (fun u20 => some ((5 : Int32), u20.1, u20.2))))
    else Option.bind (f_X8_creeps N v_d_A v_number) (fun u21 => some ((0 : Int32), v_account, u21)))
    else Option.bind (f_X8_onPan N v_d_A) (fun u22 => (if u22 ≤ v_number then (if ¬ (0 : Int32) = 0 then some ((0 : Int32), v_account, v_d_A)
    else Option.bind (f_X8_goes N v_account v_d_A v_number) (fun u25 => some ((0 : Int32), u25.1, u25.2)))
    else (if ¬ (4 : Int32) = 0 then some ((4 : Int32), v_account, v_d_A)
    else Option.bind (f_X8_goes N v_account v_d_A v_number) (fun u27 => some ((4 : Int32), u27.1, u27.2))))))
    else (f_X8_carries_b20 N v_sign v_number v_account v_d_A )))
theorem q_X8_carries_1 : (.fieldLink RX8 148 "SpringBalanceModel" "sign" "I" : Cond) ∈ wsX8_carries := List.mem_of_getElem? (i := 1) (by decide +kernel)
set_option maxRecDepth 20000 in
theorem in_X8_carries_X8 : ∀ w ∈ u_ws RX8 TX8 14, w ∈ wsX8_carries := by decide +kernel
theorem q_X8_carries_2 : (.fieldLink RX8 145 "SpringBalanceModel" "number" "I" : Cond) ∈ wsX8_carries := List.mem_of_getElem? (i := 2) (by decide +kernel)
theorem q_X8_carries_3 : (.fieldLink RX8 7 "SpringBalanceModel" "d" "[I" : Cond) ∈ wsX8_carries := List.mem_of_getElem? (i := 3) (by decide +kernel)
set_option maxHeartbeats 8000000 in
set_option maxRecDepth 100000 in
theorem k_X8_carries (l : Launch) (D : va_G) (cI cC cJ cB : ClassId) (a_h a_h_d a_h_was a_h_accounts a_h_text a_h_aside a_h_places a_h_told : Nat) (v_account : Int64) (v_states : Int32) (v_refused : Int32) (v_typed : Int32) (v_at : Int32) (v_sign : Int32) (v_number : Int32) (v_d_A : Nat → Int32) (N : Nat) (sz : Nat) (u : Int32 × Int64 × (Nat → Int32)) (hu : f_X8_carries N v_account v_sign v_number v_d_A = some u) :
    Met l yX8_carries wsX8_carries ({ frames := 4, cells := 0, slots := 0, locals := 98 } : Room) (va_Pc [.ref a_h] (PreW D (ty4 cI cC cJ cB) sz [(a_h, .inr (8, [.ref a_h_d, .long v_account, .ref a_h_was, .ref a_h_accounts, .int v_states, .int v_refused, .ref a_h_text, .int v_typed, .int v_at, .int v_sign, .int v_number, .ref a_h_aside, .ref a_h_places, .ref a_h_told])), (a_h_d, .inl (cI, 2086, .inl v_d_A))]))
      (QI D (ty4 cI cC cJ cB) (va_A [(a_h, .inr (8, [.ref a_h_d, .long v_account, .ref a_h_was, .ref a_h_accounts, .int v_states, .int v_refused, .ref a_h_text, .int v_typed, .int v_at, .int v_sign, .int v_number, .ref a_h_aside, .ref a_h_places, .ref a_h_told])), (a_h_d, .inl (cI, 2086, .inl v_d_A))] sz) [(a_h, .inr (8, [.ref a_h_d, .long u.2.1, .ref a_h_was, .ref a_h_accounts, .int v_states, .int v_refused, .ref a_h_text, .int v_typed, .int v_at, .int v_sign, .int v_number, .ref a_h_aside, .ref a_h_places, .ref a_h_told])), (a_h_d, .inl (cI, 2086, .inl u.2.2))] u.1) 0 0 (va_A [(a_h, .inr (8, [.ref a_h_d, .long v_account, .ref a_h_was, .ref a_h_accounts, .int v_states, .int v_refused, .ref a_h_text, .int v_typed, .int v_at, .int v_sign, .int v_number, .ref a_h_aside, .ref a_h_places, .ref a_h_told])), (a_h_d, .inl (cI, 2086, .inl v_d_A))] sz) := by
  refine met_go (y := yX8_carries) (wsy := wsX8_carries) (cc := cX8_carries) (maxL := 2) (ret := (some .int)) (av := [.ref a_h]) (Qc := fun A => QI D (ty4 cI cC cJ cB) A [(a_h, .inr (8, [.ref a_h_d, .long u.2.1, .ref a_h_was, .ref a_h_accounts, .int v_states, .int v_refused, .ref a_h_text, .int v_typed, .int v_at, .int v_sign, .int v_number, .ref a_h_aside, .ref a_h_places, .ref a_h_told])), (a_h_d, .inl (cI, 2086, .inl u.2.2))] u.1) (by decide) rfl (Nat.le_of_ble_eq_true rfl) ?_
  intro p e s m below meth c A ls hx hb hr hml hown hts hlocks hnm hN hK hP hD hS hA hl
  have h := hu
  clear hu
  unfold f_X8_carries at h
  have hl : lv_has ls 2 [(0, .ref a_h)] := hl
  have B20 : ∀ (x1 : Int32) (m_account : Int64) (m_d_A : Nat → Int32) (H : Heap) (locs : List Loc) (ls : Array Slot), f_X8_carries_b20 N v_sign v_number m_account m_d_A  = some u → va_P D vwCl [(a_h, .inr (8, [.ref a_h_d, .long m_account, .ref a_h_was, .ref a_h_accounts, .int v_states, .int v_refused, .ref a_h_text, .int v_typed, .int v_at, .int v_sign, .int v_number, .ref a_h_aside, .ref a_h_places, .ref a_h_told])), (a_h_d, .inl (cI, 2086, .inl m_d_A))] H → va_D A [(a_h, .inr (8, [.ref a_h_d, .long m_account, .ref a_h_was, .ref a_h_accounts, .int v_states, .int v_refused, .ref a_h_text, .int v_typed, .int v_at, .int v_sign, .int v_number, .ref a_h_aside, .ref a_h_places, .ref a_h_told])), (a_h_d, .inl (cI, 2086, .inl m_d_A))] → va_S A s.heap H locs → lv_has ls 2 [(0, .ref a_h), (1, .int x1)] → W p l e ({ frames := 4, cells := 0, slots := 0, locals := 98 } : Room) s m ([.ref a_h] : List Value).toArray below meth c H locs 0 0 (MQ below (QI D (ty4 cI cC cJ cB) A [(a_h, .inr (8, [.ref a_h_d, .long u.2.1, .ref a_h_was, .ref a_h_accounts, .int v_states, .int v_refused, .ref a_h_text, .int v_typed, .int v_at, .int v_sign, .int v_number, .ref a_h_aside, .ref a_h_places, .ref a_h_told])), (a_h_d, .inl (cI, 2086, .inl u.2.2))] u.1) ([.ref a_h] : List Value).toArray s 0 0 A) (F0 m 20 ls []) := by
    intro x1 m_account m_d_A H locs ls h hP hD hS hl
    unfold f_X8_carries_b20 at h
    refine lv_aload_n hx hb dX8_carries_20 rfl (lv_at hl 0 rfl) ?_
    refine lv_aload_n hx hb dX8_carries_21 rfl (lv_at hl 0 rfl) ?_
    refine va_get (D := D) (ci := 8) (v := .int v_number) (C := RX8) (T := TX8) (N := 14) hx hb hts in_X8_carries_X8 hown hK hP 0 rfl rfl 10 (by decide) (hts _ q_X8_carries_2) (fun _ h9 => h9) rfl dX8_carries_22 ?_
    refine lv_aload_n hx hb dX8_carries_25 rfl (lv_at hl 0 rfl) ?_
    refine va_get (D := D) (ci := 8) (v := .int v_sign) (C := RX8) (T := TX8) (N := 14) hx hb hts in_X8_carries_X8 hown hK hP 0 rfl rfl 9 (by decide) (hts _ q_X8_carries_1) (fun _ h9 => h9) rfl dX8_carries_26 ?_
    refine lv_bipush (v := (43 : Int32)) hx hb dX8_carries_29 (by decide) ?_
    refine lv_icmp_ne (tgt := 38) hx hb dX8_carries_31 (by decide) (fun hc2 => ?_) (fun hc2 => ?_)
    · replace h := it_e hc2 h
      refine lv_iconst (v := (0 : Int32)) hx hb dX8_carries_38 (by decide) ?_
      obtain ⟨u3, hu3, h⟩ := bd_e h
      refine kx_i (mc := 0) (ms := 0) (wr := []) (ws2 := [(a_h, .inr (8, [.ref a_h_d, .long m_account, .ref a_h_was, .ref a_h_accounts, .int v_states, .int v_refused, .ref a_h_text, .int v_typed, .int v_at, .int v_sign, .int v_number, .ref a_h_aside, .ref a_h_places, .ref a_h_told])), (a_h_d, .inl (cI, 2086, .inl m_d_A))]) (va_runV (As := [.int v_number, .int (0 : Int32)]) (rest := []) ⟨hx, hb, hml, hown, hts⟩ (k_X8_refusal l D cI cC cJ cB a_h a_h_d a_h_was a_h_accounts a_h_text a_h_aside a_h_places a_h_told m_account v_states v_refused v_typed v_at v_sign v_number m_d_A N v_number (0 : Int32) H.size _ hu3) (cwV 2 hts gX8_carries_X8_refusal rfl rfl rfl (by decide +kernel) ⟨Nat.le_of_ble_eq_true rfl, Nat.le_of_ble_eq_true rfl⟩) (pv_V hP hD hK hN [0, 1] rfl rfl (ci := 8) rfl 0 rfl) rfl rfl hl.1 rfl (lv_room (Nat.le_of_ble_eq_true rfl)) dX8_carries_39 ⟨Nat.zero_le _, Nat.zero_le _⟩) hP hD hS hA [0, 1] [] [0, 1] rfl rfl rfl rfl rfl rfl (fun H locs hP hD hS => ?_)
      refine lv_istore_n (lv' := [(1, .int u3), (0, .ref a_h)]) hx hb dX8_carries_42 rfl hl (by decide) rfl (fun ls hl => ?_)
      refine lv_iload_n hx hb dX8_carries_43 rfl (lv_at hl 0 rfl) ?_
      refine lv_if_ne (tgt := 156) hx hb dX8_carries_44 (by decide) (fun hc4 => ?_) (fun hc4 => ?_)
      · replace h := it_e hc4 h
        refine lv_iload_n hx hb dX8_carries_156 rfl (lv_at hl 0 rfl) ?_
        obtain rfl := sm_e h
        exact rx_i hx hb hr  hP hK hD hS dX8_carries_157 hlocks
      · replace h := in_e hc4 h
        refine lv_aload_n hx hb dX8_carries_47 rfl (lv_at hl 1 rfl) ?_
        refine lv_aload_n hx hb dX8_carries_48 rfl (lv_at hl 1 rfl) ?_
        refine va_get (D := D) (ci := 8) (v := .int v_number) (C := RX8) (T := TX8) (N := 14) hx hb hts in_X8_carries_X8 hown hK hP 0 rfl rfl 10 (by decide) (hts _ q_X8_carries_2) (fun _ h9 => h9) rfl dX8_carries_49 ?_
        refine lv_aload_n hx hb dX8_carries_52 rfl (lv_at hl 1 rfl) ?_
        refine va_get (D := D) (ci := 8) (v := .int v_sign) (C := RX8) (T := TX8) (N := 14) hx hb hts in_X8_carries_X8 hown hK hP 0 rfl rfl 9 (by decide) (hts _ q_X8_carries_1) (fun _ h9 => h9) rfl dX8_carries_53 ?_
        refine lv_bipush (v := (43 : Int32)) hx hb dX8_carries_56 (by decide) ?_
        refine lv_icmp_ne (tgt := 65) hx hb dX8_carries_58 (by decide) (fun hc5 => ?_) (fun hc5 => ?_)
        · replace h := it_e hc5 h
          refine lv_iconst (v := (0 : Int32)) hx hb dX8_carries_65 (by decide) ?_
          obtain ⟨u6, hu6, h⟩ := bd_e h
          refine kx_v (mc := 0) (ms := 0) (wr := []) (ws2 := [(a_h, .inr (8, [.ref a_h_d, .long u6.1, .ref a_h_was, .ref a_h_accounts, .int v_states, .int v_refused, .ref a_h_text, .int v_typed, .int v_at, .int v_sign, .int v_number, .ref a_h_aside, .ref a_h_places, .ref a_h_told])), (a_h_d, .inl (cI, 2086, .inl u6.2))]) (va_runV (As := [.int v_number, .int (0 : Int32)]) (rest := []) ⟨hx, hb, hml, hown, hts⟩ (k_X8_moves l D cI cC cJ cB a_h a_h_d a_h_was a_h_accounts a_h_text a_h_aside a_h_places a_h_told m_account v_states v_refused v_typed v_at v_sign v_number m_d_A N v_number (0 : Int32) H.size _ hu6) (cwV 2 hts gX8_carries_X8_moves rfl rfl rfl (by decide +kernel) ⟨Nat.le_of_ble_eq_true rfl, Nat.le_of_ble_eq_true rfl⟩) (pv_V hP hD hK hN [0, 1] rfl rfl (ci := 8) rfl 0 rfl) rfl rfl hl.1 rfl (lv_room (Nat.le_of_ble_eq_true rfl)) dX8_carries_66 ⟨Nat.zero_le _, Nat.zero_le _⟩) hP hD hS hA [0, 1] [] [0, 1] rfl rfl rfl rfl rfl rfl (fun H locs hP hD hS => ?_)
          refine lv_goto (tgt := 156) hx hb dX8_carries_69 (by decide) ?_
          refine lv_iload_n hx hb dX8_carries_156 rfl (lv_at hl 0 rfl) ?_
          obtain rfl := sm_e h
          exact rx_i hx hb hr  hP hK hD hS dX8_carries_157 hlocks
        · replace h := in_e hc5 h
          refine lv_iconst (v := (1 : Int32)) hx hb dX8_carries_61 (by decide) ?_
          refine lv_goto (tgt := 66) hx hb dX8_carries_62 (by decide) ?_
          obtain ⟨u7, hu7, h⟩ := bd_e h
          refine kx_v (mc := 0) (ms := 0) (wr := []) (ws2 := [(a_h, .inr (8, [.ref a_h_d, .long u7.1, .ref a_h_was, .ref a_h_accounts, .int v_states, .int v_refused, .ref a_h_text, .int v_typed, .int v_at, .int v_sign, .int v_number, .ref a_h_aside, .ref a_h_places, .ref a_h_told])), (a_h_d, .inl (cI, 2086, .inl u7.2))]) (va_runV (As := [.int v_number, .int (1 : Int32)]) (rest := []) ⟨hx, hb, hml, hown, hts⟩ (k_X8_moves l D cI cC cJ cB a_h a_h_d a_h_was a_h_accounts a_h_text a_h_aside a_h_places a_h_told m_account v_states v_refused v_typed v_at v_sign v_number m_d_A N v_number (1 : Int32) H.size _ hu7) (cwV 2 hts gX8_carries_X8_moves rfl rfl rfl (by decide +kernel) ⟨Nat.le_of_ble_eq_true rfl, Nat.le_of_ble_eq_true rfl⟩) (pv_V hP hD hK hN [0, 1] rfl rfl (ci := 8) rfl 0 rfl) rfl rfl hl.1 rfl (lv_room (Nat.le_of_ble_eq_true rfl)) dX8_carries_66 ⟨Nat.zero_le _, Nat.zero_le _⟩) hP hD hS hA [0, 1] [] [0, 1] rfl rfl rfl rfl rfl rfl (fun H locs hP hD hS => ?_)
          refine lv_goto (tgt := 156) hx hb dX8_carries_69 (by decide) ?_
          refine lv_iload_n hx hb dX8_carries_156 rfl (lv_at hl 0 rfl) ?_
          obtain rfl := sm_e h
          exact rx_i hx hb hr  hP hK hD hS dX8_carries_157 hlocks
    · replace h := in_e hc2 h
      refine lv_iconst (v := (1 : Int32)) hx hb dX8_carries_34 (by decide) ?_
      refine lv_goto (tgt := 39) hx hb dX8_carries_35 (by decide) ?_
      obtain ⟨u8, hu8, h⟩ := bd_e h
      refine kx_i (mc := 0) (ms := 0) (wr := []) (ws2 := [(a_h, .inr (8, [.ref a_h_d, .long m_account, .ref a_h_was, .ref a_h_accounts, .int v_states, .int v_refused, .ref a_h_text, .int v_typed, .int v_at, .int v_sign, .int v_number, .ref a_h_aside, .ref a_h_places, .ref a_h_told])), (a_h_d, .inl (cI, 2086, .inl m_d_A))]) (va_runV (As := [.int v_number, .int (1 : Int32)]) (rest := []) ⟨hx, hb, hml, hown, hts⟩ (k_X8_refusal l D cI cC cJ cB a_h a_h_d a_h_was a_h_accounts a_h_text a_h_aside a_h_places a_h_told m_account v_states v_refused v_typed v_at v_sign v_number m_d_A N v_number (1 : Int32) H.size _ hu8) (cwV 2 hts gX8_carries_X8_refusal rfl rfl rfl (by decide +kernel) ⟨Nat.le_of_ble_eq_true rfl, Nat.le_of_ble_eq_true rfl⟩) (pv_V hP hD hK hN [0, 1] rfl rfl (ci := 8) rfl 0 rfl) rfl rfl hl.1 rfl (lv_room (Nat.le_of_ble_eq_true rfl)) dX8_carries_39 ⟨Nat.zero_le _, Nat.zero_le _⟩) hP hD hS hA [0, 1] [] [0, 1] rfl rfl rfl rfl rfl rfl (fun H locs hP hD hS => ?_)
      refine lv_istore_n (lv' := [(1, .int u8), (0, .ref a_h)]) hx hb dX8_carries_42 rfl hl (by decide) rfl (fun ls hl => ?_)
      refine lv_iload_n hx hb dX8_carries_43 rfl (lv_at hl 0 rfl) ?_
      refine lv_if_ne (tgt := 156) hx hb dX8_carries_44 (by decide) (fun hc9 => ?_) (fun hc9 => ?_)
      · replace h := it_e hc9 h
        refine lv_iload_n hx hb dX8_carries_156 rfl (lv_at hl 0 rfl) ?_
        obtain rfl := sm_e h
        exact rx_i hx hb hr  hP hK hD hS dX8_carries_157 hlocks
      · replace h := in_e hc9 h
        refine lv_aload_n hx hb dX8_carries_47 rfl (lv_at hl 1 rfl) ?_
        refine lv_aload_n hx hb dX8_carries_48 rfl (lv_at hl 1 rfl) ?_
        refine va_get (D := D) (ci := 8) (v := .int v_number) (C := RX8) (T := TX8) (N := 14) hx hb hts in_X8_carries_X8 hown hK hP 0 rfl rfl 10 (by decide) (hts _ q_X8_carries_2) (fun _ h9 => h9) rfl dX8_carries_49 ?_
        refine lv_aload_n hx hb dX8_carries_52 rfl (lv_at hl 1 rfl) ?_
        refine va_get (D := D) (ci := 8) (v := .int v_sign) (C := RX8) (T := TX8) (N := 14) hx hb hts in_X8_carries_X8 hown hK hP 0 rfl rfl 9 (by decide) (hts _ q_X8_carries_1) (fun _ h9 => h9) rfl dX8_carries_53 ?_
        refine lv_bipush (v := (43 : Int32)) hx hb dX8_carries_56 (by decide) ?_
        refine lv_icmp_ne (tgt := 65) hx hb dX8_carries_58 (by decide) (fun hc10 => ?_) (fun hc10 => ?_)
        · replace h := it_e hc10 h
          refine lv_iconst (v := (0 : Int32)) hx hb dX8_carries_65 (by decide) ?_
          obtain ⟨u11, hu11, h⟩ := bd_e h
          refine kx_v (mc := 0) (ms := 0) (wr := []) (ws2 := [(a_h, .inr (8, [.ref a_h_d, .long u11.1, .ref a_h_was, .ref a_h_accounts, .int v_states, .int v_refused, .ref a_h_text, .int v_typed, .int v_at, .int v_sign, .int v_number, .ref a_h_aside, .ref a_h_places, .ref a_h_told])), (a_h_d, .inl (cI, 2086, .inl u11.2))]) (va_runV (As := [.int v_number, .int (0 : Int32)]) (rest := []) ⟨hx, hb, hml, hown, hts⟩ (k_X8_moves l D cI cC cJ cB a_h a_h_d a_h_was a_h_accounts a_h_text a_h_aside a_h_places a_h_told m_account v_states v_refused v_typed v_at v_sign v_number m_d_A N v_number (0 : Int32) H.size _ hu11) (cwV 2 hts gX8_carries_X8_moves rfl rfl rfl (by decide +kernel) ⟨Nat.le_of_ble_eq_true rfl, Nat.le_of_ble_eq_true rfl⟩) (pv_V hP hD hK hN [0, 1] rfl rfl (ci := 8) rfl 0 rfl) rfl rfl hl.1 rfl (lv_room (Nat.le_of_ble_eq_true rfl)) dX8_carries_66 ⟨Nat.zero_le _, Nat.zero_le _⟩) hP hD hS hA [0, 1] [] [0, 1] rfl rfl rfl rfl rfl rfl (fun H locs hP hD hS => ?_)
          refine lv_goto (tgt := 156) hx hb dX8_carries_69 (by decide) ?_
          refine lv_iload_n hx hb dX8_carries_156 rfl (lv_at hl 0 rfl) ?_
          obtain rfl := sm_e h
          exact rx_i hx hb hr  hP hK hD hS dX8_carries_157 hlocks
        · replace h := in_e hc10 h
          refine lv_iconst (v := (1 : Int32)) hx hb dX8_carries_61 (by decide) ?_
          refine lv_goto (tgt := 66) hx hb dX8_carries_62 (by decide) ?_
          obtain ⟨u12, hu12, h⟩ := bd_e h
          refine kx_v (mc := 0) (ms := 0) (wr := []) (ws2 := [(a_h, .inr (8, [.ref a_h_d, .long u12.1, .ref a_h_was, .ref a_h_accounts, .int v_states, .int v_refused, .ref a_h_text, .int v_typed, .int v_at, .int v_sign, .int v_number, .ref a_h_aside, .ref a_h_places, .ref a_h_told])), (a_h_d, .inl (cI, 2086, .inl u12.2))]) (va_runV (As := [.int v_number, .int (1 : Int32)]) (rest := []) ⟨hx, hb, hml, hown, hts⟩ (k_X8_moves l D cI cC cJ cB a_h a_h_d a_h_was a_h_accounts a_h_text a_h_aside a_h_places a_h_told m_account v_states v_refused v_typed v_at v_sign v_number m_d_A N v_number (1 : Int32) H.size _ hu12) (cwV 2 hts gX8_carries_X8_moves rfl rfl rfl (by decide +kernel) ⟨Nat.le_of_ble_eq_true rfl, Nat.le_of_ble_eq_true rfl⟩) (pv_V hP hD hK hN [0, 1] rfl rfl (ci := 8) rfl 0 rfl) rfl rfl hl.1 rfl (lv_room (Nat.le_of_ble_eq_true rfl)) dX8_carries_66 ⟨Nat.zero_le _, Nat.zero_le _⟩) hP hD hS hA [0, 1] [] [0, 1] rfl rfl rfl rfl rfl rfl (fun H locs hP hD hS => ?_)
          refine lv_goto (tgt := 156) hx hb dX8_carries_69 (by decide) ?_
          refine lv_iload_n hx hb dX8_carries_156 rfl (lv_at hl 0 rfl) ?_
          obtain rfl := sm_e h
          exact rx_i hx hb hr  hP hK hD hS dX8_carries_157 hlocks
  refine lv_iconst (v := (0 : Int32)) hx hb dX8_carries_0 (by decide) ?_
  refine lv_istore_n (lv' := [(1, .int (0 : Int32)), (0, .ref a_h)]) hx hb dX8_carries_1 rfl hl (by decide) rfl (fun ls hl => ?_)
  refine lv_aload_n hx hb dX8_carries_2 rfl (lv_at hl 1 rfl) ?_
  refine va_get (D := D) (ci := 8) (v := .int v_sign) (C := RX8) (T := TX8) (N := 14) hx hb hts in_X8_carries_X8 hown hK hP 0 rfl rfl 9 (by decide) (hts _ q_X8_carries_1) (fun _ h9 => h9) rfl dX8_carries_3 ?_
  refine lv_bipush (v := (43 : Int32)) hx hb dX8_carries_6 (by decide) ?_
  refine lv_icmp_eq (tgt := 20) hx hb dX8_carries_8 (by decide) (fun hc1 => ?_) (fun hc1 => ?_)
  · replace h := it_e hc1 h
    exact B20 (0 : Int32) v_account v_d_A _ _ _ h hP hD hS (lv_sub hl [1, 0] rfl)
  · replace h := if_e hc1 h
    refine lv_aload_n hx hb dX8_carries_11 rfl (lv_at hl 1 rfl) ?_
    refine va_get (D := D) (ci := 8) (v := .int v_sign) (C := RX8) (T := TX8) (N := 14) hx hb hts in_X8_carries_X8 hown hK hP 0 rfl rfl 9 (by decide) (hts _ q_X8_carries_1) (fun _ h9 => h9) rfl dX8_carries_12 ?_
    refine lv_bipush (v := (45 : Int32)) hx hb dX8_carries_15 (by decide) ?_
    refine lv_icmp_ne (tgt := 72) hx hb dX8_carries_17 (by decide) (fun hc13 => ?_) (fun hc13 => ?_)
    · replace h := it_e hc13 h
      refine lv_aload_n hx hb dX8_carries_72 rfl (lv_at hl 1 rfl) ?_
      refine va_get (D := D) (ci := 8) (v := .int v_sign) (C := RX8) (T := TX8) (N := 14) hx hb hts in_X8_carries_X8 hown hK hP 0 rfl rfl 9 (by decide) (hts _ q_X8_carries_1) (fun _ h9 => h9) rfl dX8_carries_73 ?_
      refine lv_bipush (v := (61 : Int32)) hx hb dX8_carries_76 (by decide) ?_
      refine lv_icmp_ne (tgt := 113) hx hb dX8_carries_78 (by decide) (fun hc14 => ?_) (fun hc14 => ?_)
      · replace h := it_e hc14 h
        refine lv_aload_n hx hb dX8_carries_113 rfl (lv_at hl 1 rfl) ?_
        refine va_get (D := D) (ci := 8) (v := .int v_sign) (C := RX8) (T := TX8) (N := 14) hx hb hts in_X8_carries_X8 hown hK hP 0 rfl rfl 9 (by decide) (hts _ q_X8_carries_1) (fun _ h9 => h9) rfl dX8_carries_114 ?_
        refine lv_bipush (v := (104 : Int32)) hx hb dX8_carries_117 (by decide) ?_
        refine lv_icmp_ne (tgt := 133) hx hb dX8_carries_119 (by decide) (fun hc15 => ?_) (fun hc15 => ?_)
        · replace h := it_e hc15 h
          refine lv_aload_n hx hb dX8_carries_133 rfl (lv_at hl 1 rfl) ?_
          refine va_get (D := D) (ci := 8) (v := .ref a_h_d) (C := RX8) (T := TX8) (N := 14) hx hb hts in_X8_carries_X8 hown hK hP 0 rfl rfl 0 (by decide) (hts _ q_X8_carries_3) (fun _ h9 => h9) rfl dX8_carries_134 ?_
          refine lv_iconst (v := (0 : Int32)) hx hb dX8_carries_137 (by decide) ?_
          refine wx_iald hx hb hK hP 1 0 rfl rfl 0 (by decide) (by unfold vp_in; decide) dX8_carries_138 ?_
          refine lv_if_eq (tgt := 146) hx hb dX8_carries_139 (by decide) (fun hc16 => ?_) (fun hc16 => ?_)
          · replace h := it_e hc16 h
            refine lv_iconst (v := (0 : Int32)) hx hb dX8_carries_146 (by decide) ?_
            refine lv_istore_n (lv' := [(1, .int (0 : Int32)), (0, .ref a_h)]) hx hb dX8_carries_147 rfl hl (by decide) rfl (fun ls hl => ?_)
            refine lv_iload_n hx hb dX8_carries_148 rfl (lv_at hl 0 rfl) ?_
            refine lv_if_ne (tgt := 156) hx hb dX8_carries_149 (by decide) (fun hc17 => ?_) (fun hc17 => ?_)
            · replace h := it_e hc17 h
              refine lv_iload_n hx hb dX8_carries_156 rfl (lv_at hl 0 rfl) ?_
              obtain rfl := sm_e h
              exact rx_i hx hb hr  hP hK hD hS dX8_carries_157 hlocks
            · replace h := in_e hc17 h
              refine lv_aload_n hx hb dX8_carries_152 rfl (lv_at hl 1 rfl) ?_
              obtain ⟨u18, hu18, h⟩ := bd_e h
              refine kx_v (mc := 0) (ms := 0) (wr := []) (ws2 := [(a_h, .inr (8, [.ref a_h_d, .long u18.1, .ref a_h_was, .ref a_h_accounts, .int v_states, .int v_refused, .ref a_h_text, .int v_typed, .int v_at, .int v_sign, .int v_number, .ref a_h_aside, .ref a_h_places, .ref a_h_told])), (a_h_d, .inl (cI, 2086, .inl u18.2))]) (va_runV (As := []) (rest := []) ⟨hx, hb, hml, hown, hts⟩ (k_X8_zeroes l D cI cC cJ cB a_h a_h_d a_h_was a_h_accounts a_h_text a_h_aside a_h_places a_h_told v_account v_states v_refused v_typed v_at v_sign v_number v_d_A N s.heap.size _ hu18) (cwV 0 hts gX8_carries_X8_zeroes rfl rfl rfl (by decide +kernel) ⟨Nat.le_of_ble_eq_true rfl, Nat.le_of_ble_eq_true rfl⟩) (pv_V hP hD hK hN [0, 1] rfl rfl (ci := 8) rfl 0 rfl) rfl rfl hl.1 rfl (lv_room (Nat.le_of_ble_eq_true rfl)) dX8_carries_153 ⟨Nat.zero_le _, Nat.zero_le _⟩) hP hD hS hA [0, 1] [] [0, 1] rfl rfl rfl rfl rfl rfl (fun H locs hP hD hS => ?_)
              refine lv_iload_n hx hb dX8_carries_156 rfl (lv_at hl 0 rfl) ?_
              obtain rfl := sm_e h
              exact rx_i hx hb hr  hP hK hD hS dX8_carries_157 hlocks
          · replace h := if_e hc16 h
            refine lv_iconst (v := (5 : Int32)) hx hb dX8_carries_142 (by decide) ?_
            refine lv_goto (tgt := 147) hx hb dX8_carries_143 (by decide) ?_
            refine lv_istore_n (lv' := [(1, .int (5 : Int32)), (0, .ref a_h)]) hx hb dX8_carries_147 rfl hl (by decide) rfl (fun ls hl => ?_)
            refine lv_iload_n hx hb dX8_carries_148 rfl (lv_at hl 0 rfl) ?_
            refine lv_if_ne (tgt := 156) hx hb dX8_carries_149 (by decide) (fun hc19 => ?_) (fun hc19 => ?_)
            · replace h := it_e hc19 h
              refine lv_iload_n hx hb dX8_carries_156 rfl (lv_at hl 0 rfl) ?_
              obtain rfl := sm_e h
              exact rx_i hx hb hr  hP hK hD hS dX8_carries_157 hlocks
            · replace h := in_e hc19 h
              refine lv_aload_n hx hb dX8_carries_152 rfl (lv_at hl 1 rfl) ?_
              obtain ⟨u20, hu20, h⟩ := bd_e h
              refine kx_v (mc := 0) (ms := 0) (wr := []) (ws2 := [(a_h, .inr (8, [.ref a_h_d, .long u20.1, .ref a_h_was, .ref a_h_accounts, .int v_states, .int v_refused, .ref a_h_text, .int v_typed, .int v_at, .int v_sign, .int v_number, .ref a_h_aside, .ref a_h_places, .ref a_h_told])), (a_h_d, .inl (cI, 2086, .inl u20.2))]) (va_runV (As := []) (rest := []) ⟨hx, hb, hml, hown, hts⟩ (k_X8_zeroes l D cI cC cJ cB a_h a_h_d a_h_was a_h_accounts a_h_text a_h_aside a_h_places a_h_told v_account v_states v_refused v_typed v_at v_sign v_number v_d_A N s.heap.size _ hu20) (cwV 0 hts gX8_carries_X8_zeroes rfl rfl rfl (by decide +kernel) ⟨Nat.le_of_ble_eq_true rfl, Nat.le_of_ble_eq_true rfl⟩) (pv_V hP hD hK hN [0, 1] rfl rfl (ci := 8) rfl 0 rfl) rfl rfl hl.1 rfl (lv_room (Nat.le_of_ble_eq_true rfl)) dX8_carries_153 ⟨Nat.zero_le _, Nat.zero_le _⟩) hP hD hS hA [0, 1] [] [0, 1] rfl rfl rfl rfl rfl rfl (fun H locs hP hD hS => ?_)
              refine lv_iload_n hx hb dX8_carries_156 rfl (lv_at hl 0 rfl) ?_
              obtain rfl := sm_e h
              exact rx_i hx hb hr  hP hK hD hS dX8_carries_157 hlocks
        · replace h := in_e hc15 h
          refine lv_aload_n hx hb dX8_carries_122 rfl (lv_at hl 1 rfl) ?_
          refine lv_aload_n hx hb dX8_carries_123 rfl (lv_at hl 1 rfl) ?_
          refine va_get (D := D) (ci := 8) (v := .int v_number) (C := RX8) (T := TX8) (N := 14) hx hb hts in_X8_carries_X8 hown hK hP 0 rfl rfl 10 (by decide) (hts _ q_X8_carries_2) (fun _ h9 => h9) rfl dX8_carries_124 ?_
          obtain ⟨u21, hu21, h⟩ := bd_e h
          refine kx_v (mc := 0) (ms := 0) (wr := []) (ws2 := [(a_h, .inr (8, [.ref a_h_d, .long v_account, .ref a_h_was, .ref a_h_accounts, .int v_states, .int v_refused, .ref a_h_text, .int v_typed, .int v_at, .int v_sign, .int v_number, .ref a_h_aside, .ref a_h_places, .ref a_h_told])), (a_h_d, .inl (cI, 2086, .inl u21))]) (va_runV (As := [.int v_number]) (rest := []) ⟨hx, hb, hml, hown, hts⟩ (k_X8_creeps l D cI cC cJ cB a_h a_h_d a_h_was a_h_accounts a_h_text a_h_aside a_h_places a_h_told v_account v_states v_refused v_typed v_at v_sign v_number v_d_A N v_number s.heap.size _ hu21) (cwV 1 hts gX8_carries_X8_creeps rfl rfl rfl (by decide +kernel) ⟨Nat.le_of_ble_eq_true rfl, Nat.le_of_ble_eq_true rfl⟩) (pv_V hP hD hK hN [0, 1] rfl rfl (ci := 8) rfl 0 rfl) rfl rfl hl.1 rfl (lv_room (Nat.le_of_ble_eq_true rfl)) dX8_carries_127 ⟨Nat.zero_le _, Nat.zero_le _⟩) hP hD hS hA [0, 1] [] [0, 1] rfl rfl rfl rfl rfl rfl (fun H locs hP hD hS => ?_)
          refine lv_goto (tgt := 156) hx hb dX8_carries_130 (by decide) ?_
          refine lv_iload_n hx hb dX8_carries_156 rfl (lv_at hl 0 rfl) ?_
          obtain rfl := sm_e h
          exact rx_i hx hb hr  hP hK hD hS dX8_carries_157 hlocks
      · replace h := in_e hc14 h
        refine lv_aload_n hx hb dX8_carries_81 rfl (lv_at hl 1 rfl) ?_
        obtain ⟨u22, hu22, h⟩ := bd_e h
        refine kx_i (mc := 0) (ms := 0) (wr := []) (ws2 := [(a_h, .inr (8, [.ref a_h_d, .long v_account, .ref a_h_was, .ref a_h_accounts, .int v_states, .int v_refused, .ref a_h_text, .int v_typed, .int v_at, .int v_sign, .int v_number, .ref a_h_aside, .ref a_h_places, .ref a_h_told])), (a_h_d, .inl (cI, 2086, .inl v_d_A))]) (va_runV (As := []) (rest := []) ⟨hx, hb, hml, hown, hts⟩ (k_X8_onPan l D cI cC cJ cB a_h a_h_d a_h_was a_h_accounts a_h_text a_h_aside a_h_places a_h_told v_account v_states v_refused v_typed v_at v_sign v_number v_d_A N s.heap.size _ hu22) (cwV 0 hts gX8_carries_X8_onPan rfl rfl rfl (by decide +kernel) ⟨Nat.le_of_ble_eq_true rfl, Nat.le_of_ble_eq_true rfl⟩) (pv_V hP hD hK hN [0, 1] rfl rfl (ci := 8) rfl 0 rfl) rfl rfl hl.1 rfl (lv_room (Nat.le_of_ble_eq_true rfl)) dX8_carries_82 ⟨Nat.zero_le _, Nat.zero_le _⟩) hP hD hS hA [0, 1] [] [0, 1] rfl rfl rfl rfl rfl rfl (fun H locs hP hD hS => ?_)
        refine lv_aload_n hx hb dX8_carries_85 rfl (lv_at hl 1 rfl) ?_
        refine va_get (D := D) (ci := 8) (v := .int v_number) (C := RX8) (T := TX8) (N := 14) hx hb hts in_X8_carries_X8 hown hK hP 0 rfl rfl 10 (by decide) (hts _ q_X8_carries_2) (fun _ h9 => h9) rfl dX8_carries_86 ?_
        refine lv_icmp_le (tgt := 96) hx hb dX8_carries_89 (by decide) (fun hc23 => ?_) (fun hc23 => ?_)
        · replace h := it_e hc23 h
          refine lv_iconst (v := (0 : Int32)) hx hb dX8_carries_96 (by decide) ?_
          refine lv_istore_n (lv' := [(1, .int (0 : Int32)), (0, .ref a_h)]) hx hb dX8_carries_97 rfl hl (by decide) rfl (fun ls hl => ?_)
          refine lv_iload_n hx hb dX8_carries_98 rfl (lv_at hl 0 rfl) ?_
          refine lv_if_ne (tgt := 156) hx hb dX8_carries_99 (by decide) (fun hc24 => ?_) (fun hc24 => ?_)
          · replace h := it_e hc24 h
            refine lv_iload_n hx hb dX8_carries_156 rfl (lv_at hl 0 rfl) ?_
            obtain rfl := sm_e h
            exact rx_i hx hb hr  hP hK hD hS dX8_carries_157 hlocks
          · replace h := in_e hc24 h
            refine lv_aload_n hx hb dX8_carries_102 rfl (lv_at hl 1 rfl) ?_
            refine lv_aload_n hx hb dX8_carries_103 rfl (lv_at hl 1 rfl) ?_
            refine va_get (D := D) (ci := 8) (v := .int v_number) (C := RX8) (T := TX8) (N := 14) hx hb hts in_X8_carries_X8 hown hK hP 0 rfl rfl 10 (by decide) (hts _ q_X8_carries_2) (fun _ h9 => h9) rfl dX8_carries_104 ?_
            obtain ⟨u25, hu25, h⟩ := bd_e h
            refine kx_v (mc := 0) (ms := 0) (wr := []) (ws2 := [(a_h, .inr (8, [.ref a_h_d, .long u25.1, .ref a_h_was, .ref a_h_accounts, .int v_states, .int v_refused, .ref a_h_text, .int v_typed, .int v_at, .int v_sign, .int v_number, .ref a_h_aside, .ref a_h_places, .ref a_h_told])), (a_h_d, .inl (cI, 2086, .inl u25.2))]) (va_runV (As := [.int v_number]) (rest := []) ⟨hx, hb, hml, hown, hts⟩ (k_X8_goes l D cI cC cJ cB a_h a_h_d a_h_was a_h_accounts a_h_text a_h_aside a_h_places a_h_told v_account v_states v_refused v_typed v_at v_sign v_number v_d_A N v_number H.size _ hu25) (cwV 1 hts gX8_carries_X8_goes rfl rfl rfl (by decide +kernel) ⟨Nat.le_of_ble_eq_true rfl, Nat.le_of_ble_eq_true rfl⟩) (pv_V hP hD hK hN [0, 1] rfl rfl (ci := 8) rfl 0 rfl) rfl rfl hl.1 rfl (lv_room (Nat.le_of_ble_eq_true rfl)) dX8_carries_107 ⟨Nat.zero_le _, Nat.zero_le _⟩) hP hD hS hA [0, 1] [] [0, 1] rfl rfl rfl rfl rfl rfl (fun H locs hP hD hS => ?_)
            refine lv_goto (tgt := 156) hx hb dX8_carries_110 (by decide) ?_
            refine lv_iload_n hx hb dX8_carries_156 rfl (lv_at hl 0 rfl) ?_
            obtain rfl := sm_e h
            exact rx_i hx hb hr  hP hK hD hS dX8_carries_157 hlocks
        · replace h := if_e hc23 h
          refine lv_iconst (v := (4 : Int32)) hx hb dX8_carries_92 (by decide) ?_
          refine lv_goto (tgt := 97) hx hb dX8_carries_93 (by decide) ?_
          refine lv_istore_n (lv' := [(1, .int (4 : Int32)), (0, .ref a_h)]) hx hb dX8_carries_97 rfl hl (by decide) rfl (fun ls hl => ?_)
          refine lv_iload_n hx hb dX8_carries_98 rfl (lv_at hl 0 rfl) ?_
          refine lv_if_ne (tgt := 156) hx hb dX8_carries_99 (by decide) (fun hc26 => ?_) (fun hc26 => ?_)
          · replace h := it_e hc26 h
            refine lv_iload_n hx hb dX8_carries_156 rfl (lv_at hl 0 rfl) ?_
            obtain rfl := sm_e h
            exact rx_i hx hb hr  hP hK hD hS dX8_carries_157 hlocks
          · replace h := in_e hc26 h
            refine lv_aload_n hx hb dX8_carries_102 rfl (lv_at hl 1 rfl) ?_
            refine lv_aload_n hx hb dX8_carries_103 rfl (lv_at hl 1 rfl) ?_
            refine va_get (D := D) (ci := 8) (v := .int v_number) (C := RX8) (T := TX8) (N := 14) hx hb hts in_X8_carries_X8 hown hK hP 0 rfl rfl 10 (by decide) (hts _ q_X8_carries_2) (fun _ h9 => h9) rfl dX8_carries_104 ?_
            obtain ⟨u27, hu27, h⟩ := bd_e h
            refine kx_v (mc := 0) (ms := 0) (wr := []) (ws2 := [(a_h, .inr (8, [.ref a_h_d, .long u27.1, .ref a_h_was, .ref a_h_accounts, .int v_states, .int v_refused, .ref a_h_text, .int v_typed, .int v_at, .int v_sign, .int v_number, .ref a_h_aside, .ref a_h_places, .ref a_h_told])), (a_h_d, .inl (cI, 2086, .inl u27.2))]) (va_runV (As := [.int v_number]) (rest := []) ⟨hx, hb, hml, hown, hts⟩ (k_X8_goes l D cI cC cJ cB a_h a_h_d a_h_was a_h_accounts a_h_text a_h_aside a_h_places a_h_told v_account v_states v_refused v_typed v_at v_sign v_number v_d_A N v_number H.size _ hu27) (cwV 1 hts gX8_carries_X8_goes rfl rfl rfl (by decide +kernel) ⟨Nat.le_of_ble_eq_true rfl, Nat.le_of_ble_eq_true rfl⟩) (pv_V hP hD hK hN [0, 1] rfl rfl (ci := 8) rfl 0 rfl) rfl rfl hl.1 rfl (lv_room (Nat.le_of_ble_eq_true rfl)) dX8_carries_107 ⟨Nat.zero_le _, Nat.zero_le _⟩) hP hD hS hA [0, 1] [] [0, 1] rfl rfl rfl rfl rfl rfl (fun H locs hP hD hS => ?_)
            refine lv_goto (tgt := 156) hx hb dX8_carries_110 (by decide) ?_
            refine lv_iload_n hx hb dX8_carries_156 rfl (lv_at hl 0 rfl) ?_
            obtain rfl := sm_e h
            exact rx_i hx hb hr  hP hK hD hS dX8_carries_157 hlocks
    · replace h := in_e hc13 h
      exact B20 (0 : Int32) v_account v_d_A _ _ _ h hP hD hS (lv_sub hl [1, 0] rfl)
-- X8_move
def f_X8_move_b25 (N : Nat) (v_typed : Int32) (v_text_A : Nat → Int32) (m_states : Int32) (m_refused : Int32) (m_was_A : Nat → Int32) (m_accounts_A : Nat → Int64) : Nat → Int32 → Int32 → Int64 → Int32 → Int32 → Int32 → (Nat → Int32) → Option (Int32 × Int64 × Int32 × Int32 × Int32 × Int32 × Int32 × (Nat → Int32) × (Nat → Int32) × (Nat → Int64))
  | 0, _, _, _, _, _, _, _ => none
  | k + 1, x1, x2, m_account, m_at, m_sign, m_number, m_d_A =>
    (if ¬ x2 = 0 then (if x2 ≤ 0 then some (x1, m_account, m_states, m_refused, m_at, m_sign, m_number, m_d_A, m_was_A, m_accounts_A)
    else some (x1, m_account, m_states, x2, m_at, m_sign, m_number, m_d_A, m_was_A, m_accounts_A))
    else (if v_typed ≤ m_at then (if x2 ≤ 0 then some (x1, m_account, m_states, m_refused, m_at, m_sign, m_number, m_d_A, m_was_A, m_accounts_A)
    else some (x1, m_account, m_states, x2, m_at, m_sign, m_number, m_d_A, m_was_A, m_accounts_A))
    else Option.bind (f_X8_readsMove N v_typed m_at m_number v_text_A) (fun u8 => Option.bind (f_X8_carries N m_account u8.2.2.1 u8.2.2.2 m_d_A) (fun u9 => (if ¬ u9.1 = 0 then nm (x1 + (0 : Int32)) (fun t11 => (f_X8_move_b25 N v_typed v_text_A m_states m_refused m_was_A m_accounts_A k t11 u9.1 u9.2.1 u8.2.1 u8.2.2.1 u8.2.2.2 u9.2.2))
    else nm (x1 + (1 : Int32)) (fun t12 => (f_X8_move_b25 N v_typed v_text_A m_states m_refused m_was_A m_accounts_A k t12 u9.1 u9.2.1 u8.2.1 u8.2.2.1 u8.2.2.2 u9.2.2)))))))
def f_X8_move (N : Nat) (v_account : Int64) (v_states : Int32) (v_refused : Int32) (v_typed : Int32) (v_sign : Int32) (v_number : Int32) (v_d_A : Nat → Int32) (v_was_A : Nat → Int32) (v_accounts_A : Nat → Int64) (v_text_A : Nat → Int32) : Option (Int32 × Int64 × Int32 × Int32 × Int32 × Int32 × Int32 × (Nat → Int32) × (Nat → Int32) × (Nat → Int64)) :=
  Option.bind (f_X8_fault N v_typed v_sign v_number v_text_A) (fun u1 => (if u1.1 = (-2000000004 : Int32) then Option.bind (f_X8_records N v_account v_states v_d_A v_was_A v_accounts_A) (fun u3 => (f_X8_move_b25 N v_typed v_text_A u3.1 v_refused u3.2.1 u3.2.2 N (0 : Int32) (0 : Int32) v_account (0 : Int32) u1.2.2.1 u1.2.2.2 v_d_A))
    else some ((-2000000002 : Int32), v_account, v_states, v_refused, u1.2.1, u1.2.2.1, u1.2.2.2, v_d_A, v_was_A, v_accounts_A)))
theorem q_X8_move_1 : (.constant RX8 96 (-2000000004) : Cond) ∈ wsX8_move := List.mem_of_getElem? (i := 1) (by decide +kernel)
theorem q_X8_move_3 : (.fieldLink RX8 142 "SpringBalanceModel" "at" "I" : Cond) ∈ wsX8_move := List.mem_of_getElem? (i := 3) (by decide +kernel)
set_option maxRecDepth 20000 in
theorem in_X8_move_X8 : ∀ w ∈ u_ws RX8 TX8 14, w ∈ wsX8_move := by decide +kernel
theorem q_X8_move_5 : (.fieldLink RX8 163 "SpringBalanceModel" "refused" "I" : Cond) ∈ wsX8_move := List.mem_of_getElem? (i := 5) (by decide +kernel)
theorem q_X8_move_4 : (.fieldLink RX8 93 "SpringBalanceModel" "typed" "I" : Cond) ∈ wsX8_move := List.mem_of_getElem? (i := 4) (by decide +kernel)
theorem q_X8_move_2 : (.constant RX8 69 (-2000000002) : Cond) ∈ wsX8_move := List.mem_of_getElem? (i := 2) (by decide +kernel)
set_option maxHeartbeats 8000000 in
set_option maxRecDepth 100000 in
theorem k_X8_move (l : Launch) (D : va_G) (cI cC cJ cB : ClassId) (a_h a_h_d a_h_was a_h_accounts a_h_text a_h_aside a_h_places a_h_told : Nat) (v_account : Int64) (v_states : Int32) (v_refused : Int32) (v_typed : Int32) (v_at : Int32) (v_sign : Int32) (v_number : Int32) (v_d_A : Nat → Int32) (v_was_A : Nat → Int32) (v_accounts_A : Nat → Int64) (v_text_A : Nat → Int32) (N : Nat) (sz : Nat) (u : Int32 × Int64 × Int32 × Int32 × Int32 × Int32 × Int32 × (Nat → Int32) × (Nat → Int32) × (Nat → Int64)) (hu : f_X8_move N v_account v_states v_refused v_typed v_sign v_number v_d_A v_was_A v_accounts_A v_text_A = some u) :
    Met l yX8_move wsX8_move ({ frames := 5, cells := 0, slots := 0, locals := 119 } : Room) (va_Pc [.ref a_h] (PreW D (ty4 cI cC cJ cB) sz [(a_h, .inr (8, [.ref a_h_d, .long v_account, .ref a_h_was, .ref a_h_accounts, .int v_states, .int v_refused, .ref a_h_text, .int v_typed, .int v_at, .int v_sign, .int v_number, .ref a_h_aside, .ref a_h_places, .ref a_h_told])), (a_h_d, .inl (cI, 2086, .inl v_d_A)), (a_h_was, .inl (cI, 10430, .inl v_was_A)), (a_h_accounts, .inl (cJ, 5, .inr (.inl v_accounts_A))), (a_h_text, .inl (cC, 80, .inl v_text_A))]))
      (QI D (ty4 cI cC cJ cB) (va_A [(a_h, .inr (8, [.ref a_h_d, .long v_account, .ref a_h_was, .ref a_h_accounts, .int v_states, .int v_refused, .ref a_h_text, .int v_typed, .int v_at, .int v_sign, .int v_number, .ref a_h_aside, .ref a_h_places, .ref a_h_told])), (a_h_d, .inl (cI, 2086, .inl v_d_A)), (a_h_was, .inl (cI, 10430, .inl v_was_A)), (a_h_accounts, .inl (cJ, 5, .inr (.inl v_accounts_A))), (a_h_text, .inl (cC, 80, .inl v_text_A))] sz) [(a_h, .inr (8, [.ref a_h_d, .long u.2.1, .ref a_h_was, .ref a_h_accounts, .int u.2.2.1, .int u.2.2.2.1, .ref a_h_text, .int v_typed, .int u.2.2.2.2.1, .int u.2.2.2.2.2.1, .int u.2.2.2.2.2.2.1, .ref a_h_aside, .ref a_h_places, .ref a_h_told])), (a_h_d, .inl (cI, 2086, .inl u.2.2.2.2.2.2.2.1)), (a_h_was, .inl (cI, 10430, .inl u.2.2.2.2.2.2.2.2.1)), (a_h_accounts, .inl (cJ, 5, .inr (.inl u.2.2.2.2.2.2.2.2.2))), (a_h_text, .inl (cC, 80, .inl v_text_A))] u.1) 0 0 (va_A [(a_h, .inr (8, [.ref a_h_d, .long v_account, .ref a_h_was, .ref a_h_accounts, .int v_states, .int v_refused, .ref a_h_text, .int v_typed, .int v_at, .int v_sign, .int v_number, .ref a_h_aside, .ref a_h_places, .ref a_h_told])), (a_h_d, .inl (cI, 2086, .inl v_d_A)), (a_h_was, .inl (cI, 10430, .inl v_was_A)), (a_h_accounts, .inl (cJ, 5, .inr (.inl v_accounts_A))), (a_h_text, .inl (cC, 80, .inl v_text_A))] sz) := by
  refine met_go (y := yX8_move) (wsy := wsX8_move) (cc := cX8_move) (maxL := 3) (ret := (some .int)) (av := [.ref a_h]) (Qc := fun A => QI D (ty4 cI cC cJ cB) A [(a_h, .inr (8, [.ref a_h_d, .long u.2.1, .ref a_h_was, .ref a_h_accounts, .int u.2.2.1, .int u.2.2.2.1, .ref a_h_text, .int v_typed, .int u.2.2.2.2.1, .int u.2.2.2.2.2.1, .int u.2.2.2.2.2.2.1, .ref a_h_aside, .ref a_h_places, .ref a_h_told])), (a_h_d, .inl (cI, 2086, .inl u.2.2.2.2.2.2.2.1)), (a_h_was, .inl (cI, 10430, .inl u.2.2.2.2.2.2.2.2.1)), (a_h_accounts, .inl (cJ, 5, .inr (.inl u.2.2.2.2.2.2.2.2.2))), (a_h_text, .inl (cC, 80, .inl v_text_A))] u.1) (by decide) rfl (Nat.le_of_ble_eq_true rfl) ?_
  intro p e s m below meth c A ls hx hb hr hml hown hts hlocks hnm hN hK hP hD hS hA hl
  have h := hu
  clear hu
  unfold f_X8_move at h
  have hl : lv_has ls 3 [(0, .ref a_h)] := hl
  have B25 : ∀ (k : Nat) (x1 : Int32) (x2 : Int32) (m_account : Int64) (m_states : Int32) (m_refused : Int32) (m_at : Int32) (m_sign : Int32) (m_number : Int32) (m_d_A : Nat → Int32) (m_was_A : Nat → Int32) (m_accounts_A : Nat → Int64) (H : Heap) (locs : List Loc) (ls : Array Slot), f_X8_move_b25 N v_typed v_text_A m_states m_refused m_was_A m_accounts_A k x1 x2 m_account m_at m_sign m_number m_d_A = some u → va_P D vwCl [(a_h, .inr (8, [.ref a_h_d, .long m_account, .ref a_h_was, .ref a_h_accounts, .int m_states, .int m_refused, .ref a_h_text, .int v_typed, .int m_at, .int m_sign, .int m_number, .ref a_h_aside, .ref a_h_places, .ref a_h_told])), (a_h_d, .inl (cI, 2086, .inl m_d_A)), (a_h_was, .inl (cI, 10430, .inl m_was_A)), (a_h_accounts, .inl (cJ, 5, .inr (.inl m_accounts_A))), (a_h_text, .inl (cC, 80, .inl v_text_A))] H → va_D A [(a_h, .inr (8, [.ref a_h_d, .long m_account, .ref a_h_was, .ref a_h_accounts, .int m_states, .int m_refused, .ref a_h_text, .int v_typed, .int m_at, .int m_sign, .int m_number, .ref a_h_aside, .ref a_h_places, .ref a_h_told])), (a_h_d, .inl (cI, 2086, .inl m_d_A)), (a_h_was, .inl (cI, 10430, .inl m_was_A)), (a_h_accounts, .inl (cJ, 5, .inr (.inl m_accounts_A))), (a_h_text, .inl (cC, 80, .inl v_text_A))] → va_S A s.heap H locs → lv_has ls 3 [(0, .ref a_h), (1, .int x1), (2, .int x2)] → W p l e ({ frames := 5, cells := 0, slots := 0, locals := 119 } : Room) s m ([.ref a_h] : List Value).toArray below meth c H locs 0 0 (MQ below (QI D (ty4 cI cC cJ cB) A [(a_h, .inr (8, [.ref a_h_d, .long u.2.1, .ref a_h_was, .ref a_h_accounts, .int u.2.2.1, .int u.2.2.2.1, .ref a_h_text, .int v_typed, .int u.2.2.2.2.1, .int u.2.2.2.2.2.1, .int u.2.2.2.2.2.2.1, .ref a_h_aside, .ref a_h_places, .ref a_h_told])), (a_h_d, .inl (cI, 2086, .inl u.2.2.2.2.2.2.2.1)), (a_h_was, .inl (cI, 10430, .inl u.2.2.2.2.2.2.2.2.1)), (a_h_accounts, .inl (cJ, 5, .inr (.inl u.2.2.2.2.2.2.2.2.2))), (a_h_text, .inl (cC, 80, .inl v_text_A))] u.1) ([.ref a_h] : List Value).toArray s 0 0 A) (F0 m 25 ls []) := by
    intro k
    induction k with
    | zero =>
      intro x1 x2 m_account m_states m_refused m_at m_sign m_number m_d_A m_was_A m_accounts_A H locs ls h
      exact nomatch (show (none : Option (Int32 × Int64 × Int32 × Int32 × Int32 × Int32 × Int32 × (Nat → Int32) × (Nat → Int32) × (Nat → Int64))) = some u from h)
    | succ k ih =>
      intro x1 x2 m_account m_states m_refused m_at m_sign m_number m_d_A m_was_A m_accounts_A H locs ls h hP hD hS hl
      rw [f_X8_move_b25.eq_2] at h
      refine lv_iload_n hx hb dX8_move_25 rfl (lv_at hl 2 rfl) ?_
      refine lv_if_ne (tgt := 65) hx hb dX8_move_26 (by decide) (fun hc4 => ?_) (fun hc4 => ?_)
      · replace h := it_e hc4 h
        refine lv_aload_n hx hb dX8_move_65 rfl (lv_at hl 0 rfl) ?_
        refine lv_iload_n hx hb dX8_move_66 rfl (lv_at hl 2 rfl) ?_
        refine lv_if_le (tgt := 74) hx hb dX8_move_67 (by decide) (fun hc5 => ?_) (fun hc5 => ?_)
        · replace h := it_e hc5 h
          refine lv_aload_n hx hb dX8_move_74 rfl (lv_at hl 0 rfl) ?_
          refine va_get (D := D) (ci := 8) (v := .int m_refused) (C := RX8) (T := TX8) (N := 14) hx hb hts in_X8_move_X8 hown hK hP 0 rfl rfl 5 (by decide) (hts _ q_X8_move_5) (fun _ h9 => h9) rfl dX8_move_75 ?_
          refine va_put (D := D) (ci := 8) (v := .int m_refused) (ty := .int) (C := RX8) (T := TX8) (N := 14) hx hb hts in_X8_move_X8 tyX8 tyX8_ok nmX8 hown hK hP hD hS 0 rfl rfl 5 (by decide) (hts _ q_X8_move_5) (fun _ h9 => h9) rfl (by decide +kernel) rfl rfl (Nat.le_of_ble_eq_true rfl) dX8_move_78 (fun H locs hP hD hS => ?_)
          have hP : va_P D vwCl [(a_h, .inr (8, [.ref a_h_d, .long m_account, .ref a_h_was, .ref a_h_accounts, .int m_states, .int m_refused, .ref a_h_text, .int v_typed, .int m_at, .int m_sign, .int m_number, .ref a_h_aside, .ref a_h_places, .ref a_h_told])), (a_h_d, .inl (cI, 2086, .inl m_d_A)), (a_h_was, .inl (cI, 10430, .inl m_was_A)), (a_h_accounts, .inl (cJ, 5, .inr (.inl m_accounts_A))), (a_h_text, .inl (cC, 80, .inl v_text_A))] H := hP
          have hD : va_D A [(a_h, .inr (8, [.ref a_h_d, .long m_account, .ref a_h_was, .ref a_h_accounts, .int m_states, .int m_refused, .ref a_h_text, .int v_typed, .int m_at, .int m_sign, .int m_number, .ref a_h_aside, .ref a_h_places, .ref a_h_told])), (a_h_d, .inl (cI, 2086, .inl m_d_A)), (a_h_was, .inl (cI, 10430, .inl m_was_A)), (a_h_accounts, .inl (cJ, 5, .inr (.inl m_accounts_A))), (a_h_text, .inl (cC, 80, .inl v_text_A))] := hD
          refine lv_iload_n hx hb dX8_move_81 rfl (lv_at hl 1 rfl) ?_
          obtain rfl := sm_e h
          exact rx_i hx hb hr  hP hK hD hS dX8_move_82 hlocks
        · replace h := if_e hc5 h
          refine lv_iload_n hx hb dX8_move_70 rfl (lv_at hl 2 rfl) ?_
          refine lv_goto (tgt := 78) hx hb dX8_move_71 (by decide) ?_
          refine va_put (D := D) (ci := 8) (v := .int x2) (ty := .int) (C := RX8) (T := TX8) (N := 14) hx hb hts in_X8_move_X8 tyX8 tyX8_ok nmX8 hown hK hP hD hS 0 rfl rfl 5 (by decide) (hts _ q_X8_move_5) (fun _ h9 => h9) rfl (by decide +kernel) rfl rfl (Nat.le_of_ble_eq_true rfl) dX8_move_78 (fun H locs hP hD hS => ?_)
          have hP : va_P D vwCl [(a_h, .inr (8, [.ref a_h_d, .long m_account, .ref a_h_was, .ref a_h_accounts, .int m_states, .int x2, .ref a_h_text, .int v_typed, .int m_at, .int m_sign, .int m_number, .ref a_h_aside, .ref a_h_places, .ref a_h_told])), (a_h_d, .inl (cI, 2086, .inl m_d_A)), (a_h_was, .inl (cI, 10430, .inl m_was_A)), (a_h_accounts, .inl (cJ, 5, .inr (.inl m_accounts_A))), (a_h_text, .inl (cC, 80, .inl v_text_A))] H := hP
          have hD : va_D A [(a_h, .inr (8, [.ref a_h_d, .long m_account, .ref a_h_was, .ref a_h_accounts, .int m_states, .int x2, .ref a_h_text, .int v_typed, .int m_at, .int m_sign, .int m_number, .ref a_h_aside, .ref a_h_places, .ref a_h_told])), (a_h_d, .inl (cI, 2086, .inl m_d_A)), (a_h_was, .inl (cI, 10430, .inl m_was_A)), (a_h_accounts, .inl (cJ, 5, .inr (.inl m_accounts_A))), (a_h_text, .inl (cC, 80, .inl v_text_A))] := hD
          refine lv_iload_n hx hb dX8_move_81 rfl (lv_at hl 1 rfl) ?_
          obtain rfl := sm_e h
          exact rx_i hx hb hr  hP hK hD hS dX8_move_82 hlocks
      · replace h := in_e hc4 h
        refine lv_aload_n hx hb dX8_move_29 rfl (lv_at hl 0 rfl) ?_
        refine va_get (D := D) (ci := 8) (v := .int m_at) (C := RX8) (T := TX8) (N := 14) hx hb hts in_X8_move_X8 hown hK hP 0 rfl rfl 8 (by decide) (hts _ q_X8_move_3) (fun _ h9 => h9) rfl dX8_move_30 ?_
        refine lv_aload_n hx hb dX8_move_33 rfl (lv_at hl 0 rfl) ?_
        refine va_get (D := D) (ci := 8) (v := .int v_typed) (C := RX8) (T := TX8) (N := 14) hx hb hts in_X8_move_X8 hown hK hP 0 rfl rfl 7 (by decide) (hts _ q_X8_move_4) (fun _ h9 => h9) rfl dX8_move_34 ?_
        refine lv_icmp_ge (tgt := 65) hx hb dX8_move_37 (by decide) (fun hc6 => ?_) (fun hc6 => ?_)
        · replace h := it_e hc6 h
          refine lv_aload_n hx hb dX8_move_65 rfl (lv_at hl 0 rfl) ?_
          refine lv_iload_n hx hb dX8_move_66 rfl (lv_at hl 2 rfl) ?_
          refine lv_if_le (tgt := 74) hx hb dX8_move_67 (by decide) (fun hc7 => ?_) (fun hc7 => ?_)
          · replace h := it_e hc7 h
            refine lv_aload_n hx hb dX8_move_74 rfl (lv_at hl 0 rfl) ?_
            refine va_get (D := D) (ci := 8) (v := .int m_refused) (C := RX8) (T := TX8) (N := 14) hx hb hts in_X8_move_X8 hown hK hP 0 rfl rfl 5 (by decide) (hts _ q_X8_move_5) (fun _ h9 => h9) rfl dX8_move_75 ?_
            refine va_put (D := D) (ci := 8) (v := .int m_refused) (ty := .int) (C := RX8) (T := TX8) (N := 14) hx hb hts in_X8_move_X8 tyX8 tyX8_ok nmX8 hown hK hP hD hS 0 rfl rfl 5 (by decide) (hts _ q_X8_move_5) (fun _ h9 => h9) rfl (by decide +kernel) rfl rfl (Nat.le_of_ble_eq_true rfl) dX8_move_78 (fun H locs hP hD hS => ?_)
            have hP : va_P D vwCl [(a_h, .inr (8, [.ref a_h_d, .long m_account, .ref a_h_was, .ref a_h_accounts, .int m_states, .int m_refused, .ref a_h_text, .int v_typed, .int m_at, .int m_sign, .int m_number, .ref a_h_aside, .ref a_h_places, .ref a_h_told])), (a_h_d, .inl (cI, 2086, .inl m_d_A)), (a_h_was, .inl (cI, 10430, .inl m_was_A)), (a_h_accounts, .inl (cJ, 5, .inr (.inl m_accounts_A))), (a_h_text, .inl (cC, 80, .inl v_text_A))] H := hP
            have hD : va_D A [(a_h, .inr (8, [.ref a_h_d, .long m_account, .ref a_h_was, .ref a_h_accounts, .int m_states, .int m_refused, .ref a_h_text, .int v_typed, .int m_at, .int m_sign, .int m_number, .ref a_h_aside, .ref a_h_places, .ref a_h_told])), (a_h_d, .inl (cI, 2086, .inl m_d_A)), (a_h_was, .inl (cI, 10430, .inl m_was_A)), (a_h_accounts, .inl (cJ, 5, .inr (.inl m_accounts_A))), (a_h_text, .inl (cC, 80, .inl v_text_A))] := hD
            refine lv_iload_n hx hb dX8_move_81 rfl (lv_at hl 1 rfl) ?_
            obtain rfl := sm_e h
            exact rx_i hx hb hr  hP hK hD hS dX8_move_82 hlocks
          · replace h := if_e hc7 h
            refine lv_iload_n hx hb dX8_move_70 rfl (lv_at hl 2 rfl) ?_
            refine lv_goto (tgt := 78) hx hb dX8_move_71 (by decide) ?_
            refine va_put (D := D) (ci := 8) (v := .int x2) (ty := .int) (C := RX8) (T := TX8) (N := 14) hx hb hts in_X8_move_X8 tyX8 tyX8_ok nmX8 hown hK hP hD hS 0 rfl rfl 5 (by decide) (hts _ q_X8_move_5) (fun _ h9 => h9) rfl (by decide +kernel) rfl rfl (Nat.le_of_ble_eq_true rfl) dX8_move_78 (fun H locs hP hD hS => ?_)
            have hP : va_P D vwCl [(a_h, .inr (8, [.ref a_h_d, .long m_account, .ref a_h_was, .ref a_h_accounts, .int m_states, .int x2, .ref a_h_text, .int v_typed, .int m_at, .int m_sign, .int m_number, .ref a_h_aside, .ref a_h_places, .ref a_h_told])), (a_h_d, .inl (cI, 2086, .inl m_d_A)), (a_h_was, .inl (cI, 10430, .inl m_was_A)), (a_h_accounts, .inl (cJ, 5, .inr (.inl m_accounts_A))), (a_h_text, .inl (cC, 80, .inl v_text_A))] H := hP
            have hD : va_D A [(a_h, .inr (8, [.ref a_h_d, .long m_account, .ref a_h_was, .ref a_h_accounts, .int m_states, .int x2, .ref a_h_text, .int v_typed, .int m_at, .int m_sign, .int m_number, .ref a_h_aside, .ref a_h_places, .ref a_h_told])), (a_h_d, .inl (cI, 2086, .inl m_d_A)), (a_h_was, .inl (cI, 10430, .inl m_was_A)), (a_h_accounts, .inl (cJ, 5, .inr (.inl m_accounts_A))), (a_h_text, .inl (cC, 80, .inl v_text_A))] := hD
            refine lv_iload_n hx hb dX8_move_81 rfl (lv_at hl 1 rfl) ?_
            obtain rfl := sm_e h
            exact rx_i hx hb hr  hP hK hD hS dX8_move_82 hlocks
        · replace h := if_e hc6 h
          refine lv_aload_n hx hb dX8_move_40 rfl (lv_at hl 0 rfl) ?_
          obtain ⟨u8, hu8, h⟩ := bd_e h
          refine kx_i (mc := 0) (ms := 0) (wr := [(a_h_d, .inl (cI, 2086, .inl m_d_A)), (a_h_was, .inl (cI, 10430, .inl m_was_A)), (a_h_accounts, .inl (cJ, 5, .inr (.inl m_accounts_A)))]) (ws2 := [(a_h, .inr (8, [.ref a_h_d, .long m_account, .ref a_h_was, .ref a_h_accounts, .int m_states, .int m_refused, .ref a_h_text, .int v_typed, .int u8.2.1, .int u8.2.2.1, .int u8.2.2.2, .ref a_h_aside, .ref a_h_places, .ref a_h_told])), (a_h_d, .inl (cI, 2086, .inl m_d_A)), (a_h_was, .inl (cI, 10430, .inl m_was_A)), (a_h_accounts, .inl (cJ, 5, .inr (.inl m_accounts_A))), (a_h_text, .inl (cC, 80, .inl v_text_A))]) (va_runV (As := []) (rest := []) ⟨hx, hb, hml, hown, hts⟩ (k_X8_readsMove l D cI cC cJ cB a_h a_h_d a_h_was a_h_accounts a_h_text a_h_aside a_h_places a_h_told m_account m_states m_refused v_typed m_at m_sign m_number v_text_A N H.size _ hu8) (cwV 0 hts gX8_move_X8_readsMove rfl rfl rfl (by decide +kernel) ⟨Nat.le_of_ble_eq_true rfl, Nat.le_of_ble_eq_true rfl⟩) (pv_V hP hD hK hN [0, 4] rfl rfl (ci := 8) rfl 0 rfl) rfl rfl hl.1 rfl (lv_room (Nat.le_of_ble_eq_true rfl)) dX8_move_41 ⟨Nat.zero_le _, Nat.zero_le _⟩) hP hD hS hA [0, 4] [1, 2, 3] [3, 0, 1, 2, 4] rfl rfl rfl rfl rfl rfl (fun H locs hP hD hS => ?_)
          refine lv_pop hx hb dX8_move_44 rfl ?_
          refine lv_aload_n hx hb dX8_move_45 rfl (lv_at hl 0 rfl) ?_
          obtain ⟨u9, hu9, h⟩ := bd_e h
          refine kx_i (mc := 0) (ms := 0) (wr := [(a_h_was, .inl (cI, 10430, .inl m_was_A)), (a_h_accounts, .inl (cJ, 5, .inr (.inl m_accounts_A))), (a_h_text, .inl (cC, 80, .inl v_text_A))]) (ws2 := [(a_h, .inr (8, [.ref a_h_d, .long u9.2.1, .ref a_h_was, .ref a_h_accounts, .int m_states, .int m_refused, .ref a_h_text, .int v_typed, .int u8.2.1, .int u8.2.2.1, .int u8.2.2.2, .ref a_h_aside, .ref a_h_places, .ref a_h_told])), (a_h_d, .inl (cI, 2086, .inl u9.2.2)), (a_h_was, .inl (cI, 10430, .inl m_was_A)), (a_h_accounts, .inl (cJ, 5, .inr (.inl m_accounts_A))), (a_h_text, .inl (cC, 80, .inl v_text_A))]) (va_runV (As := []) (rest := []) ⟨hx, hb, hml, hown, hts⟩ (k_X8_carries l D cI cC cJ cB a_h a_h_d a_h_was a_h_accounts a_h_text a_h_aside a_h_places a_h_told m_account m_states m_refused v_typed u8.2.1 u8.2.2.1 u8.2.2.2 m_d_A N H.size _ hu9) (cwV 0 hts gX8_move_X8_carries rfl rfl rfl (by decide +kernel) ⟨Nat.le_of_ble_eq_true rfl, Nat.le_of_ble_eq_true rfl⟩) (pv_V hP hD hK hN [0, 1] rfl rfl (ci := 8) rfl 0 rfl) rfl rfl hl.1 rfl (lv_room (Nat.le_of_ble_eq_true rfl)) dX8_move_46 ⟨Nat.zero_le _, Nat.zero_le _⟩) hP hD hS hA [0, 1] [2, 3, 4] [3, 4, 0, 1, 2] rfl rfl rfl rfl rfl rfl (fun H locs hP hD hS => ?_)
          refine lv_istore_n (lv' := [(2, .int u9.1), (0, .ref a_h), (1, .int x1)]) hx hb dX8_move_49 rfl hl (by decide) rfl (fun ls hl => ?_)
          refine lv_iload_n hx hb dX8_move_50 rfl (lv_at hl 2 rfl) ?_
          refine lv_iload_n hx hb dX8_move_51 rfl (lv_at hl 0 rfl) ?_
          refine lv_if_ne (tgt := 59) hx hb dX8_move_52 (by decide) (fun hc10 => ?_) (fun hc10 => ?_)
          · replace h := it_e hc10 h
            refine lv_iconst (v := (0 : Int32)) hx hb dX8_move_59 (by decide) ?_
            refine lv_iadd hx hb dX8_move_60 ?_
            refine lv_topi (fun t11 et11 => ?_)
            replace h := nm_at h et11
            refine lv_istore_n (lv' := [(1, .int t11), (2, .int u9.1), (0, .ref a_h)]) hx hb dX8_move_61 rfl hl (by decide) rfl (fun ls hl => ?_)
            refine lv_goto (tgt := 25) hx hb dX8_move_62 (by decide) ?_
            exact ih t11 u9.1 u9.2.1 m_states m_refused u8.2.1 u8.2.2.1 u8.2.2.2 u9.2.2 m_was_A m_accounts_A _ _ _ h hP hD hS (lv_sub hl [2, 0, 1] rfl)
          · replace h := in_e hc10 h
            refine lv_iconst (v := (1 : Int32)) hx hb dX8_move_55 (by decide) ?_
            refine lv_goto (tgt := 60) hx hb dX8_move_56 (by decide) ?_
            refine lv_iadd hx hb dX8_move_60 ?_
            refine lv_topi (fun t12 et12 => ?_)
            replace h := nm_at h et12
            refine lv_istore_n (lv' := [(1, .int t12), (2, .int u9.1), (0, .ref a_h)]) hx hb dX8_move_61 rfl hl (by decide) rfl (fun ls hl => ?_)
            refine lv_goto (tgt := 25) hx hb dX8_move_62 (by decide) ?_
            exact ih t12 u9.1 u9.2.1 m_states m_refused u8.2.1 u8.2.2.1 u8.2.2.2 u9.2.2 m_was_A m_accounts_A _ _ _ h hP hD hS (lv_sub hl [2, 0, 1] rfl)
  refine lv_aload_n hx hb dX8_move_0 rfl (lv_at hl 0 rfl) ?_
  obtain ⟨u1, hu1, h⟩ := bd_e h
  refine kx_i (mc := 0) (ms := 0) (wr := [(a_h_d, .inl (cI, 2086, .inl v_d_A)), (a_h_was, .inl (cI, 10430, .inl v_was_A)), (a_h_accounts, .inl (cJ, 5, .inr (.inl v_accounts_A)))]) (ws2 := [(a_h, .inr (8, [.ref a_h_d, .long v_account, .ref a_h_was, .ref a_h_accounts, .int v_states, .int v_refused, .ref a_h_text, .int v_typed, .int u1.2.1, .int u1.2.2.1, .int u1.2.2.2, .ref a_h_aside, .ref a_h_places, .ref a_h_told])), (a_h_d, .inl (cI, 2086, .inl v_d_A)), (a_h_was, .inl (cI, 10430, .inl v_was_A)), (a_h_accounts, .inl (cJ, 5, .inr (.inl v_accounts_A))), (a_h_text, .inl (cC, 80, .inl v_text_A))]) (va_runV (As := []) (rest := []) ⟨hx, hb, hml, hown, hts⟩ (k_X8_fault l D cI cC cJ cB a_h a_h_d a_h_was a_h_accounts a_h_text a_h_aside a_h_places a_h_told v_account v_states v_refused v_typed v_at v_sign v_number v_text_A N s.heap.size _ hu1) (cwV 0 hts gX8_move_X8_fault rfl rfl rfl (by decide +kernel) ⟨Nat.le_of_ble_eq_true rfl, Nat.le_of_ble_eq_true rfl⟩) (pv_V hP hD hK hN [0, 4] rfl rfl (ci := 8) rfl 0 rfl) rfl rfl hl.1 rfl (lv_room (Nat.le_of_ble_eq_true rfl)) dX8_move_1 ⟨Nat.zero_le _, Nat.zero_le _⟩) hP hD hS hA [0, 4] [1, 2, 3] [3, 0, 1, 2, 4] rfl rfl rfl rfl rfl rfl (fun H locs hP hD hS => ?_)
  refine lv_ldc (v := (-2000000004 : Int32)) hx hb hown (hts _ q_X8_move_1) dX8_move_4 ?_
  refine lv_icmp_eq (tgt := 12) hx hb dX8_move_6 (by decide) (fun hc2 => ?_) (fun hc2 => ?_)
  · replace h := it_e hc2 h
    refine lv_aload_n hx hb dX8_move_12 rfl (lv_at hl 0 rfl) ?_
    obtain ⟨u3, hu3, h⟩ := bd_e h
    refine kx_v (mc := 0) (ms := 0) (wr := [(a_h_text, .inl (cC, 80, .inl v_text_A))]) (ws2 := [(a_h, .inr (8, [.ref a_h_d, .long v_account, .ref a_h_was, .ref a_h_accounts, .int u3.1, .int v_refused, .ref a_h_text, .int v_typed, .int u1.2.1, .int u1.2.2.1, .int u1.2.2.2, .ref a_h_aside, .ref a_h_places, .ref a_h_told])), (a_h_d, .inl (cI, 2086, .inl v_d_A)), (a_h_was, .inl (cI, 10430, .inl u3.2.1)), (a_h_accounts, .inl (cJ, 5, .inr (.inl u3.2.2))), (a_h_text, .inl (cC, 80, .inl v_text_A))]) (va_runV (As := []) (rest := []) ⟨hx, hb, hml, hown, hts⟩ (k_X8_records l D cI cC cJ cB a_h a_h_d a_h_was a_h_accounts a_h_text a_h_aside a_h_places a_h_told v_account v_states v_refused v_typed u1.2.1 u1.2.2.1 u1.2.2.2 v_d_A v_was_A v_accounts_A N H.size _ hu3) (cwV 0 hts gX8_move_X8_records rfl rfl rfl (by decide +kernel) ⟨Nat.le_of_ble_eq_true rfl, Nat.le_of_ble_eq_true rfl⟩) (pv_V hP hD hK hN [0, 1, 2, 3] rfl rfl (ci := 8) rfl 0 rfl) rfl rfl hl.1 rfl (lv_room (Nat.le_of_ble_eq_true rfl)) dX8_move_13 ⟨Nat.zero_le _, Nat.zero_le _⟩) hP hD hS hA [0, 1, 2, 3] [4] [1, 2, 3, 4, 0] rfl rfl rfl rfl rfl rfl (fun H locs hP hD hS => ?_)
    refine lv_iconst (v := (0 : Int32)) hx hb dX8_move_16 (by decide) ?_
    refine lv_istore_n (lv' := [(1, .int (0 : Int32)), (0, .ref a_h)]) hx hb dX8_move_17 rfl hl (by decide) rfl (fun ls hl => ?_)
    refine lv_iconst (v := (0 : Int32)) hx hb dX8_move_18 (by decide) ?_
    refine lv_istore_n (lv' := [(2, .int (0 : Int32)), (1, .int (0 : Int32)), (0, .ref a_h)]) hx hb dX8_move_19 rfl hl (by decide) rfl (fun ls hl => ?_)
    refine lv_aload_n hx hb dX8_move_20 rfl (lv_at hl 2 rfl) ?_
    refine lv_iconst (v := (0 : Int32)) hx hb dX8_move_21 (by decide) ?_
    refine va_put (D := D) (ci := 8) (v := .int (0 : Int32)) (ty := .int) (C := RX8) (T := TX8) (N := 14) hx hb hts in_X8_move_X8 tyX8 tyX8_ok nmX8 hown hK hP hD hS 0 rfl rfl 8 (by decide) (hts _ q_X8_move_3) (fun _ h9 => h9) rfl (by decide +kernel) rfl rfl (Nat.le_of_ble_eq_true rfl) dX8_move_22 (fun H locs hP hD hS => ?_)
    have hP : va_P D vwCl [(a_h, .inr (8, [.ref a_h_d, .long v_account, .ref a_h_was, .ref a_h_accounts, .int u3.1, .int v_refused, .ref a_h_text, .int v_typed, .int (0 : Int32), .int u1.2.2.1, .int u1.2.2.2, .ref a_h_aside, .ref a_h_places, .ref a_h_told])), (a_h_d, .inl (cI, 2086, .inl v_d_A)), (a_h_was, .inl (cI, 10430, .inl u3.2.1)), (a_h_accounts, .inl (cJ, 5, .inr (.inl u3.2.2))), (a_h_text, .inl (cC, 80, .inl v_text_A))] H := hP
    have hD : va_D A [(a_h, .inr (8, [.ref a_h_d, .long v_account, .ref a_h_was, .ref a_h_accounts, .int u3.1, .int v_refused, .ref a_h_text, .int v_typed, .int (0 : Int32), .int u1.2.2.1, .int u1.2.2.2, .ref a_h_aside, .ref a_h_places, .ref a_h_told])), (a_h_d, .inl (cI, 2086, .inl v_d_A)), (a_h_was, .inl (cI, 10430, .inl u3.2.1)), (a_h_accounts, .inl (cJ, 5, .inr (.inl u3.2.2))), (a_h_text, .inl (cC, 80, .inl v_text_A))] := hD
    exact B25 N (0 : Int32) (0 : Int32) v_account u3.1 v_refused (0 : Int32) u1.2.2.1 u1.2.2.2 v_d_A u3.2.1 u3.2.2 _ _ _ h hP hD hS (lv_sub hl [2, 1, 0] rfl)
  · replace h := if_e hc2 h
    refine lv_ldc (v := (-2000000002 : Int32)) hx hb hown (hts _ q_X8_move_2) dX8_move_9 ?_
    obtain rfl := sm_e h
    exact rx_i hx hb hr  hP hK hD hS dX8_move_11 hlocks
-- X8_why
def f_X8_why (v_refused : Int32) : Option (Int32) :=
  some v_refused
theorem q_X8_why_1 : (.fieldLink RX8 163 "SpringBalanceModel" "refused" "I" : Cond) ∈ wsX8_why := List.mem_of_getElem? (i := 1) (by decide +kernel)
set_option maxRecDepth 20000 in
theorem in_X8_why_X8 : ∀ w ∈ u_ws RX8 TX8 14, w ∈ wsX8_why := by decide +kernel
set_option maxHeartbeats 8000000 in
set_option maxRecDepth 100000 in
theorem k_X8_why (l : Launch) (D : va_G) (cI cC cJ cB : ClassId) (a_h a_h_d a_h_was a_h_accounts a_h_text a_h_aside a_h_places a_h_told : Nat) (v_account : Int64) (v_states : Int32) (v_refused : Int32) (v_typed : Int32) (v_at : Int32) (v_sign : Int32) (v_number : Int32) (N : Nat) (sz : Nat) (u : Int32) (hu : f_X8_why v_refused = some u) :
    Met l yX8_why wsX8_why ({ frames := 0, cells := 0, slots := 0, locals := 0 } : Room) (va_Pc [.ref a_h] (PreW D (ty4 cI cC cJ cB) sz [(a_h, .inr (8, [.ref a_h_d, .long v_account, .ref a_h_was, .ref a_h_accounts, .int v_states, .int v_refused, .ref a_h_text, .int v_typed, .int v_at, .int v_sign, .int v_number, .ref a_h_aside, .ref a_h_places, .ref a_h_told]))]))
      (QI D (ty4 cI cC cJ cB) (va_A [(a_h, .inr (8, [.ref a_h_d, .long v_account, .ref a_h_was, .ref a_h_accounts, .int v_states, .int v_refused, .ref a_h_text, .int v_typed, .int v_at, .int v_sign, .int v_number, .ref a_h_aside, .ref a_h_places, .ref a_h_told]))] sz) [(a_h, .inr (8, [.ref a_h_d, .long v_account, .ref a_h_was, .ref a_h_accounts, .int v_states, .int v_refused, .ref a_h_text, .int v_typed, .int v_at, .int v_sign, .int v_number, .ref a_h_aside, .ref a_h_places, .ref a_h_told]))] u) 0 0 (va_A [(a_h, .inr (8, [.ref a_h_d, .long v_account, .ref a_h_was, .ref a_h_accounts, .int v_states, .int v_refused, .ref a_h_text, .int v_typed, .int v_at, .int v_sign, .int v_number, .ref a_h_aside, .ref a_h_places, .ref a_h_told]))] sz) := by
  refine met_go (y := yX8_why) (wsy := wsX8_why) (cc := cX8_why) (maxL := 1) (ret := (some .int)) (av := [.ref a_h]) (Qc := fun A => QI D (ty4 cI cC cJ cB) A [(a_h, .inr (8, [.ref a_h_d, .long v_account, .ref a_h_was, .ref a_h_accounts, .int v_states, .int v_refused, .ref a_h_text, .int v_typed, .int v_at, .int v_sign, .int v_number, .ref a_h_aside, .ref a_h_places, .ref a_h_told]))] u) (by decide) rfl (Nat.le_of_ble_eq_true rfl) ?_
  intro p e s m below meth c A ls hx hb hr hml hown hts hlocks hnm hN hK hP hD hS hA hl
  have h := hu
  clear hu
  unfold f_X8_why at h
  have hl : lv_has ls 1 [(0, .ref a_h)] := hl
  refine lv_aload_n hx hb dX8_why_0 rfl (lv_at hl 0 rfl) ?_
  refine va_get (D := D) (ci := 8) (v := .int v_refused) (C := RX8) (T := TX8) (N := 14) hx hb hts in_X8_why_X8 hown hK hP 0 rfl rfl 5 (by decide) (hts _ q_X8_why_1) (fun _ h9 => h9) rfl dX8_why_1 ?_
  obtain rfl := sm_e h
  exact rx_i hx hb hr  hP hK hD hS dX8_why_4 hlocks
