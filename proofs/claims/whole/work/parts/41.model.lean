-- X8_count
def f_X8_count_b4 (N : Nat) (v_states : Int32) (v_typed : Int32) (v_d_A : Nat → Int32) (p0 : Int32) : Nat → Int32 → Int32 → Option (Int32)
  | 0, _, _ => none
  | k + 1, x2, x3 =>
    (if (v_d_A 41) ≤ x3 then (if p0 = (0 : Int32) then gA p0 2086 (some (v_d_A (Int32.toNatClampNeg p0)))
    else (if p0 = (1 : Int32) then gA p0 2086 (some (v_d_A (Int32.toNatClampNeg p0)))
    else (if p0 = (2 : Int32) then gA p0 2086 (some (v_d_A (Int32.toNatClampNeg p0)))
    else (if p0 = (3 : Int32) then gA p0 2086 (some (v_d_A (Int32.toNatClampNeg p0)))
    else (if p0 = (4 : Int32) then Option.bind (f_X8_reads N v_d_A) (fun u11 => some u11)
    else (if p0 = (5 : Int32) then some (v_d_A 5)
    else (if p0 = (6 : Int32) then some (v_d_A 4)
    else (if p0 = (7 : Int32) then some (v_d_A 41)
    else (if p0 = (8 : Int32) then some x2
    else (if p0 = (9 : Int32) then some v_states
    else (if p0 = (10 : Int32) then some v_typed
    else (if p0 = (11 : Int32) then some (v_d_A 9)
    else (if p0 = (12 : Int32) then some (v_d_A 26)
    else (if p0 = (13 : Int32) then gA (p0 - (7 : Int32)) 2086 (some (v_d_A (Int32.toNatClampNeg (p0 - (7 : Int32)))))
    else (if p0 = (14 : Int32) then gA (p0 - (7 : Int32)) 2086 (some (v_d_A (Int32.toNatClampNeg (p0 - (7 : Int32)))))
    else (if p0 = (15 : Int32) then gA (p0 - (7 : Int32)) 2086 (some (v_d_A (Int32.toNatClampNeg (p0 - (7 : Int32)))))
    else some (-2000000001 : Int32)))))))))))))))))
    else gA ((74 : Int32) + x3) 2086 (nm (x2 + (v_d_A (Int32.toNatClampNeg ((74 : Int32) + x3)))) (fun t27 => nm (x3 + (1 : Int32)) (fun t28 => (f_X8_count_b4 N v_states v_typed v_d_A p0 k t27 t28)))))
def f_X8_count (N : Nat) (v_states : Int32) (v_typed : Int32) (v_d_A : Nat → Int32) (p0 : Int32) : Option (Int32) :=
  (f_X8_count_b4 N v_states v_typed v_d_A p0 N (0 : Int32) (0 : Int32))
theorem q_X8_count_1 : (.fieldLink RX8 7 "SpringBalanceModel" "d" "[I" : Cond) ∈ wsX8_count := List.mem_of_getElem? (i := 1) (by decide +kernel)
set_option maxRecDepth 20000 in
theorem in_X8_count_X8 : ∀ w ∈ u_ws RX8 TX8 14, w ∈ wsX8_count := by decide +kernel
theorem q_X8_count_2 : (.fieldLink RX8 33 "SpringBalanceModel" "states" "I" : Cond) ∈ wsX8_count := List.mem_of_getElem? (i := 2) (by decide +kernel)
theorem q_X8_count_3 : (.fieldLink RX8 93 "SpringBalanceModel" "typed" "I" : Cond) ∈ wsX8_count := List.mem_of_getElem? (i := 3) (by decide +kernel)
theorem q_X8_count_4 : (.constant RX8 64 (-2000000001) : Cond) ∈ wsX8_count := List.mem_of_getElem? (i := 4) (by decide +kernel)
set_option maxHeartbeats 8000000 in
set_option maxRecDepth 100000 in
theorem k_X8_count (l : Launch) (D : va_G) (cI cC cJ cB : ClassId) (a_h a_h_d a_h_was a_h_accounts a_h_text a_h_aside a_h_places a_h_told : Nat) (v_account : Int64) (v_states : Int32) (v_refused : Int32) (v_typed : Int32) (v_at : Int32) (v_sign : Int32) (v_number : Int32) (v_d_A : Nat → Int32) (N : Nat) (p0 : Int32) (sz : Nat) (u : Int32) (hu : f_X8_count N v_states v_typed v_d_A p0 = some u) :
    Met l yX8_count wsX8_count ({ frames := 3, cells := 0, slots := 0, locals := 70 } : Room) (va_Pc [.ref a_h, .int p0] (PreW D (ty4 cI cC cJ cB) sz [(a_h, .inr (8, [.ref a_h_d, .long v_account, .ref a_h_was, .ref a_h_accounts, .int v_states, .int v_refused, .ref a_h_text, .int v_typed, .int v_at, .int v_sign, .int v_number, .ref a_h_aside, .ref a_h_places, .ref a_h_told])), (a_h_d, .inl (cI, 2086, .inl v_d_A))]))
      (QI D (ty4 cI cC cJ cB) (va_A [(a_h, .inr (8, [.ref a_h_d, .long v_account, .ref a_h_was, .ref a_h_accounts, .int v_states, .int v_refused, .ref a_h_text, .int v_typed, .int v_at, .int v_sign, .int v_number, .ref a_h_aside, .ref a_h_places, .ref a_h_told])), (a_h_d, .inl (cI, 2086, .inl v_d_A))] sz) [(a_h, .inr (8, [.ref a_h_d, .long v_account, .ref a_h_was, .ref a_h_accounts, .int v_states, .int v_refused, .ref a_h_text, .int v_typed, .int v_at, .int v_sign, .int v_number, .ref a_h_aside, .ref a_h_places, .ref a_h_told])), (a_h_d, .inl (cI, 2086, .inl v_d_A))] u) 0 0 (va_A [(a_h, .inr (8, [.ref a_h_d, .long v_account, .ref a_h_was, .ref a_h_accounts, .int v_states, .int v_refused, .ref a_h_text, .int v_typed, .int v_at, .int v_sign, .int v_number, .ref a_h_aside, .ref a_h_places, .ref a_h_told])), (a_h_d, .inl (cI, 2086, .inl v_d_A))] sz) := by
  refine met_go (y := yX8_count) (wsy := wsX8_count) (cc := cX8_count) (maxL := 4) (ret := (some .int)) (av := [.ref a_h, .int p0]) (Qc := fun A => QI D (ty4 cI cC cJ cB) A [(a_h, .inr (8, [.ref a_h_d, .long v_account, .ref a_h_was, .ref a_h_accounts, .int v_states, .int v_refused, .ref a_h_text, .int v_typed, .int v_at, .int v_sign, .int v_number, .ref a_h_aside, .ref a_h_places, .ref a_h_told])), (a_h_d, .inl (cI, 2086, .inl v_d_A))] u) (by decide) rfl (Nat.le_of_ble_eq_true rfl) ?_
  intro p e s m below meth c A ls hx hb hr hml hown hts hlocks hnm hN hK hP hD hS hA hl
  have h := hu
  clear hu
  unfold f_X8_count at h
  have hl : lv_has ls 4 [(0, .ref a_h), (1, .int p0)] := hl
  have B4 : ∀ (k : Nat) (x2 : Int32) (x3 : Int32) (H : Heap) (locs : List Loc) (ls : Array Slot), f_X8_count_b4 N v_states v_typed v_d_A p0 k x2 x3 = some u → va_P D vwCl [(a_h, .inr (8, [.ref a_h_d, .long v_account, .ref a_h_was, .ref a_h_accounts, .int v_states, .int v_refused, .ref a_h_text, .int v_typed, .int v_at, .int v_sign, .int v_number, .ref a_h_aside, .ref a_h_places, .ref a_h_told])), (a_h_d, .inl (cI, 2086, .inl v_d_A))] H → va_D A [(a_h, .inr (8, [.ref a_h_d, .long v_account, .ref a_h_was, .ref a_h_accounts, .int v_states, .int v_refused, .ref a_h_text, .int v_typed, .int v_at, .int v_sign, .int v_number, .ref a_h_aside, .ref a_h_places, .ref a_h_told])), (a_h_d, .inl (cI, 2086, .inl v_d_A))] → va_S A s.heap H locs → lv_has ls 4 [(0, .ref a_h), (1, .int p0), (2, .int x2), (3, .int x3)] → W p l e ({ frames := 3, cells := 0, slots := 0, locals := 70 } : Room) s m ([.ref a_h, .int p0] : List Value).toArray below meth c H locs 0 0 (MQ below (QI D (ty4 cI cC cJ cB) A [(a_h, .inr (8, [.ref a_h_d, .long v_account, .ref a_h_was, .ref a_h_accounts, .int v_states, .int v_refused, .ref a_h_text, .int v_typed, .int v_at, .int v_sign, .int v_number, .ref a_h_aside, .ref a_h_places, .ref a_h_told])), (a_h_d, .inl (cI, 2086, .inl v_d_A))] u) ([.ref a_h, .int p0] : List Value).toArray s 0 0 A) (F0 m 4 ls []) := by
    intro k
    induction k with
    | zero =>
      intro x2 x3 H locs ls h
      exact nomatch (show (none : Option (Int32)) = some u from h)
    | succ k ih =>
      intro x2 x3 H locs ls h hP hD hS hl
      rw [f_X8_count_b4.eq_2] at h
      refine lv_iload_n hx hb dX8_count_4 rfl (lv_at hl 3 rfl) ?_
      refine lv_aload_n hx hb dX8_count_5 rfl (lv_at hl 0 rfl) ?_
      refine va_get (D := D) (ci := 8) (v := .ref a_h_d) (C := RX8) (T := TX8) (N := 14) hx hb hts in_X8_count_X8 hown hK hP 0 rfl rfl 0 (by decide) (hts _ q_X8_count_1) (fun _ h9 => h9) rfl dX8_count_6 ?_
      refine lv_bipush (v := (41 : Int32)) hx hb dX8_count_9 (by decide) ?_
      refine wx_iald hx hb hK hP 1 0 rfl rfl 41 (by decide) (by unfold vp_in; decide) dX8_count_11 ?_
      refine lv_icmp_ge (tgt := 33) hx hb dX8_count_12 (by decide) (fun hc1 => ?_) (fun hc1 => ?_)
      · replace h := it_e hc1 h
        refine lv_iload_n hx hb dX8_count_33 rfl (lv_at hl 1 rfl) ?_
        by_cases hc2 : p0 = (0 : Int32)
        · replace h := it_e hc2 h
          refine lv_tableIn (off := 78) (tgt := 112) hx hb dX8_count_34 (by rw [hc2]; decide) (by rw [hc2]; decide) (by rw [hc2]; rfl) (by decide) ?_
          refine lv_aload_n hx hb dX8_count_112 rfl (lv_at hl 0 rfl) ?_
          refine va_get (D := D) (ci := 8) (v := .ref a_h_d) (C := RX8) (T := TX8) (N := 14) hx hb hts in_X8_count_X8 hown hK hP 0 rfl rfl 0 (by decide) (hts _ q_X8_count_1) (fun _ h9 => h9) rfl dX8_count_113 ?_
          refine lv_iload_n hx hb dX8_count_116 rfl (lv_at hl 1 rfl) ?_
          obtain ⟨hi3, h⟩ := gA_e h
          refine wx_iald hx hb hK hP 1 0 rfl rfl (Int32.toNatClampNeg p0) rfl hi3 dX8_count_117 ?_
          obtain rfl := sm_e h
          exact rx_i hx hb hr  hP hK hD hS dX8_count_118 hlocks
        · replace h := if_e hc2 h
          by_cases hc4 : p0 = (1 : Int32)
          · replace h := it_e hc4 h
            refine lv_tableIn (off := 78) (tgt := 112) hx hb dX8_count_34 (by rw [hc4]; decide) (by rw [hc4]; decide) (by rw [hc4]; rfl) (by decide) ?_
            refine lv_aload_n hx hb dX8_count_112 rfl (lv_at hl 0 rfl) ?_
            refine va_get (D := D) (ci := 8) (v := .ref a_h_d) (C := RX8) (T := TX8) (N := 14) hx hb hts in_X8_count_X8 hown hK hP 0 rfl rfl 0 (by decide) (hts _ q_X8_count_1) (fun _ h9 => h9) rfl dX8_count_113 ?_
            refine lv_iload_n hx hb dX8_count_116 rfl (lv_at hl 1 rfl) ?_
            obtain ⟨hi5, h⟩ := gA_e h
            refine wx_iald hx hb hK hP 1 0 rfl rfl (Int32.toNatClampNeg p0) rfl hi5 dX8_count_117 ?_
            obtain rfl := sm_e h
            exact rx_i hx hb hr  hP hK hD hS dX8_count_118 hlocks
          · replace h := if_e hc4 h
            by_cases hc6 : p0 = (2 : Int32)
            · replace h := it_e hc6 h
              refine lv_tableIn (off := 78) (tgt := 112) hx hb dX8_count_34 (by rw [hc6]; decide) (by rw [hc6]; decide) (by rw [hc6]; rfl) (by decide) ?_
              refine lv_aload_n hx hb dX8_count_112 rfl (lv_at hl 0 rfl) ?_
              refine va_get (D := D) (ci := 8) (v := .ref a_h_d) (C := RX8) (T := TX8) (N := 14) hx hb hts in_X8_count_X8 hown hK hP 0 rfl rfl 0 (by decide) (hts _ q_X8_count_1) (fun _ h9 => h9) rfl dX8_count_113 ?_
              refine lv_iload_n hx hb dX8_count_116 rfl (lv_at hl 1 rfl) ?_
              obtain ⟨hi7, h⟩ := gA_e h
              refine wx_iald hx hb hK hP 1 0 rfl rfl (Int32.toNatClampNeg p0) rfl hi7 dX8_count_117 ?_
              obtain rfl := sm_e h
              exact rx_i hx hb hr  hP hK hD hS dX8_count_118 hlocks
            · replace h := if_e hc6 h
              by_cases hc8 : p0 = (3 : Int32)
              · replace h := it_e hc8 h
                refine lv_tableIn (off := 78) (tgt := 112) hx hb dX8_count_34 (by rw [hc8]; decide) (by rw [hc8]; decide) (by rw [hc8]; rfl) (by decide) ?_
                refine lv_aload_n hx hb dX8_count_112 rfl (lv_at hl 0 rfl) ?_
                refine va_get (D := D) (ci := 8) (v := .ref a_h_d) (C := RX8) (T := TX8) (N := 14) hx hb hts in_X8_count_X8 hown hK hP 0 rfl rfl 0 (by decide) (hts _ q_X8_count_1) (fun _ h9 => h9) rfl dX8_count_113 ?_
                refine lv_iload_n hx hb dX8_count_116 rfl (lv_at hl 1 rfl) ?_
                obtain ⟨hi9, h⟩ := gA_e h
                refine wx_iald hx hb hK hP 1 0 rfl rfl (Int32.toNatClampNeg p0) rfl hi9 dX8_count_117 ?_
                obtain rfl := sm_e h
                exact rx_i hx hb hr  hP hK hD hS dX8_count_118 hlocks
              · replace h := if_e hc8 h
                by_cases hc10 : p0 = (4 : Int32)
                · replace h := it_e hc10 h
                  refine lv_tableIn (off := 85) (tgt := 119) hx hb dX8_count_34 (by rw [hc10]; decide) (by rw [hc10]; decide) (by rw [hc10]; rfl) (by decide) ?_
                  refine lv_aload_n hx hb dX8_count_119 rfl (lv_at hl 0 rfl) ?_
                  obtain ⟨u11, hu11, h⟩ := bd_e h
                  refine kx_i (mc := 0) (ms := 0) (wr := []) (ws2 := [(a_h, .inr (8, [.ref a_h_d, .long v_account, .ref a_h_was, .ref a_h_accounts, .int v_states, .int v_refused, .ref a_h_text, .int v_typed, .int v_at, .int v_sign, .int v_number, .ref a_h_aside, .ref a_h_places, .ref a_h_told])), (a_h_d, .inl (cI, 2086, .inl v_d_A))]) (va_runV (As := []) (rest := []) ⟨hx, hb, hml, hown, hts⟩ (k_X8_reads l D cI cC cJ cB a_h a_h_d a_h_was a_h_accounts a_h_text a_h_aside a_h_places a_h_told v_account v_states v_refused v_typed v_at v_sign v_number v_d_A N H.size _ hu11) (cwV 0 hts gX8_count_X8_reads rfl rfl rfl (by decide +kernel) ⟨Nat.le_of_ble_eq_true rfl, Nat.le_of_ble_eq_true rfl⟩) (pv_V hP hD hK hN [0, 1] rfl rfl (ci := 8) rfl 0 rfl) rfl rfl hl.1 rfl (lv_room (Nat.le_of_ble_eq_true rfl)) dX8_count_120 ⟨Nat.zero_le _, Nat.zero_le _⟩) hP hD hS hA [0, 1] [] [0, 1] rfl rfl rfl rfl rfl rfl (fun H locs hP hD hS => ?_)
                  obtain rfl := sm_e h
                  exact rx_i hx hb hr  hP hK hD hS dX8_count_123 hlocks
                · replace h := if_e hc10 h
                  by_cases hc12 : p0 = (5 : Int32)
                  · replace h := it_e hc12 h
                    refine lv_tableIn (off := 90) (tgt := 124) hx hb dX8_count_34 (by rw [hc12]; decide) (by rw [hc12]; decide) (by rw [hc12]; rfl) (by decide) ?_
                    refine lv_aload_n hx hb dX8_count_124 rfl (lv_at hl 0 rfl) ?_
                    refine va_get (D := D) (ci := 8) (v := .ref a_h_d) (C := RX8) (T := TX8) (N := 14) hx hb hts in_X8_count_X8 hown hK hP 0 rfl rfl 0 (by decide) (hts _ q_X8_count_1) (fun _ h9 => h9) rfl dX8_count_125 ?_
                    refine lv_iconst (v := (5 : Int32)) hx hb dX8_count_128 (by decide) ?_
                    refine wx_iald hx hb hK hP 1 0 rfl rfl 5 (by decide) (by unfold vp_in; decide) dX8_count_129 ?_
                    obtain rfl := sm_e h
                    exact rx_i hx hb hr  hP hK hD hS dX8_count_130 hlocks
                  · replace h := if_e hc12 h
                    by_cases hc13 : p0 = (6 : Int32)
                    · replace h := it_e hc13 h
                      refine lv_tableIn (off := 97) (tgt := 131) hx hb dX8_count_34 (by rw [hc13]; decide) (by rw [hc13]; decide) (by rw [hc13]; rfl) (by decide) ?_
                      refine lv_aload_n hx hb dX8_count_131 rfl (lv_at hl 0 rfl) ?_
                      refine va_get (D := D) (ci := 8) (v := .ref a_h_d) (C := RX8) (T := TX8) (N := 14) hx hb hts in_X8_count_X8 hown hK hP 0 rfl rfl 0 (by decide) (hts _ q_X8_count_1) (fun _ h9 => h9) rfl dX8_count_132 ?_
                      refine lv_iconst (v := (4 : Int32)) hx hb dX8_count_135 (by decide) ?_
                      refine wx_iald hx hb hK hP 1 0 rfl rfl 4 (by decide) (by unfold vp_in; decide) dX8_count_136 ?_
                      obtain rfl := sm_e h
                      exact rx_i hx hb hr  hP hK hD hS dX8_count_137 hlocks
                    · replace h := if_e hc13 h
                      by_cases hc14 : p0 = (7 : Int32)
                      · replace h := it_e hc14 h
                        refine lv_tableIn (off := 104) (tgt := 138) hx hb dX8_count_34 (by rw [hc14]; decide) (by rw [hc14]; decide) (by rw [hc14]; rfl) (by decide) ?_
                        refine lv_aload_n hx hb dX8_count_138 rfl (lv_at hl 0 rfl) ?_
                        refine va_get (D := D) (ci := 8) (v := .ref a_h_d) (C := RX8) (T := TX8) (N := 14) hx hb hts in_X8_count_X8 hown hK hP 0 rfl rfl 0 (by decide) (hts _ q_X8_count_1) (fun _ h9 => h9) rfl dX8_count_139 ?_
                        refine lv_bipush (v := (41 : Int32)) hx hb dX8_count_142 (by decide) ?_
                        refine wx_iald hx hb hK hP 1 0 rfl rfl 41 (by decide) (by unfold vp_in; decide) dX8_count_144 ?_
                        obtain rfl := sm_e h
                        exact rx_i hx hb hr  hP hK hD hS dX8_count_145 hlocks
                      · replace h := if_e hc14 h
                        by_cases hc15 : p0 = (8 : Int32)
                        · replace h := it_e hc15 h
                          refine lv_tableIn (off := 112) (tgt := 146) hx hb dX8_count_34 (by rw [hc15]; decide) (by rw [hc15]; decide) (by rw [hc15]; rfl) (by decide) ?_
                          refine lv_iload_n hx hb dX8_count_146 rfl (lv_at hl 2 rfl) ?_
                          obtain rfl := sm_e h
                          exact rx_i hx hb hr  hP hK hD hS dX8_count_147 hlocks
                        · replace h := if_e hc15 h
                          by_cases hc16 : p0 = (9 : Int32)
                          · replace h := it_e hc16 h
                            refine lv_tableIn (off := 114) (tgt := 148) hx hb dX8_count_34 (by rw [hc16]; decide) (by rw [hc16]; decide) (by rw [hc16]; rfl) (by decide) ?_
                            refine lv_aload_n hx hb dX8_count_148 rfl (lv_at hl 0 rfl) ?_
                            refine va_get (D := D) (ci := 8) (v := .int v_states) (C := RX8) (T := TX8) (N := 14) hx hb hts in_X8_count_X8 hown hK hP 0 rfl rfl 4 (by decide) (hts _ q_X8_count_2) (fun _ h9 => h9) rfl dX8_count_149 ?_
                            obtain rfl := sm_e h
                            exact rx_i hx hb hr  hP hK hD hS dX8_count_152 hlocks
                          · replace h := if_e hc16 h
                            by_cases hc17 : p0 = (10 : Int32)
                            · replace h := it_e hc17 h
                              refine lv_tableIn (off := 119) (tgt := 153) hx hb dX8_count_34 (by rw [hc17]; decide) (by rw [hc17]; decide) (by rw [hc17]; rfl) (by decide) ?_
                              refine lv_aload_n hx hb dX8_count_153 rfl (lv_at hl 0 rfl) ?_
                              refine va_get (D := D) (ci := 8) (v := .int v_typed) (C := RX8) (T := TX8) (N := 14) hx hb hts in_X8_count_X8 hown hK hP 0 rfl rfl 7 (by decide) (hts _ q_X8_count_3) (fun _ h9 => h9) rfl dX8_count_154 ?_
                              obtain rfl := sm_e h
                              exact rx_i hx hb hr  hP hK hD hS dX8_count_157 hlocks
                            · replace h := if_e hc17 h
                              by_cases hc18 : p0 = (11 : Int32)
                              · replace h := it_e hc18 h
                                refine lv_tableIn (off := 124) (tgt := 158) hx hb dX8_count_34 (by rw [hc18]; decide) (by rw [hc18]; decide) (by rw [hc18]; rfl) (by decide) ?_
                                refine lv_aload_n hx hb dX8_count_158 rfl (lv_at hl 0 rfl) ?_
                                refine va_get (D := D) (ci := 8) (v := .ref a_h_d) (C := RX8) (T := TX8) (N := 14) hx hb hts in_X8_count_X8 hown hK hP 0 rfl rfl 0 (by decide) (hts _ q_X8_count_1) (fun _ h9 => h9) rfl dX8_count_159 ?_
                                refine lv_bipush (v := (9 : Int32)) hx hb dX8_count_162 (by decide) ?_
                                refine wx_iald hx hb hK hP 1 0 rfl rfl 9 (by decide) (by unfold vp_in; decide) dX8_count_164 ?_
                                obtain rfl := sm_e h
                                exact rx_i hx hb hr  hP hK hD hS dX8_count_165 hlocks
                              · replace h := if_e hc18 h
                                by_cases hc19 : p0 = (12 : Int32)
                                · replace h := it_e hc19 h
                                  refine lv_tableIn (off := 132) (tgt := 166) hx hb dX8_count_34 (by rw [hc19]; decide) (by rw [hc19]; decide) (by rw [hc19]; rfl) (by decide) ?_
                                  refine lv_aload_n hx hb dX8_count_166 rfl (lv_at hl 0 rfl) ?_
                                  refine va_get (D := D) (ci := 8) (v := .ref a_h_d) (C := RX8) (T := TX8) (N := 14) hx hb hts in_X8_count_X8 hown hK hP 0 rfl rfl 0 (by decide) (hts _ q_X8_count_1) (fun _ h9 => h9) rfl dX8_count_167 ?_
                                  refine lv_bipush (v := (26 : Int32)) hx hb dX8_count_170 (by decide) ?_
                                  refine wx_iald hx hb hK hP 1 0 rfl rfl 26 (by decide) (by unfold vp_in; decide) dX8_count_172 ?_
                                  obtain rfl := sm_e h
                                  exact rx_i hx hb hr  hP hK hD hS dX8_count_173 hlocks
                                · replace h := if_e hc19 h
                                  by_cases hc20 : p0 = (13 : Int32)
                                  · replace h := it_e hc20 h
                                    refine lv_tableIn (off := 140) (tgt := 174) hx hb dX8_count_34 (by rw [hc20]; decide) (by rw [hc20]; decide) (by rw [hc20]; rfl) (by decide) ?_
                                    refine lv_aload_n hx hb dX8_count_174 rfl (lv_at hl 0 rfl) ?_
                                    refine va_get (D := D) (ci := 8) (v := .ref a_h_d) (C := RX8) (T := TX8) (N := 14) hx hb hts in_X8_count_X8 hown hK hP 0 rfl rfl 0 (by decide) (hts _ q_X8_count_1) (fun _ h9 => h9) rfl dX8_count_175 ?_
                                    refine lv_iload_n hx hb dX8_count_178 rfl (lv_at hl 1 rfl) ?_
                                    refine lv_bipush (v := (7 : Int32)) hx hb dX8_count_179 (by decide) ?_
                                    refine lv_isub hx hb dX8_count_181 ?_
                                    obtain ⟨hi21, h⟩ := gA_e h
                                    refine wx_iald hx hb hK hP 1 0 rfl rfl (Int32.toNatClampNeg (p0 - (7 : Int32))) rfl hi21 dX8_count_182 ?_
                                    obtain rfl := sm_e h
                                    exact rx_i hx hb hr  hP hK hD hS dX8_count_183 hlocks
                                  · replace h := if_e hc20 h
                                    by_cases hc22 : p0 = (14 : Int32)
                                    · replace h := it_e hc22 h
                                      refine lv_tableIn (off := 140) (tgt := 174) hx hb dX8_count_34 (by rw [hc22]; decide) (by rw [hc22]; decide) (by rw [hc22]; rfl) (by decide) ?_
                                      refine lv_aload_n hx hb dX8_count_174 rfl (lv_at hl 0 rfl) ?_
                                      refine va_get (D := D) (ci := 8) (v := .ref a_h_d) (C := RX8) (T := TX8) (N := 14) hx hb hts in_X8_count_X8 hown hK hP 0 rfl rfl 0 (by decide) (hts _ q_X8_count_1) (fun _ h9 => h9) rfl dX8_count_175 ?_
                                      refine lv_iload_n hx hb dX8_count_178 rfl (lv_at hl 1 rfl) ?_
                                      refine lv_bipush (v := (7 : Int32)) hx hb dX8_count_179 (by decide) ?_
                                      refine lv_isub hx hb dX8_count_181 ?_
                                      obtain ⟨hi23, h⟩ := gA_e h
                                      refine wx_iald hx hb hK hP 1 0 rfl rfl (Int32.toNatClampNeg (p0 - (7 : Int32))) rfl hi23 dX8_count_182 ?_
                                      obtain rfl := sm_e h
                                      exact rx_i hx hb hr  hP hK hD hS dX8_count_183 hlocks
                                    · replace h := if_e hc22 h
                                      by_cases hc24 : p0 = (15 : Int32)
                                      · replace h := it_e hc24 h
                                        refine lv_tableIn (off := 140) (tgt := 174) hx hb dX8_count_34 (by rw [hc24]; decide) (by rw [hc24]; decide) (by rw [hc24]; rfl) (by decide) ?_
                                        refine lv_aload_n hx hb dX8_count_174 rfl (lv_at hl 0 rfl) ?_
                                        refine va_get (D := D) (ci := 8) (v := .ref a_h_d) (C := RX8) (T := TX8) (N := 14) hx hb hts in_X8_count_X8 hown hK hP 0 rfl rfl 0 (by decide) (hts _ q_X8_count_1) (fun _ h9 => h9) rfl dX8_count_175 ?_
                                        refine lv_iload_n hx hb dX8_count_178 rfl (lv_at hl 1 rfl) ?_
                                        refine lv_bipush (v := (7 : Int32)) hx hb dX8_count_179 (by decide) ?_
                                        refine lv_isub hx hb dX8_count_181 ?_
                                        obtain ⟨hi25, h⟩ := gA_e h
                                        refine wx_iald hx hb hK hP 1 0 rfl rfl (Int32.toNatClampNeg (p0 - (7 : Int32))) rfl hi25 dX8_count_182 ?_
                                        obtain rfl := sm_e h
                                        exact rx_i hx hb hr  hP hK hD hS dX8_count_183 hlocks
                                      · replace h := if_e hc24 h
                                        refine lv_tableOut (tgt := 184) hx hb dX8_count_34 (sw_out 0 15 (fun k h1 h2 hk => by
                                          have hc9 : k = 0 ∨ k = 1 ∨ k = 2 ∨ k = 3 ∨ k = 4 ∨ k = 5 ∨ k = 6 ∨ k = 7 ∨ k = 8 ∨ k = 9 ∨ k = 10 ∨ k = 11 ∨ k = 12 ∨ k = 13 ∨ k = 14 ∨ k = 15 := by omega
                                          rcases hc9 with rfl | rfl | rfl | rfl | rfl | rfl | rfl | rfl | rfl | rfl | rfl | rfl | rfl | rfl | rfl | rfl
                                          · exact hc2 (Int32.toInt_inj.mp hk)
                                          · exact hc4 (Int32.toInt_inj.mp hk)
                                          · exact hc6 (Int32.toInt_inj.mp hk)
                                          · exact hc8 (Int32.toInt_inj.mp hk)
                                          · exact hc10 (Int32.toInt_inj.mp hk)
                                          · exact hc12 (Int32.toInt_inj.mp hk)
                                          · exact hc13 (Int32.toInt_inj.mp hk)
                                          · exact hc14 (Int32.toInt_inj.mp hk)
                                          · exact hc15 (Int32.toInt_inj.mp hk)
                                          · exact hc16 (Int32.toInt_inj.mp hk)
                                          · exact hc17 (Int32.toInt_inj.mp hk)
                                          · exact hc18 (Int32.toInt_inj.mp hk)
                                          · exact hc19 (Int32.toInt_inj.mp hk)
                                          · exact hc20 (Int32.toInt_inj.mp hk)
                                          · exact hc22 (Int32.toInt_inj.mp hk)
                                          · exact hc24 (Int32.toInt_inj.mp hk))) (by decide) ?_
                                        refine lv_ldc (v := (-2000000001 : Int32)) hx hb hown (hts _ q_X8_count_4) dX8_count_184 ?_
                                        obtain rfl := sm_e h
                                        exact rx_i hx hb hr  hP hK hD hS dX8_count_186 hlocks
      · replace h := if_e hc1 h
        refine lv_iload_n hx hb dX8_count_15 rfl (lv_at hl 2 rfl) ?_
        refine lv_aload_n hx hb dX8_count_16 rfl (lv_at hl 0 rfl) ?_
        refine va_get (D := D) (ci := 8) (v := .ref a_h_d) (C := RX8) (T := TX8) (N := 14) hx hb hts in_X8_count_X8 hown hK hP 0 rfl rfl 0 (by decide) (hts _ q_X8_count_1) (fun _ h9 => h9) rfl dX8_count_17 ?_
        refine lv_bipush (v := (74 : Int32)) hx hb dX8_count_20 (by decide) ?_
        refine lv_iload_n hx hb dX8_count_22 rfl (lv_at hl 3 rfl) ?_
        refine lv_iadd hx hb dX8_count_23 ?_
        obtain ⟨hi26, h⟩ := gA_e h
        refine wx_iald hx hb hK hP 1 0 rfl rfl (Int32.toNatClampNeg ((74 : Int32) + x3)) rfl hi26 dX8_count_24 ?_
        refine lv_iadd hx hb dX8_count_25 ?_
        refine lv_topi (fun t27 et27 => ?_)
        replace h := nm_at h et27
        refine lv_istore_n (lv' := [(2, .int t27), (0, .ref a_h), (1, .int p0), (3, .int x3)]) hx hb dX8_count_26 rfl hl (by decide) rfl (fun ls hl => ?_)
        obtain ⟨t28, et28, h⟩ := nm_x h
        refine lv_iinc (v := t28) (lv' := [(3, .int t28), (2, .int t27), (0, .ref a_h), (1, .int p0)]) hx hb dX8_count_27 hl (k := 3) rfl (by rw [et28]; rfl) (by decide) rfl (fun ls hl => ?_)
        refine lv_goto (tgt := 4) hx hb dX8_count_30 (by decide) ?_
        exact ih t27 t28 _ _ _ h hP hD hS (lv_sub hl [2, 3, 1, 0] rfl)
  refine lv_iconst (v := (0 : Int32)) hx hb dX8_count_0 (by decide) ?_
  refine lv_istore_n (lv' := [(2, .int (0 : Int32)), (0, .ref a_h), (1, .int p0)]) hx hb dX8_count_1 rfl hl (by decide) rfl (fun ls hl => ?_)
  refine lv_iconst (v := (0 : Int32)) hx hb dX8_count_2 (by decide) ?_
  refine lv_istore_n (lv' := [(3, .int (0 : Int32)), (2, .int (0 : Int32)), (0, .ref a_h), (1, .int p0)]) hx hb dX8_count_3 rfl hl (by decide) rfl (fun ls hl => ?_)
  exact B4 N (0 : Int32) (0 : Int32) _ _ _ h hP hD hS (lv_sub hl [2, 3, 1, 0] rfl)
-- X8_turning
def f_X8_turning (v_d_A : Nat → Int32) (p0 : Int32) (p1 : Int32) : Option (Int32) :=
  (if p0 < 0 then some (-2000000001 : Int32)
    else Option.bind (f_X8_in p1 (0 : Int32) (1 : Int32)) (fun u2 => (if ¬ u2 = 0 then (if p0 < (v_d_A 5) then (if ¬ p1 = 0 then gA ((1084 : Int32) + p0) 2086 (some (v_d_A (Int32.toNatClampNeg ((1084 : Int32) + p0))))
    else gA ((82 : Int32) + p0) 2086 (some (v_d_A (Int32.toNatClampNeg ((82 : Int32) + p0)))))
    else some (-2000000004 : Int32))
    else some (-2000000001 : Int32))))
theorem q_X8_turning_1 : (.constant RX8 64 (-2000000001) : Cond) ∈ wsX8_turning := List.mem_of_getElem? (i := 1) (by decide +kernel)
theorem q_X8_turning_2 : (.fieldLink RX8 7 "SpringBalanceModel" "d" "[I" : Cond) ∈ wsX8_turning := List.mem_of_getElem? (i := 2) (by decide +kernel)
set_option maxRecDepth 20000 in
theorem in_X8_turning_X8 : ∀ w ∈ u_ws RX8 TX8 14, w ∈ wsX8_turning := by decide +kernel
theorem q_X8_turning_3 : (.constant RX8 96 (-2000000004) : Cond) ∈ wsX8_turning := List.mem_of_getElem? (i := 3) (by decide +kernel)
set_option maxHeartbeats 8000000 in
set_option maxRecDepth 100000 in
theorem k_X8_turning (l : Launch) (D : va_G) (cI cC cJ cB : ClassId) (a_h a_h_d a_h_was a_h_accounts a_h_text a_h_aside a_h_places a_h_told : Nat) (v_account : Int64) (v_states : Int32) (v_refused : Int32) (v_typed : Int32) (v_at : Int32) (v_sign : Int32) (v_number : Int32) (v_d_A : Nat → Int32) (N : Nat) (p0 : Int32) (p1 : Int32) (sz : Nat) (u : Int32) (hu : f_X8_turning v_d_A p0 p1 = some u) :
    Met l yX8_turning wsX8_turning ({ frames := 1, cells := 0, slots := 0, locals := 22 } : Room) (va_Pc [.ref a_h, .int p0, .int p1] (PreW D (ty4 cI cC cJ cB) sz [(a_h, .inr (8, [.ref a_h_d, .long v_account, .ref a_h_was, .ref a_h_accounts, .int v_states, .int v_refused, .ref a_h_text, .int v_typed, .int v_at, .int v_sign, .int v_number, .ref a_h_aside, .ref a_h_places, .ref a_h_told])), (a_h_d, .inl (cI, 2086, .inl v_d_A))]))
      (QI D (ty4 cI cC cJ cB) (va_A [(a_h, .inr (8, [.ref a_h_d, .long v_account, .ref a_h_was, .ref a_h_accounts, .int v_states, .int v_refused, .ref a_h_text, .int v_typed, .int v_at, .int v_sign, .int v_number, .ref a_h_aside, .ref a_h_places, .ref a_h_told])), (a_h_d, .inl (cI, 2086, .inl v_d_A))] sz) [(a_h, .inr (8, [.ref a_h_d, .long v_account, .ref a_h_was, .ref a_h_accounts, .int v_states, .int v_refused, .ref a_h_text, .int v_typed, .int v_at, .int v_sign, .int v_number, .ref a_h_aside, .ref a_h_places, .ref a_h_told])), (a_h_d, .inl (cI, 2086, .inl v_d_A))] u) 0 0 (va_A [(a_h, .inr (8, [.ref a_h_d, .long v_account, .ref a_h_was, .ref a_h_accounts, .int v_states, .int v_refused, .ref a_h_text, .int v_typed, .int v_at, .int v_sign, .int v_number, .ref a_h_aside, .ref a_h_places, .ref a_h_told])), (a_h_d, .inl (cI, 2086, .inl v_d_A))] sz) := by
  refine met_go (y := yX8_turning) (wsy := wsX8_turning) (cc := cX8_turning) (maxL := 3) (ret := (some .int)) (av := [.ref a_h, .int p0, .int p1]) (Qc := fun A => QI D (ty4 cI cC cJ cB) A [(a_h, .inr (8, [.ref a_h_d, .long v_account, .ref a_h_was, .ref a_h_accounts, .int v_states, .int v_refused, .ref a_h_text, .int v_typed, .int v_at, .int v_sign, .int v_number, .ref a_h_aside, .ref a_h_places, .ref a_h_told])), (a_h_d, .inl (cI, 2086, .inl v_d_A))] u) (by decide) rfl (Nat.le_of_ble_eq_true rfl) ?_
  intro p e s m below meth c A ls hx hb hr hml hown hts hlocks hnm hN hK hP hD hS hA hl
  have h := hu
  clear hu
  unfold f_X8_turning at h
  have hl : lv_has ls 3 [(0, .ref a_h), (1, .int p0), (2, .int p1)] := hl
  refine lv_iload_n hx hb dX8_turning_0 rfl (lv_at hl 1 rfl) ?_
  refine lv_if_lt (tgt := 13) hx hb dX8_turning_1 (by decide) (fun hc1 => ?_) (fun hc1 => ?_)
  · replace h := it_e hc1 h
    refine lv_ldc (v := (-2000000001 : Int32)) hx hb hown (hts _ q_X8_turning_1) dX8_turning_13 ?_
    obtain rfl := sm_e h
    exact rx_i hx hb hr  hP hK hD hS dX8_turning_15 hlocks
  · replace h := if_e hc1 h
    refine lv_iload_n hx hb dX8_turning_4 rfl (lv_at hl 2 rfl) ?_
    refine lv_iconst (v := (0 : Int32)) hx hb dX8_turning_5 (by decide) ?_
    refine lv_iconst (v := (1 : Int32)) hx hb dX8_turning_6 (by decide) ?_
    obtain ⟨u2, hu2, h⟩ := bd_e h
    refine kx_i (mc := 0) (ms := 0) (wr := [(a_h, .inr (8, [.ref a_h_d, .long v_account, .ref a_h_was, .ref a_h_accounts, .int v_states, .int v_refused, .ref a_h_text, .int v_typed, .int v_at, .int v_sign, .int v_number, .ref a_h_aside, .ref a_h_places, .ref a_h_told])), (a_h_d, .inl (cI, 2086, .inl v_d_A))]) (ws2 := [(a_h, .inr (8, [.ref a_h_d, .long v_account, .ref a_h_was, .ref a_h_accounts, .int v_states, .int v_refused, .ref a_h_text, .int v_typed, .int v_at, .int v_sign, .int v_number, .ref a_h_aside, .ref a_h_places, .ref a_h_told])), (a_h_d, .inl (cI, 2086, .inl v_d_A))]) (va_runS (As := [.int p1, .int (0 : Int32), .int (1 : Int32)]) (rest := []) ⟨hx, hb, hml, hown, hts⟩ (k_X8_in l D cI cC cJ cB N p1 (0 : Int32) (1 : Int32) s.heap.size _ hu2) (va_cwS 3 hts gX8_turning_X8_in rfl rfl rfl (by decide +kernel) ⟨Nat.le_of_ble_eq_true rfl, Nat.le_of_ble_eq_true rfl⟩) (pv_S hP hD hK hN [] rfl rfl) rfl rfl hl.1 rfl (lv_room (Nat.le_of_ble_eq_true rfl)) dX8_turning_7 ⟨Nat.zero_le _, Nat.zero_le _⟩) hP hD hS hA [] [0, 1] [0, 1] rfl rfl rfl rfl rfl rfl (fun H locs hP hD hS => ?_)
    refine lv_if_ne (tgt := 16) hx hb dX8_turning_10 (by decide) (fun hc3 => ?_) (fun hc3 => ?_)
    · replace h := it_e hc3 h
      refine lv_iload_n hx hb dX8_turning_16 rfl (lv_at hl 1 rfl) ?_
      refine lv_aload_n hx hb dX8_turning_17 rfl (lv_at hl 0 rfl) ?_
      refine va_get (D := D) (ci := 8) (v := .ref a_h_d) (C := RX8) (T := TX8) (N := 14) hx hb hts in_X8_turning_X8 hown hK hP 0 rfl rfl 0 (by decide) (hts _ q_X8_turning_2) (fun _ h9 => h9) rfl dX8_turning_18 ?_
      refine lv_iconst (v := (5 : Int32)) hx hb dX8_turning_21 (by decide) ?_
      refine wx_iald hx hb hK hP 1 0 rfl rfl 5 (by decide) (by unfold vp_in; decide) dX8_turning_22 ?_
      refine lv_icmp_lt (tgt := 31) hx hb dX8_turning_23 (by decide) (fun hc4 => ?_) (fun hc4 => ?_)
      · replace h := it_e hc4 h
        refine lv_iload_n hx hb dX8_turning_31 rfl (lv_at hl 2 rfl) ?_
        refine lv_if_ne (tgt := 47) hx hb dX8_turning_32 (by decide) (fun hc5 => ?_) (fun hc5 => ?_)
        · replace h := it_e hc5 h
          refine lv_aload_n hx hb dX8_turning_47 rfl (lv_at hl 0 rfl) ?_
          refine va_get (D := D) (ci := 8) (v := .ref a_h_d) (C := RX8) (T := TX8) (N := 14) hx hb hts in_X8_turning_X8 hown hK hP 0 rfl rfl 0 (by decide) (hts _ q_X8_turning_2) (fun _ h9 => h9) rfl dX8_turning_48 ?_
          refine lv_sipush (v := (1084 : Int32)) hx hb dX8_turning_51 (by decide) ?_
          refine lv_iload_n hx hb dX8_turning_54 rfl (lv_at hl 1 rfl) ?_
          refine lv_iadd hx hb dX8_turning_55 ?_
          obtain ⟨hi6, h⟩ := gA_e h
          refine wx_iald hx hb hK hP 1 0 rfl rfl (Int32.toNatClampNeg ((1084 : Int32) + p0)) rfl hi6 dX8_turning_56 ?_
          obtain rfl := sm_e h
          exact rx_i hx hb hr  hP hK hD hS dX8_turning_57 hlocks
        · replace h := in_e hc5 h
          refine lv_aload_n hx hb dX8_turning_35 rfl (lv_at hl 0 rfl) ?_
          refine va_get (D := D) (ci := 8) (v := .ref a_h_d) (C := RX8) (T := TX8) (N := 14) hx hb hts in_X8_turning_X8 hown hK hP 0 rfl rfl 0 (by decide) (hts _ q_X8_turning_2) (fun _ h9 => h9) rfl dX8_turning_36 ?_
          refine lv_bipush (v := (82 : Int32)) hx hb dX8_turning_39 (by decide) ?_
          refine lv_iload_n hx hb dX8_turning_41 rfl (lv_at hl 1 rfl) ?_
          refine lv_iadd hx hb dX8_turning_42 ?_
          obtain ⟨hi7, h⟩ := gA_e h
          refine wx_iald hx hb hK hP 1 0 rfl rfl (Int32.toNatClampNeg ((82 : Int32) + p0)) rfl hi7 dX8_turning_43 ?_
          refine lv_goto (tgt := 57) hx hb dX8_turning_44 (by decide) ?_
          obtain rfl := sm_e h
          exact rx_i hx hb hr  hP hK hD hS dX8_turning_57 hlocks
      · replace h := if_e hc4 h
        refine lv_ldc (v := (-2000000004 : Int32)) hx hb hown (hts _ q_X8_turning_3) dX8_turning_26 ?_
        refine lv_goto (tgt := 57) hx hb dX8_turning_28 (by decide) ?_
        obtain rfl := sm_e h
        exact rx_i hx hb hr  hP hK hD hS dX8_turning_57 hlocks
    · replace h := in_e hc3 h
      refine lv_ldc (v := (-2000000001 : Int32)) hx hb hown (hts _ q_X8_turning_1) dX8_turning_13 ?_
      obtain rfl := sm_e h
      exact rx_i hx hb hr  hP hK hD hS dX8_turning_15 hlocks
-- X8_account
def f_X8_account (v_account : Int64) : Option (Int64) :=
  some v_account
theorem q_X8_account_1 : (.fieldLink RX8 37 "SpringBalanceModel" "account" "J" : Cond) ∈ wsX8_account := List.mem_of_getElem? (i := 1) (by decide +kernel)
set_option maxRecDepth 20000 in
theorem in_X8_account_X8 : ∀ w ∈ u_ws RX8 TX8 14, w ∈ wsX8_account := by decide +kernel
set_option maxHeartbeats 8000000 in
set_option maxRecDepth 100000 in
theorem k_X8_account (l : Launch) (D : va_G) (cI cC cJ cB : ClassId) (a_h a_h_d a_h_was a_h_accounts a_h_text a_h_aside a_h_places a_h_told : Nat) (v_account : Int64) (v_states : Int32) (v_refused : Int32) (v_typed : Int32) (v_at : Int32) (v_sign : Int32) (v_number : Int32) (N : Nat) (sz : Nat) (u : Int64) (hu : f_X8_account v_account = some u) :
    Met l yX8_account wsX8_account ({ frames := 0, cells := 0, slots := 0, locals := 0 } : Room) (va_Pc [.ref a_h] (PreW D (ty4 cI cC cJ cB) sz [(a_h, .inr (8, [.ref a_h_d, .long v_account, .ref a_h_was, .ref a_h_accounts, .int v_states, .int v_refused, .ref a_h_text, .int v_typed, .int v_at, .int v_sign, .int v_number, .ref a_h_aside, .ref a_h_places, .ref a_h_told]))]))
      (QL D (ty4 cI cC cJ cB) (va_A [(a_h, .inr (8, [.ref a_h_d, .long v_account, .ref a_h_was, .ref a_h_accounts, .int v_states, .int v_refused, .ref a_h_text, .int v_typed, .int v_at, .int v_sign, .int v_number, .ref a_h_aside, .ref a_h_places, .ref a_h_told]))] sz) [(a_h, .inr (8, [.ref a_h_d, .long v_account, .ref a_h_was, .ref a_h_accounts, .int v_states, .int v_refused, .ref a_h_text, .int v_typed, .int v_at, .int v_sign, .int v_number, .ref a_h_aside, .ref a_h_places, .ref a_h_told]))] u) 0 0 (va_A [(a_h, .inr (8, [.ref a_h_d, .long v_account, .ref a_h_was, .ref a_h_accounts, .int v_states, .int v_refused, .ref a_h_text, .int v_typed, .int v_at, .int v_sign, .int v_number, .ref a_h_aside, .ref a_h_places, .ref a_h_told]))] sz) := by
  refine met_go (y := yX8_account) (wsy := wsX8_account) (cc := cX8_account) (maxL := 1) (ret := (some .long)) (av := [.ref a_h]) (Qc := fun A => QL D (ty4 cI cC cJ cB) A [(a_h, .inr (8, [.ref a_h_d, .long v_account, .ref a_h_was, .ref a_h_accounts, .int v_states, .int v_refused, .ref a_h_text, .int v_typed, .int v_at, .int v_sign, .int v_number, .ref a_h_aside, .ref a_h_places, .ref a_h_told]))] u) (by decide) rfl (Nat.le_of_ble_eq_true rfl) ?_
  intro p e s m below meth c A ls hx hb hr hml hown hts hlocks hnm hN hK hP hD hS hA hl
  have h := hu
  clear hu
  unfold f_X8_account at h
  have hl : lv_has ls 1 [(0, .ref a_h)] := hl
  refine lv_aload_n hx hb dX8_account_0 rfl (lv_at hl 0 rfl) ?_
  refine va_get (D := D) (ci := 8) (v := .long v_account) (C := RX8) (T := TX8) (N := 14) hx hb hts in_X8_account_X8 hown hK hP 0 rfl rfl 1 (by decide) (hts _ q_X8_account_1) (fun _ h9 => h9) rfl dX8_account_1 ?_
  obtain rfl := sm_e h
  exact rx_l hx hb hr  hP hK hD hS dX8_account_4 hlocks
-- X8_again
def f_X8_again_b35 (N : Nat) (v_d_A : Nat → Int32) : Nat → Int32 → Int32 → Int32 → Option (Int32)
  | 0, _, _, _ => none
  | k + 1, x1, x2, x3 =>
    (if (v_d_A 5) ≤ x3 then some x1
    else (if (v_d_A 5) ≤ (x3 + (1 : Int32)) then nm (v_d_A 0) (fun t5 => gA ((82 : Int32) + x3) 2086 (Option.bind (f_X8_curveAt N v_d_A (x2 * (t5 - (v_d_A (Int32.toNatClampNeg ((82 : Int32) + x3))))) (2 : Int32)) (fun u7 => nm (x1 + (x2 * u7)) (fun t8 => nm (-x2) (fun t9 => nm (x3 + (1 : Int32)) (fun t10 => (f_X8_again_b35 N v_d_A k t8 t9 t10)))))))
    else gA (((82 : Int32) + x3) + (1 : Int32)) 2086 (nm (v_d_A (Int32.toNatClampNeg (((82 : Int32) + x3) + (1 : Int32)))) (fun t12 => gA ((82 : Int32) + x3) 2086 (Option.bind (f_X8_curveAt N v_d_A (x2 * (t12 - (v_d_A (Int32.toNatClampNeg ((82 : Int32) + x3))))) (2 : Int32)) (fun u14 => nm (x1 + (x2 * u14)) (fun t15 => nm (-x2) (fun t16 => nm (x3 + (1 : Int32)) (fun t17 => (f_X8_again_b35 N v_d_A k t15 t16 t17))))))))))
def f_X8_again (N : Nat) (v_d_A : Nat → Int32) : Option (Int32) :=
  (if ¬ (v_d_A 5) = 0 then Option.bind (f_X8_curveAt N v_d_A (v_d_A 82) (1 : Int32)) (fun u2 => (f_X8_again_b35 N v_d_A N u2 (-1 : Int32) (0 : Int32)))
    else Option.bind (f_X8_curveAt N v_d_A (v_d_A 0) (1 : Int32)) (fun u18 => (f_X8_again_b35 N v_d_A N u18 (-1 : Int32) (0 : Int32))))
theorem q_X8_again_1 : (.fieldLink RX8 7 "SpringBalanceModel" "d" "[I" : Cond) ∈ wsX8_again := List.mem_of_getElem? (i := 1) (by decide +kernel)
set_option maxRecDepth 20000 in
theorem in_X8_again_X8 : ∀ w ∈ u_ws RX8 TX8 14, w ∈ wsX8_again := by decide +kernel
set_option maxHeartbeats 8000000 in
set_option maxRecDepth 100000 in
theorem k_X8_again (l : Launch) (D : va_G) (cI cC cJ cB : ClassId) (a_h a_h_d a_h_was a_h_accounts a_h_text a_h_aside a_h_places a_h_told : Nat) (v_account : Int64) (v_states : Int32) (v_refused : Int32) (v_typed : Int32) (v_at : Int32) (v_sign : Int32) (v_number : Int32) (v_d_A : Nat → Int32) (N : Nat) (sz : Nat) (u : Int32) (hu : f_X8_again N v_d_A = some u) :
    Met l yX8_again wsX8_again ({ frames := 2, cells := 0, slots := 0, locals := 52 } : Room) (va_Pc [.ref a_h] (PreW D (ty4 cI cC cJ cB) sz [(a_h, .inr (8, [.ref a_h_d, .long v_account, .ref a_h_was, .ref a_h_accounts, .int v_states, .int v_refused, .ref a_h_text, .int v_typed, .int v_at, .int v_sign, .int v_number, .ref a_h_aside, .ref a_h_places, .ref a_h_told])), (a_h_d, .inl (cI, 2086, .inl v_d_A))]))
      (QI D (ty4 cI cC cJ cB) (va_A [(a_h, .inr (8, [.ref a_h_d, .long v_account, .ref a_h_was, .ref a_h_accounts, .int v_states, .int v_refused, .ref a_h_text, .int v_typed, .int v_at, .int v_sign, .int v_number, .ref a_h_aside, .ref a_h_places, .ref a_h_told])), (a_h_d, .inl (cI, 2086, .inl v_d_A))] sz) [(a_h, .inr (8, [.ref a_h_d, .long v_account, .ref a_h_was, .ref a_h_accounts, .int v_states, .int v_refused, .ref a_h_text, .int v_typed, .int v_at, .int v_sign, .int v_number, .ref a_h_aside, .ref a_h_places, .ref a_h_told])), (a_h_d, .inl (cI, 2086, .inl v_d_A))] u) 0 0 (va_A [(a_h, .inr (8, [.ref a_h_d, .long v_account, .ref a_h_was, .ref a_h_accounts, .int v_states, .int v_refused, .ref a_h_text, .int v_typed, .int v_at, .int v_sign, .int v_number, .ref a_h_aside, .ref a_h_places, .ref a_h_told])), (a_h_d, .inl (cI, 2086, .inl v_d_A))] sz) := by
  refine met_go (y := yX8_again) (wsy := wsX8_again) (cc := cX8_again) (maxL := 5) (ret := (some .int)) (av := [.ref a_h]) (Qc := fun A => QI D (ty4 cI cC cJ cB) A [(a_h, .inr (8, [.ref a_h_d, .long v_account, .ref a_h_was, .ref a_h_accounts, .int v_states, .int v_refused, .ref a_h_text, .int v_typed, .int v_at, .int v_sign, .int v_number, .ref a_h_aside, .ref a_h_places, .ref a_h_told])), (a_h_d, .inl (cI, 2086, .inl v_d_A))] u) (by decide) rfl (Nat.le_of_ble_eq_true rfl) ?_
  intro p e s m below meth c A ls hx hb hr hml hown hts hlocks hnm hN hK hP hD hS hA hl
  have h := hu
  clear hu
  unfold f_X8_again at h
  have hl : lv_has ls 5 [(0, .ref a_h)] := hl
  have B35 : ∀ (k : Nat) (x1 : Int32) (x2 : Int32) (x3 : Int32) (H : Heap) (locs : List Loc) (ls : Array Slot), f_X8_again_b35 N v_d_A k x1 x2 x3 = some u → va_P D vwCl [(a_h, .inr (8, [.ref a_h_d, .long v_account, .ref a_h_was, .ref a_h_accounts, .int v_states, .int v_refused, .ref a_h_text, .int v_typed, .int v_at, .int v_sign, .int v_number, .ref a_h_aside, .ref a_h_places, .ref a_h_told])), (a_h_d, .inl (cI, 2086, .inl v_d_A))] H → va_D A [(a_h, .inr (8, [.ref a_h_d, .long v_account, .ref a_h_was, .ref a_h_accounts, .int v_states, .int v_refused, .ref a_h_text, .int v_typed, .int v_at, .int v_sign, .int v_number, .ref a_h_aside, .ref a_h_places, .ref a_h_told])), (a_h_d, .inl (cI, 2086, .inl v_d_A))] → va_S A s.heap H locs → lv_has ls 5 [(0, .ref a_h), (1, .int x1), (2, .int x2), (3, .int x3)] → W p l e ({ frames := 2, cells := 0, slots := 0, locals := 52 } : Room) s m ([.ref a_h] : List Value).toArray below meth c H locs 0 0 (MQ below (QI D (ty4 cI cC cJ cB) A [(a_h, .inr (8, [.ref a_h_d, .long v_account, .ref a_h_was, .ref a_h_accounts, .int v_states, .int v_refused, .ref a_h_text, .int v_typed, .int v_at, .int v_sign, .int v_number, .ref a_h_aside, .ref a_h_places, .ref a_h_told])), (a_h_d, .inl (cI, 2086, .inl v_d_A))] u) ([.ref a_h] : List Value).toArray s 0 0 A) (F0 m 35 ls []) := by
    intro k
    induction k with
    | zero =>
      intro x1 x2 x3 H locs ls h
      exact nomatch (show (none : Option (Int32)) = some u from h)
    | succ k ih =>
      intro x1 x2 x3 H locs ls h hP hD hS hl
      rw [f_X8_again_b35.eq_2] at h
      refine lv_iload_n hx hb dX8_again_35 rfl (lv_at hl 3 rfl) ?_
      refine lv_aload_n hx hb dX8_again_36 rfl (lv_at hl 0 rfl) ?_
      refine va_get (D := D) (ci := 8) (v := .ref a_h_d) (C := RX8) (T := TX8) (N := 14) hx hb hts in_X8_again_X8 hown hK hP 0 rfl rfl 0 (by decide) (hts _ q_X8_again_1) (fun _ h9 => h9) rfl dX8_again_37 ?_
      refine lv_iconst (v := (5 : Int32)) hx hb dX8_again_40 (by decide) ?_
      refine wx_iald hx hb hK hP 1 0 rfl rfl 5 (by decide) (by unfold vp_in; decide) dX8_again_41 ?_
      refine lv_icmp_ge (tgt := 112) hx hb dX8_again_42 (by decide) (fun hc3 => ?_) (fun hc3 => ?_)
      · replace h := it_e hc3 h
        refine lv_iload_n hx hb dX8_again_112 rfl (lv_at hl 1 rfl) ?_
        obtain rfl := sm_e h
        exact rx_i hx hb hr  hP hK hD hS dX8_again_113 hlocks
      · replace h := if_e hc3 h
        refine lv_iload_n hx hb dX8_again_45 rfl (lv_at hl 3 rfl) ?_
        refine lv_iconst (v := (1 : Int32)) hx hb dX8_again_46 (by decide) ?_
        refine lv_iadd hx hb dX8_again_47 ?_
        refine lv_aload_n hx hb dX8_again_48 rfl (lv_at hl 0 rfl) ?_
        refine va_get (D := D) (ci := 8) (v := .ref a_h_d) (C := RX8) (T := TX8) (N := 14) hx hb hts in_X8_again_X8 hown hK hP 0 rfl rfl 0 (by decide) (hts _ q_X8_again_1) (fun _ h9 => h9) rfl dX8_again_49 ?_
        refine lv_iconst (v := (5 : Int32)) hx hb dX8_again_52 (by decide) ?_
        refine wx_iald hx hb hK hP 1 0 rfl rfl 5 (by decide) (by unfold vp_in; decide) dX8_again_53 ?_
        refine lv_icmp_ge (tgt := 71) hx hb dX8_again_54 (by decide) (fun hc4 => ?_) (fun hc4 => ?_)
        · replace h := it_e hc4 h
          refine lv_aload_n hx hb dX8_again_71 rfl (lv_at hl 0 rfl) ?_
          refine va_get (D := D) (ci := 8) (v := .ref a_h_d) (C := RX8) (T := TX8) (N := 14) hx hb hts in_X8_again_X8 hown hK hP 0 rfl rfl 0 (by decide) (hts _ q_X8_again_1) (fun _ h9 => h9) rfl dX8_again_72 ?_
          refine lv_iconst (v := (0 : Int32)) hx hb dX8_again_75 (by decide) ?_
          refine wx_iald hx hb hK hP 1 0 rfl rfl 0 (by decide) (by unfold vp_in; decide) dX8_again_76 ?_
          refine lv_topi (fun t5 et5 => ?_)
          replace h := nm_at h et5
          refine lv_istore (lv' := [(4, .int t5), (0, .ref a_h), (1, .int x1), (2, .int x2), (3, .int x3)]) hx hb dX8_again_77 hl (by decide) rfl (fun ls hl => ?_)
          refine lv_iload_n hx hb dX8_again_79 rfl (lv_at hl 2 rfl) ?_
          refine lv_iload_n hx hb dX8_again_80 rfl (lv_at hl 3 rfl) ?_
          refine lv_aload_n hx hb dX8_again_81 rfl (lv_at hl 1 rfl) ?_
          refine lv_iload_n hx hb dX8_again_82 rfl (lv_at hl 3 rfl) ?_
          refine lv_iload hx hb dX8_again_83 (lv_at hl 0 rfl) ?_
          refine lv_aload_n hx hb dX8_again_85 rfl (lv_at hl 1 rfl) ?_
          refine va_get (D := D) (ci := 8) (v := .ref a_h_d) (C := RX8) (T := TX8) (N := 14) hx hb hts in_X8_again_X8 hown hK hP 0 rfl rfl 0 (by decide) (hts _ q_X8_again_1) (fun _ h9 => h9) rfl dX8_again_86 ?_
          refine lv_bipush (v := (82 : Int32)) hx hb dX8_again_89 (by decide) ?_
          refine lv_iload_n hx hb dX8_again_91 rfl (lv_at hl 4 rfl) ?_
          refine lv_iadd hx hb dX8_again_92 ?_
          obtain ⟨hi6, h⟩ := gA_e h
          refine wx_iald hx hb hK hP 1 0 rfl rfl (Int32.toNatClampNeg ((82 : Int32) + x3)) rfl hi6 dX8_again_93 ?_
          refine lv_isub hx hb dX8_again_94 ?_
          refine lv_imul hx hb dX8_again_95 ?_
          refine lv_iconst (v := (2 : Int32)) hx hb dX8_again_96 (by decide) ?_
          obtain ⟨u7, hu7, h⟩ := bd_e h
          refine kx_i (mc := 0) (ms := 0) (wr := []) (ws2 := [(a_h, .inr (8, [.ref a_h_d, .long v_account, .ref a_h_was, .ref a_h_accounts, .int v_states, .int v_refused, .ref a_h_text, .int v_typed, .int v_at, .int v_sign, .int v_number, .ref a_h_aside, .ref a_h_places, .ref a_h_told])), (a_h_d, .inl (cI, 2086, .inl v_d_A))]) (va_runV (As := [.int (x2 * (t5 - (v_d_A (Int32.toNatClampNeg ((82 : Int32) + x3))))), .int (2 : Int32)]) (rest := [.int x2, .int x1]) ⟨hx, hb, hml, hown, hts⟩ (k_X8_curveAt l D cI cC cJ cB a_h a_h_d a_h_was a_h_accounts a_h_text a_h_aside a_h_places a_h_told v_account v_states v_refused v_typed v_at v_sign v_number v_d_A N (x2 * (t5 - (v_d_A (Int32.toNatClampNeg ((82 : Int32) + x3))))) (2 : Int32) H.size _ hu7) (cwV 2 hts gX8_again_X8_curveAt rfl rfl rfl (by decide +kernel) ⟨Nat.le_of_ble_eq_true rfl, Nat.le_of_ble_eq_true rfl⟩) (pv_V hP hD hK hN [0, 1] rfl rfl (ci := 8) rfl 0 rfl) rfl rfl hl.1 rfl (lv_room (Nat.le_of_ble_eq_true rfl)) dX8_again_97 ⟨Nat.zero_le _, Nat.zero_le _⟩) hP hD hS hA [0, 1] [] [0, 1] rfl rfl rfl rfl rfl rfl (fun H locs hP hD hS => ?_)
          refine lv_imul hx hb dX8_again_100 ?_
          refine lv_iadd hx hb dX8_again_101 ?_
          refine lv_topi (fun t8 et8 => ?_)
          replace h := nm_at h et8
          refine lv_istore_n (lv' := [(1, .int t8), (4, .int t5), (0, .ref a_h), (2, .int x2), (3, .int x3)]) hx hb dX8_again_102 rfl hl (by decide) rfl (fun ls hl => ?_)
          refine lv_iload_n hx hb dX8_again_103 rfl (lv_at hl 3 rfl) ?_
          refine lv_ineg hx hb dX8_again_104 ?_
          refine lv_topi (fun t9 et9 => ?_)
          replace h := nm_at h et9
          refine lv_istore_n (lv' := [(2, .int t9), (1, .int t8), (4, .int t5), (0, .ref a_h), (3, .int x3)]) hx hb dX8_again_105 rfl hl (by decide) rfl (fun ls hl => ?_)
          obtain ⟨t10, et10, h⟩ := nm_x h
          refine lv_iinc (v := t10) (lv' := [(3, .int t10), (2, .int t9), (1, .int t8), (4, .int t5), (0, .ref a_h)]) hx hb dX8_again_106 hl (k := 4) rfl (by rw [et10]; rfl) (by decide) rfl (fun ls hl => ?_)
          refine lv_goto (tgt := 35) hx hb dX8_again_109 (by decide) ?_
          exact ih t8 t9 t10 _ _ _ h hP hD hS (lv_sub hl [4, 2, 1, 0] rfl)
        · replace h := if_e hc4 h
          refine lv_aload_n hx hb dX8_again_57 rfl (lv_at hl 0 rfl) ?_
          refine va_get (D := D) (ci := 8) (v := .ref a_h_d) (C := RX8) (T := TX8) (N := 14) hx hb hts in_X8_again_X8 hown hK hP 0 rfl rfl 0 (by decide) (hts _ q_X8_again_1) (fun _ h9 => h9) rfl dX8_again_58 ?_
          refine lv_bipush (v := (82 : Int32)) hx hb dX8_again_61 (by decide) ?_
          refine lv_iload_n hx hb dX8_again_63 rfl (lv_at hl 3 rfl) ?_
          refine lv_iadd hx hb dX8_again_64 ?_
          refine lv_iconst (v := (1 : Int32)) hx hb dX8_again_65 (by decide) ?_
          refine lv_iadd hx hb dX8_again_66 ?_
          obtain ⟨hi11, h⟩ := gA_e h
          refine wx_iald hx hb hK hP 1 0 rfl rfl (Int32.toNatClampNeg (((82 : Int32) + x3) + (1 : Int32))) rfl hi11 dX8_again_67 ?_
          refine lv_goto (tgt := 77) hx hb dX8_again_68 (by decide) ?_
          refine lv_topi (fun t12 et12 => ?_)
          replace h := nm_at h et12
          refine lv_istore (lv' := [(4, .int t12), (0, .ref a_h), (1, .int x1), (2, .int x2), (3, .int x3)]) hx hb dX8_again_77 hl (by decide) rfl (fun ls hl => ?_)
          refine lv_iload_n hx hb dX8_again_79 rfl (lv_at hl 2 rfl) ?_
          refine lv_iload_n hx hb dX8_again_80 rfl (lv_at hl 3 rfl) ?_
          refine lv_aload_n hx hb dX8_again_81 rfl (lv_at hl 1 rfl) ?_
          refine lv_iload_n hx hb dX8_again_82 rfl (lv_at hl 3 rfl) ?_
          refine lv_iload hx hb dX8_again_83 (lv_at hl 0 rfl) ?_
          refine lv_aload_n hx hb dX8_again_85 rfl (lv_at hl 1 rfl) ?_
          refine va_get (D := D) (ci := 8) (v := .ref a_h_d) (C := RX8) (T := TX8) (N := 14) hx hb hts in_X8_again_X8 hown hK hP 0 rfl rfl 0 (by decide) (hts _ q_X8_again_1) (fun _ h9 => h9) rfl dX8_again_86 ?_
          refine lv_bipush (v := (82 : Int32)) hx hb dX8_again_89 (by decide) ?_
          refine lv_iload_n hx hb dX8_again_91 rfl (lv_at hl 4 rfl) ?_
          refine lv_iadd hx hb dX8_again_92 ?_
          obtain ⟨hi13, h⟩ := gA_e h
          refine wx_iald hx hb hK hP 1 0 rfl rfl (Int32.toNatClampNeg ((82 : Int32) + x3)) rfl hi13 dX8_again_93 ?_
          refine lv_isub hx hb dX8_again_94 ?_
          refine lv_imul hx hb dX8_again_95 ?_
          refine lv_iconst (v := (2 : Int32)) hx hb dX8_again_96 (by decide) ?_
          obtain ⟨u14, hu14, h⟩ := bd_e h
          refine kx_i (mc := 0) (ms := 0) (wr := []) (ws2 := [(a_h, .inr (8, [.ref a_h_d, .long v_account, .ref a_h_was, .ref a_h_accounts, .int v_states, .int v_refused, .ref a_h_text, .int v_typed, .int v_at, .int v_sign, .int v_number, .ref a_h_aside, .ref a_h_places, .ref a_h_told])), (a_h_d, .inl (cI, 2086, .inl v_d_A))]) (va_runV (As := [.int (x2 * (t12 - (v_d_A (Int32.toNatClampNeg ((82 : Int32) + x3))))), .int (2 : Int32)]) (rest := [.int x2, .int x1]) ⟨hx, hb, hml, hown, hts⟩ (k_X8_curveAt l D cI cC cJ cB a_h a_h_d a_h_was a_h_accounts a_h_text a_h_aside a_h_places a_h_told v_account v_states v_refused v_typed v_at v_sign v_number v_d_A N (x2 * (t12 - (v_d_A (Int32.toNatClampNeg ((82 : Int32) + x3))))) (2 : Int32) H.size _ hu14) (cwV 2 hts gX8_again_X8_curveAt rfl rfl rfl (by decide +kernel) ⟨Nat.le_of_ble_eq_true rfl, Nat.le_of_ble_eq_true rfl⟩) (pv_V hP hD hK hN [0, 1] rfl rfl (ci := 8) rfl 0 rfl) rfl rfl hl.1 rfl (lv_room (Nat.le_of_ble_eq_true rfl)) dX8_again_97 ⟨Nat.zero_le _, Nat.zero_le _⟩) hP hD hS hA [0, 1] [] [0, 1] rfl rfl rfl rfl rfl rfl (fun H locs hP hD hS => ?_)
          refine lv_imul hx hb dX8_again_100 ?_
          refine lv_iadd hx hb dX8_again_101 ?_
          refine lv_topi (fun t15 et15 => ?_)
          replace h := nm_at h et15
          refine lv_istore_n (lv' := [(1, .int t15), (4, .int t12), (0, .ref a_h), (2, .int x2), (3, .int x3)]) hx hb dX8_again_102 rfl hl (by decide) rfl (fun ls hl => ?_)
          refine lv_iload_n hx hb dX8_again_103 rfl (lv_at hl 3 rfl) ?_
          refine lv_ineg hx hb dX8_again_104 ?_
          refine lv_topi (fun t16 et16 => ?_)
          replace h := nm_at h et16
          refine lv_istore_n (lv' := [(2, .int t16), (1, .int t15), (4, .int t12), (0, .ref a_h), (3, .int x3)]) hx hb dX8_again_105 rfl hl (by decide) rfl (fun ls hl => ?_)
          obtain ⟨t17, et17, h⟩ := nm_x h
          refine lv_iinc (v := t17) (lv' := [(3, .int t17), (2, .int t16), (1, .int t15), (4, .int t12), (0, .ref a_h)]) hx hb dX8_again_106 hl (k := 4) rfl (by rw [et17]; rfl) (by decide) rfl (fun ls hl => ?_)
          refine lv_goto (tgt := 35) hx hb dX8_again_109 (by decide) ?_
          exact ih t15 t16 t17 _ _ _ h hP hD hS (lv_sub hl [4, 2, 1, 0] rfl)
  refine lv_aload_n hx hb dX8_again_0 rfl (lv_at hl 0 rfl) ?_
  refine lv_aload_n hx hb dX8_again_1 rfl (lv_at hl 0 rfl) ?_
  refine va_get (D := D) (ci := 8) (v := .ref a_h_d) (C := RX8) (T := TX8) (N := 14) hx hb hts in_X8_again_X8 hown hK hP 0 rfl rfl 0 (by decide) (hts _ q_X8_again_1) (fun _ h9 => h9) rfl dX8_again_2 ?_
  refine lv_iconst (v := (5 : Int32)) hx hb dX8_again_5 (by decide) ?_
  refine wx_iald hx hb hK hP 1 0 rfl rfl 5 (by decide) (by unfold vp_in; decide) dX8_again_6 ?_
  refine lv_if_ne (tgt := 19) hx hb dX8_again_7 (by decide) (fun hc1 => ?_) (fun hc1 => ?_)
  · replace h := it_e hc1 h
    refine lv_aload_n hx hb dX8_again_19 rfl (lv_at hl 0 rfl) ?_
    refine va_get (D := D) (ci := 8) (v := .ref a_h_d) (C := RX8) (T := TX8) (N := 14) hx hb hts in_X8_again_X8 hown hK hP 0 rfl rfl 0 (by decide) (hts _ q_X8_again_1) (fun _ h9 => h9) rfl dX8_again_20 ?_
    refine lv_bipush (v := (82 : Int32)) hx hb dX8_again_23 (by decide) ?_
    refine wx_iald hx hb hK hP 1 0 rfl rfl 82 (by decide) (by unfold vp_in; decide) dX8_again_25 ?_
    refine lv_iconst (v := (1 : Int32)) hx hb dX8_again_26 (by decide) ?_
    obtain ⟨u2, hu2, h⟩ := bd_e h
    refine kx_i (mc := 0) (ms := 0) (wr := []) (ws2 := [(a_h, .inr (8, [.ref a_h_d, .long v_account, .ref a_h_was, .ref a_h_accounts, .int v_states, .int v_refused, .ref a_h_text, .int v_typed, .int v_at, .int v_sign, .int v_number, .ref a_h_aside, .ref a_h_places, .ref a_h_told])), (a_h_d, .inl (cI, 2086, .inl v_d_A))]) (va_runV (As := [.int (v_d_A 82), .int (1 : Int32)]) (rest := []) ⟨hx, hb, hml, hown, hts⟩ (k_X8_curveAt l D cI cC cJ cB a_h a_h_d a_h_was a_h_accounts a_h_text a_h_aside a_h_places a_h_told v_account v_states v_refused v_typed v_at v_sign v_number v_d_A N (v_d_A 82) (1 : Int32) s.heap.size _ hu2) (cwV 2 hts gX8_again_X8_curveAt rfl rfl rfl (by decide +kernel) ⟨Nat.le_of_ble_eq_true rfl, Nat.le_of_ble_eq_true rfl⟩) (pv_V hP hD hK hN [0, 1] rfl rfl (ci := 8) rfl 0 rfl) rfl rfl hl.1 rfl (lv_room (Nat.le_of_ble_eq_true rfl)) dX8_again_27 ⟨Nat.zero_le _, Nat.zero_le _⟩) hP hD hS hA [0, 1] [] [0, 1] rfl rfl rfl rfl rfl rfl (fun H locs hP hD hS => ?_)
    refine lv_istore_n (lv' := [(1, .int u2), (0, .ref a_h)]) hx hb dX8_again_30 rfl hl (by decide) rfl (fun ls hl => ?_)
    refine lv_iconst (v := (-1 : Int32)) hx hb dX8_again_31 (by decide) ?_
    refine lv_istore_n (lv' := [(2, .int (-1 : Int32)), (1, .int u2), (0, .ref a_h)]) hx hb dX8_again_32 rfl hl (by decide) rfl (fun ls hl => ?_)
    refine lv_iconst (v := (0 : Int32)) hx hb dX8_again_33 (by decide) ?_
    refine lv_istore_n (lv' := [(3, .int (0 : Int32)), (2, .int (-1 : Int32)), (1, .int u2), (0, .ref a_h)]) hx hb dX8_again_34 rfl hl (by decide) rfl (fun ls hl => ?_)
    exact B35 N u2 (-1 : Int32) (0 : Int32) _ _ _ h hP hD hS (lv_sub hl [3, 2, 1, 0] rfl)
  · replace h := in_e hc1 h
    refine lv_aload_n hx hb dX8_again_10 rfl (lv_at hl 0 rfl) ?_
    refine va_get (D := D) (ci := 8) (v := .ref a_h_d) (C := RX8) (T := TX8) (N := 14) hx hb hts in_X8_again_X8 hown hK hP 0 rfl rfl 0 (by decide) (hts _ q_X8_again_1) (fun _ h9 => h9) rfl dX8_again_11 ?_
    refine lv_iconst (v := (0 : Int32)) hx hb dX8_again_14 (by decide) ?_
    refine wx_iald hx hb hK hP 1 0 rfl rfl 0 (by decide) (by unfold vp_in; decide) dX8_again_15 ?_
    refine lv_goto (tgt := 26) hx hb dX8_again_16 (by decide) ?_
    refine lv_iconst (v := (1 : Int32)) hx hb dX8_again_26 (by decide) ?_
    obtain ⟨u18, hu18, h⟩ := bd_e h
    refine kx_i (mc := 0) (ms := 0) (wr := []) (ws2 := [(a_h, .inr (8, [.ref a_h_d, .long v_account, .ref a_h_was, .ref a_h_accounts, .int v_states, .int v_refused, .ref a_h_text, .int v_typed, .int v_at, .int v_sign, .int v_number, .ref a_h_aside, .ref a_h_places, .ref a_h_told])), (a_h_d, .inl (cI, 2086, .inl v_d_A))]) (va_runV (As := [.int (v_d_A 0), .int (1 : Int32)]) (rest := []) ⟨hx, hb, hml, hown, hts⟩ (k_X8_curveAt l D cI cC cJ cB a_h a_h_d a_h_was a_h_accounts a_h_text a_h_aside a_h_places a_h_told v_account v_states v_refused v_typed v_at v_sign v_number v_d_A N (v_d_A 0) (1 : Int32) s.heap.size _ hu18) (cwV 2 hts gX8_again_X8_curveAt rfl rfl rfl (by decide +kernel) ⟨Nat.le_of_ble_eq_true rfl, Nat.le_of_ble_eq_true rfl⟩) (pv_V hP hD hK hN [0, 1] rfl rfl (ci := 8) rfl 0 rfl) rfl rfl hl.1 rfl (lv_room (Nat.le_of_ble_eq_true rfl)) dX8_again_27 ⟨Nat.zero_le _, Nat.zero_le _⟩) hP hD hS hA [0, 1] [] [0, 1] rfl rfl rfl rfl rfl rfl (fun H locs hP hD hS => ?_)
    refine lv_istore_n (lv' := [(1, .int u18), (0, .ref a_h)]) hx hb dX8_again_30 rfl hl (by decide) rfl (fun ls hl => ?_)
    refine lv_iconst (v := (-1 : Int32)) hx hb dX8_again_31 (by decide) ?_
    refine lv_istore_n (lv' := [(2, .int (-1 : Int32)), (1, .int u18), (0, .ref a_h)]) hx hb dX8_again_32 rfl hl (by decide) rfl (fun ls hl => ?_)
    refine lv_iconst (v := (0 : Int32)) hx hb dX8_again_33 (by decide) ?_
    refine lv_istore_n (lv' := [(3, .int (0 : Int32)), (2, .int (-1 : Int32)), (1, .int u18), (0, .ref a_h)]) hx hb dX8_again_34 rfl hl (by decide) rfl (fun ls hl => ?_)
    exact B35 N u18 (-1 : Int32) (0 : Int32) _ _ _ h hP hD hS (lv_sub hl [3, 2, 1, 0] rfl)
-- X8_isFree
def f_X8_isFree (v_d_A : Nat → Int32) : Option (Int32) :=
  (if ¬ (v_d_A 0) = 0 then some (0 : Int32)
    else (if ¬ (v_d_A 5) = 0 then some (0 : Int32)
    else some (1 : Int32)))
theorem q_X8_isFree_1 : (.fieldLink RX8 7 "SpringBalanceModel" "d" "[I" : Cond) ∈ wsX8_isFree := List.mem_of_getElem? (i := 1) (by decide +kernel)
set_option maxRecDepth 20000 in
theorem in_X8_isFree_X8 : ∀ w ∈ u_ws RX8 TX8 14, w ∈ wsX8_isFree := by decide +kernel
set_option maxHeartbeats 8000000 in
set_option maxRecDepth 100000 in
theorem k_X8_isFree (l : Launch) (D : va_G) (cI cC cJ cB : ClassId) (a_h a_h_d a_h_was a_h_accounts a_h_text a_h_aside a_h_places a_h_told : Nat) (v_account : Int64) (v_states : Int32) (v_refused : Int32) (v_typed : Int32) (v_at : Int32) (v_sign : Int32) (v_number : Int32) (v_d_A : Nat → Int32) (N : Nat) (sz : Nat) (u : Int32) (hu : f_X8_isFree v_d_A = some u) :
    Met l yX8_isFree wsX8_isFree ({ frames := 0, cells := 0, slots := 0, locals := 0 } : Room) (va_Pc [.ref a_h] (PreW D (ty4 cI cC cJ cB) sz [(a_h, .inr (8, [.ref a_h_d, .long v_account, .ref a_h_was, .ref a_h_accounts, .int v_states, .int v_refused, .ref a_h_text, .int v_typed, .int v_at, .int v_sign, .int v_number, .ref a_h_aside, .ref a_h_places, .ref a_h_told])), (a_h_d, .inl (cI, 2086, .inl v_d_A))]))
      (QI D (ty4 cI cC cJ cB) (va_A [(a_h, .inr (8, [.ref a_h_d, .long v_account, .ref a_h_was, .ref a_h_accounts, .int v_states, .int v_refused, .ref a_h_text, .int v_typed, .int v_at, .int v_sign, .int v_number, .ref a_h_aside, .ref a_h_places, .ref a_h_told])), (a_h_d, .inl (cI, 2086, .inl v_d_A))] sz) [(a_h, .inr (8, [.ref a_h_d, .long v_account, .ref a_h_was, .ref a_h_accounts, .int v_states, .int v_refused, .ref a_h_text, .int v_typed, .int v_at, .int v_sign, .int v_number, .ref a_h_aside, .ref a_h_places, .ref a_h_told])), (a_h_d, .inl (cI, 2086, .inl v_d_A))] u) 0 0 (va_A [(a_h, .inr (8, [.ref a_h_d, .long v_account, .ref a_h_was, .ref a_h_accounts, .int v_states, .int v_refused, .ref a_h_text, .int v_typed, .int v_at, .int v_sign, .int v_number, .ref a_h_aside, .ref a_h_places, .ref a_h_told])), (a_h_d, .inl (cI, 2086, .inl v_d_A))] sz) := by
  refine met_go (y := yX8_isFree) (wsy := wsX8_isFree) (cc := cX8_isFree) (maxL := 1) (ret := (some .boolean)) (av := [.ref a_h]) (Qc := fun A => QI D (ty4 cI cC cJ cB) A [(a_h, .inr (8, [.ref a_h_d, .long v_account, .ref a_h_was, .ref a_h_accounts, .int v_states, .int v_refused, .ref a_h_text, .int v_typed, .int v_at, .int v_sign, .int v_number, .ref a_h_aside, .ref a_h_places, .ref a_h_told])), (a_h_d, .inl (cI, 2086, .inl v_d_A))] u) (by decide) rfl (Nat.le_of_ble_eq_true rfl) ?_
  intro p e s m below meth c A ls hx hb hr hml hown hts hlocks hnm hN hK hP hD hS hA hl
  have h := hu
  clear hu
  unfold f_X8_isFree at h
  have hl : lv_has ls 1 [(0, .ref a_h)] := hl
  refine lv_aload_n hx hb dX8_isFree_0 rfl (lv_at hl 0 rfl) ?_
  refine va_get (D := D) (ci := 8) (v := .ref a_h_d) (C := RX8) (T := TX8) (N := 14) hx hb hts in_X8_isFree_X8 hown hK hP 0 rfl rfl 0 (by decide) (hts _ q_X8_isFree_1) (fun _ h9 => h9) rfl dX8_isFree_1 ?_
  refine lv_iconst (v := (0 : Int32)) hx hb dX8_isFree_4 (by decide) ?_
  refine wx_iald hx hb hK hP 1 0 rfl rfl 0 (by decide) (by unfold vp_in; decide) dX8_isFree_5 ?_
  refine lv_if_ne (tgt := 22) hx hb dX8_isFree_6 (by decide) (fun hc1 => ?_) (fun hc1 => ?_)
  · replace h := it_e hc1 h
    refine lv_iconst (v := (0 : Int32)) hx hb dX8_isFree_22 (by decide) ?_
    obtain rfl := sm_e h
    exact rx_z hx hb hr rfl hP hK hD hS dX8_isFree_23 hlocks
  · replace h := in_e hc1 h
    refine lv_aload_n hx hb dX8_isFree_9 rfl (lv_at hl 0 rfl) ?_
    refine va_get (D := D) (ci := 8) (v := .ref a_h_d) (C := RX8) (T := TX8) (N := 14) hx hb hts in_X8_isFree_X8 hown hK hP 0 rfl rfl 0 (by decide) (hts _ q_X8_isFree_1) (fun _ h9 => h9) rfl dX8_isFree_10 ?_
    refine lv_iconst (v := (5 : Int32)) hx hb dX8_isFree_13 (by decide) ?_
    refine wx_iald hx hb hK hP 1 0 rfl rfl 5 (by decide) (by unfold vp_in; decide) dX8_isFree_14 ?_
    refine lv_if_ne (tgt := 22) hx hb dX8_isFree_15 (by decide) (fun hc2 => ?_) (fun hc2 => ?_)
    · replace h := it_e hc2 h
      refine lv_iconst (v := (0 : Int32)) hx hb dX8_isFree_22 (by decide) ?_
      obtain rfl := sm_e h
      exact rx_z hx hb hr rfl hP hK hD hS dX8_isFree_23 hlocks
    · replace h := in_e hc2 h
      refine lv_iconst (v := (1 : Int32)) hx hb dX8_isFree_18 (by decide) ?_
      refine lv_goto (tgt := 23) hx hb dX8_isFree_19 (by decide) ?_
      obtain rfl := sm_e h
      exact rx_z hx hb hr rfl hP hK hD hS dX8_isFree_23 hlocks
-- X8_pointAt
def f_X8_pointAt_b2 (v_d_A : Nat → Int32) (p0 : Int32) : Nat → Int32 → Option (Int32)
  | 0, _ => none
  | k + 1, x2 =>
    gA ((10 : Int32) + x2) 2086 ((if p0 ≤ (v_d_A (Int32.toNatClampNeg ((10 : Int32) + x2))) then some x2
    else nm (x2 + (1 : Int32)) (fun t3 => (f_X8_pointAt_b2 v_d_A p0 k t3))))
def f_X8_pointAt (N : Nat) (v_d_A : Nat → Int32) (p0 : Int32) : Option (Int32) :=
  (f_X8_pointAt_b2 v_d_A p0 N (0 : Int32))
theorem q_X8_pointAt_1 : (.fieldLink RX8 7 "SpringBalanceModel" "d" "[I" : Cond) ∈ wsX8_pointAt := List.mem_of_getElem? (i := 1) (by decide +kernel)
set_option maxRecDepth 20000 in
theorem in_X8_pointAt_X8 : ∀ w ∈ u_ws RX8 TX8 14, w ∈ wsX8_pointAt := by decide +kernel
set_option maxHeartbeats 8000000 in
set_option maxRecDepth 100000 in
theorem k_X8_pointAt (l : Launch) (D : va_G) (cI cC cJ cB : ClassId) (a_h a_h_d a_h_was a_h_accounts a_h_text a_h_aside a_h_places a_h_told : Nat) (v_account : Int64) (v_states : Int32) (v_refused : Int32) (v_typed : Int32) (v_at : Int32) (v_sign : Int32) (v_number : Int32) (v_d_A : Nat → Int32) (N : Nat) (p0 : Int32) (sz : Nat) (u : Int32) (hu : f_X8_pointAt N v_d_A p0 = some u) :
    Met l yX8_pointAt wsX8_pointAt ({ frames := 0, cells := 0, slots := 0, locals := 0 } : Room) (va_Pc [.ref a_h, .int p0] (PreW D (ty4 cI cC cJ cB) sz [(a_h, .inr (8, [.ref a_h_d, .long v_account, .ref a_h_was, .ref a_h_accounts, .int v_states, .int v_refused, .ref a_h_text, .int v_typed, .int v_at, .int v_sign, .int v_number, .ref a_h_aside, .ref a_h_places, .ref a_h_told])), (a_h_d, .inl (cI, 2086, .inl v_d_A))]))
      (QI D (ty4 cI cC cJ cB) (va_A [(a_h, .inr (8, [.ref a_h_d, .long v_account, .ref a_h_was, .ref a_h_accounts, .int v_states, .int v_refused, .ref a_h_text, .int v_typed, .int v_at, .int v_sign, .int v_number, .ref a_h_aside, .ref a_h_places, .ref a_h_told])), (a_h_d, .inl (cI, 2086, .inl v_d_A))] sz) [(a_h, .inr (8, [.ref a_h_d, .long v_account, .ref a_h_was, .ref a_h_accounts, .int v_states, .int v_refused, .ref a_h_text, .int v_typed, .int v_at, .int v_sign, .int v_number, .ref a_h_aside, .ref a_h_places, .ref a_h_told])), (a_h_d, .inl (cI, 2086, .inl v_d_A))] u) 0 0 (va_A [(a_h, .inr (8, [.ref a_h_d, .long v_account, .ref a_h_was, .ref a_h_accounts, .int v_states, .int v_refused, .ref a_h_text, .int v_typed, .int v_at, .int v_sign, .int v_number, .ref a_h_aside, .ref a_h_places, .ref a_h_told])), (a_h_d, .inl (cI, 2086, .inl v_d_A))] sz) := by
  refine met_go (y := yX8_pointAt) (wsy := wsX8_pointAt) (cc := cX8_pointAt) (maxL := 3) (ret := (some .int)) (av := [.ref a_h, .int p0]) (Qc := fun A => QI D (ty4 cI cC cJ cB) A [(a_h, .inr (8, [.ref a_h_d, .long v_account, .ref a_h_was, .ref a_h_accounts, .int v_states, .int v_refused, .ref a_h_text, .int v_typed, .int v_at, .int v_sign, .int v_number, .ref a_h_aside, .ref a_h_places, .ref a_h_told])), (a_h_d, .inl (cI, 2086, .inl v_d_A))] u) (by decide) rfl (Nat.le_of_ble_eq_true rfl) ?_
  intro p e s m below meth c A ls hx hb hr hml hown hts hlocks hnm hN hK hP hD hS hA hl
  have h := hu
  clear hu
  unfold f_X8_pointAt at h
  have hl : lv_has ls 3 [(0, .ref a_h), (1, .int p0)] := hl
  have B2 : ∀ (k : Nat) (x2 : Int32) (H : Heap) (locs : List Loc) (ls : Array Slot), f_X8_pointAt_b2 v_d_A p0 k x2 = some u → va_P D vwCl [(a_h, .inr (8, [.ref a_h_d, .long v_account, .ref a_h_was, .ref a_h_accounts, .int v_states, .int v_refused, .ref a_h_text, .int v_typed, .int v_at, .int v_sign, .int v_number, .ref a_h_aside, .ref a_h_places, .ref a_h_told])), (a_h_d, .inl (cI, 2086, .inl v_d_A))] H → va_D A [(a_h, .inr (8, [.ref a_h_d, .long v_account, .ref a_h_was, .ref a_h_accounts, .int v_states, .int v_refused, .ref a_h_text, .int v_typed, .int v_at, .int v_sign, .int v_number, .ref a_h_aside, .ref a_h_places, .ref a_h_told])), (a_h_d, .inl (cI, 2086, .inl v_d_A))] → va_S A s.heap H locs → lv_has ls 3 [(0, .ref a_h), (1, .int p0), (2, .int x2)] → W p l e ({ frames := 0, cells := 0, slots := 0, locals := 0 } : Room) s m ([.ref a_h, .int p0] : List Value).toArray below meth c H locs 0 0 (MQ below (QI D (ty4 cI cC cJ cB) A [(a_h, .inr (8, [.ref a_h_d, .long v_account, .ref a_h_was, .ref a_h_accounts, .int v_states, .int v_refused, .ref a_h_text, .int v_typed, .int v_at, .int v_sign, .int v_number, .ref a_h_aside, .ref a_h_places, .ref a_h_told])), (a_h_d, .inl (cI, 2086, .inl v_d_A))] u) ([.ref a_h, .int p0] : List Value).toArray s 0 0 A) (F0 m 2 ls []) := by
    intro k
    induction k with
    | zero =>
      intro x2 H locs ls h
      exact nomatch (show (none : Option (Int32)) = some u from h)
    | succ k ih =>
      intro x2 H locs ls h hP hD hS hl
      rw [f_X8_pointAt_b2.eq_2] at h
      refine lv_aload_n hx hb dX8_pointAt_2 rfl (lv_at hl 0 rfl) ?_
      refine va_get (D := D) (ci := 8) (v := .ref a_h_d) (C := RX8) (T := TX8) (N := 14) hx hb hts in_X8_pointAt_X8 hown hK hP 0 rfl rfl 0 (by decide) (hts _ q_X8_pointAt_1) (fun _ h9 => h9) rfl dX8_pointAt_3 ?_
      refine lv_bipush (v := (10 : Int32)) hx hb dX8_pointAt_6 (by decide) ?_
      refine lv_iload_n hx hb dX8_pointAt_8 rfl (lv_at hl 2 rfl) ?_
      refine lv_iadd hx hb dX8_pointAt_9 ?_
      obtain ⟨hi1, h⟩ := gA_e h
      refine wx_iald hx hb hK hP 1 0 rfl rfl (Int32.toNatClampNeg ((10 : Int32) + x2)) rfl hi1 dX8_pointAt_10 ?_
      refine lv_iload_n hx hb dX8_pointAt_11 rfl (lv_at hl 1 rfl) ?_
      refine lv_icmp_ge (tgt := 21) hx hb dX8_pointAt_12 (by decide) (fun hc2 => ?_) (fun hc2 => ?_)
      · replace h := it_e hc2 h
        refine lv_iload_n hx hb dX8_pointAt_21 rfl (lv_at hl 2 rfl) ?_
        obtain rfl := sm_e h
        exact rx_i hx hb hr  hP hK hD hS dX8_pointAt_22 hlocks
      · replace h := if_e hc2 h
        obtain ⟨t3, et3, h⟩ := nm_x h
        refine lv_iinc (v := t3) (lv' := [(2, .int t3), (0, .ref a_h), (1, .int p0)]) hx hb dX8_pointAt_15 hl (k := 2) rfl (by rw [et3]; rfl) (by decide) rfl (fun ls hl => ?_)
        refine lv_goto (tgt := 2) hx hb dX8_pointAt_18 (by decide) ?_
        exact ih t3 _ _ _ h hP hD hS (lv_sub hl [1, 2, 0] rfl)
  refine lv_iconst (v := (0 : Int32)) hx hb dX8_pointAt_0 (by decide) ?_
  refine lv_istore_n (lv' := [(2, .int (0 : Int32)), (0, .ref a_h), (1, .int p0)]) hx hb dX8_pointAt_1 rfl hl (by decide) rfl (fun ls hl => ?_)
  exact B2 N (0 : Int32) _ _ _ h hP hD hS (lv_sub hl [1, 2, 0] rfl)
-- X8_setPoint
def f_X8_setPoint_b166 (p0 : Int32) (p1 : Int32) (x3 : Int32) (m_states : Int32) (m_was_A : Nat → Int32) (m_accounts_A : Nat → Int64) : Nat → Int32 → (Nat → Int32) → Option (Int32 × Int32 × (Nat → Int32) × (Nat → Int32) × (Nat → Int64))
  | 0, _, _ => none
  | k + 1, x7, m_d_A =>
    (if x7 ≤ x3 then nm ((m_d_A 9) + (1 : Int32)) (fun t23 => nm (upd m_d_A 9 t23) (fun g24 => gA ((10 : Int32) + x3) 2086 (nm (upd g24 (Int32.toNatClampNeg ((10 : Int32) + x3)) p0) (fun g26 => gA ((18 : Int32) + x3) 2086 (nm (upd g26 (Int32.toNatClampNeg ((18 : Int32) + x3)) p1) (fun g28 => some ((g28 9), m_states, g28, m_was_A, m_accounts_A)))))))
    else gA (((10 : Int32) + x7) - (1 : Int32)) 2086 (nm (m_d_A (Int32.toNatClampNeg (((10 : Int32) + x7) - (1 : Int32)))) (fun t30 => gA ((10 : Int32) + x7) 2086 (nm (upd m_d_A (Int32.toNatClampNeg ((10 : Int32) + x7)) t30) (fun g32 => gA (((18 : Int32) + x7) - (1 : Int32)) 2086 (nm (g32 (Int32.toNatClampNeg (((18 : Int32) + x7) - (1 : Int32)))) (fun t34 => gA ((18 : Int32) + x7) 2086 (nm (upd g32 (Int32.toNatClampNeg ((18 : Int32) + x7)) t34) (fun g36 => nm (x7 + (-1 : Int32)) (fun t37 => (f_X8_setPoint_b166 p0 p1 x3 m_states m_was_A m_accounts_A k t37 g36)))))))))))
def f_X8_setPoint_b148 (N : Nat) (v_account : Int64) (p0 : Int32) (p1 : Int32) (x3 : Int32) (x4 : Int32) (m_states : Int32) (m_d_A : Nat → Int32) (m_was_A : Nat → Int32) (m_accounts_A : Nat → Int64) : Option (Int32 × Int32 × (Nat → Int32) × (Nat → Int32) × (Nat → Int64)) :=
  Option.bind (f_X8_records N v_account m_states m_d_A m_was_A m_accounts_A) (fun u15 => (if ¬ x4 = 0 then gA ((10 : Int32) + x3) 2086 (nm (upd m_d_A (Int32.toNatClampNeg ((10 : Int32) + x3)) p0) (fun g18 => gA ((18 : Int32) + x3) 2086 (nm (upd g18 (Int32.toNatClampNeg ((18 : Int32) + x3)) p1) (fun g20 => some ((g20 9), u15.1, g20, u15.2.1, u15.2.2)))))
    else nm (m_d_A 9) (fun t21 => (f_X8_setPoint_b166 p0 p1 x3 u15.1 u15.2.1 u15.2.2 N t21 m_d_A))))
def f_X8_setPoint_b111 (N : Nat) (v_account : Int64) (p0 : Int32) (p1 : Int32) (x3 : Int32) (x4 : Int32) (s0 : Int32) (m_states : Int32) (m_d_A : Nat → Int32) (m_was_A : Nat → Int32) (m_accounts_A : Nat → Int64) : Option (Int32 × Int32 × (Nat → Int32) × (Nat → Int32) × (Nat → Int64)) :=
  Option.bind (f_X8_isFree m_d_A) (fun u11 => (if u11 = 0 then some ((-2000000002 : Int32), m_states, m_d_A, m_was_A, m_accounts_A)
    else (if ¬ s0 = 0 then (if ¬ x4 = 0 then (f_X8_setPoint_b148 N v_account p0 p1 x3 x4 m_states m_d_A m_was_A m_accounts_A )
    else (if ¬ (m_d_A 9) = (8 : Int32) then (f_X8_setPoint_b148 N v_account p0 p1 x3 x4 m_states m_d_A m_was_A m_accounts_A )
    else some ((-2000000003 : Int32), m_states, m_d_A, m_was_A, m_accounts_A)))
    else some ((-2000000002 : Int32), m_states, m_d_A, m_was_A, m_accounts_A))))
def f_X8_setPoint_b110 (N : Nat) (v_account : Int64) (p0 : Int32) (p1 : Int32) (x3 : Int32) (x4 : Int32) (m_states : Int32) (m_d_A : Nat → Int32) (m_was_A : Nat → Int32) (m_accounts_A : Nat → Int64) : Option (Int32 × Int32 × (Nat → Int32) × (Nat → Int32) × (Nat → Int64)) :=
  (f_X8_setPoint_b111 N v_account p0 p1 x3 x4 (0 : Int32) m_states m_d_A m_was_A m_accounts_A )
def f_X8_setPoint_b106 (N : Nat) (v_account : Int64) (p0 : Int32) (p1 : Int32) (x3 : Int32) (x4 : Int32) (m_states : Int32) (m_d_A : Nat → Int32) (m_was_A : Nat → Int32) (m_accounts_A : Nat → Int64) : Option (Int32 × Int32 × (Nat → Int32) × (Nat → Int32) × (Nat → Int64)) :=
  (f_X8_setPoint_b111 N v_account p0 p1 x3 x4 (1 : Int32) m_states m_d_A m_was_A m_accounts_A )
def f_X8_setPoint_b63 (N : Nat) (v_account : Int64) (p0 : Int32) (p1 : Int32) (x3 : Int32) (x4 : Int32) (s0 : Int32) (m_states : Int32) (m_d_A : Nat → Int32) (m_was_A : Nat → Int32) (m_accounts_A : Nat → Int64) : Option (Int32 × Int32 × (Nat → Int32) × (Nat → Int32) × (Nat → Int64)) :=
  gA (((18 : Int32) + x3) - (1 : Int32)) 2086 ((if p1 ≤ (m_d_A (Int32.toNatClampNeg (((18 : Int32) + x3) - (1 : Int32)))) then (f_X8_setPoint_b110 N v_account p0 p1 x3 x4 m_states m_d_A m_was_A m_accounts_A )
    else (if s0 = (m_d_A 9) then (f_X8_setPoint_b106 N v_account p0 p1 x3 x4 m_states m_d_A m_was_A m_accounts_A )
    else gA ((18 : Int32) + s0) 2086 ((if (m_d_A (Int32.toNatClampNeg ((18 : Int32) + s0))) ≤ p1 then (f_X8_setPoint_b110 N v_account p0 p1 x3 x4 m_states m_d_A m_was_A m_accounts_A )
    else (f_X8_setPoint_b106 N v_account p0 p1 x3 x4 m_states m_d_A m_was_A m_accounts_A ))))))
def f_X8_setPoint_b49 (N : Nat) (v_account : Int64) (p0 : Int32) (p1 : Int32) (x3 : Int32) (s0 : Int32) (m_states : Int32) (m_d_A : Nat → Int32) (m_was_A : Nat → Int32) (m_accounts_A : Nat → Int64) : Option (Int32 × Int32 × (Nat → Int32) × (Nat → Int32) × (Nat → Int64)) :=
  (if s0 = 0 then (f_X8_setPoint_b63 N v_account p0 p1 x3 s0 x3 m_states m_d_A m_was_A m_accounts_A )
    else (f_X8_setPoint_b63 N v_account p0 p1 x3 s0 (x3 + (1 : Int32)) m_states m_d_A m_was_A m_accounts_A ))
def f_X8_setPoint (N : Nat) (v_account : Int64) (v_states : Int32) (v_d_A : Nat → Int32) (v_was_A : Nat → Int32) (v_accounts_A : Nat → Int64) (p0 : Int32) (p1 : Int32) : Option (Int32 × Int32 × (Nat → Int32) × (Nat → Int32) × (Nat → Int64)) :=
  Option.bind (f_X8_in p0 (1 : Int32) (1000 : Int32)) (fun u1 => (if u1 = 0 then some ((-2000000001 : Int32), v_states, v_d_A, v_was_A, v_accounts_A)
    else Option.bind (f_X8_in p1 (1 : Int32) (20000 : Int32)) (fun u3 => (if ¬ u3 = 0 then Option.bind (f_X8_pointAt N v_d_A p0) (fun u5 => gA ((10 : Int32) + u5) 2086 ((if ¬ (v_d_A (Int32.toNatClampNeg ((10 : Int32) + u5))) = p0 then (f_X8_setPoint_b49 N v_account p0 p1 u5 (0 : Int32) v_states v_d_A v_was_A v_accounts_A )
    else (f_X8_setPoint_b49 N v_account p0 p1 u5 (1 : Int32) v_states v_d_A v_was_A v_accounts_A ))))
    else some ((-2000000001 : Int32), v_states, v_d_A, v_was_A, v_accounts_A)))))
theorem q_X8_setPoint_1 : (.constant RX8 64 (-2000000001) : Cond) ∈ wsX8_setPoint := List.mem_of_getElem? (i := 1) (by decide +kernel)
theorem q_X8_setPoint_2 : (.fieldLink RX8 7 "SpringBalanceModel" "d" "[I" : Cond) ∈ wsX8_setPoint := List.mem_of_getElem? (i := 2) (by decide +kernel)
set_option maxRecDepth 20000 in
theorem in_X8_setPoint_X8 : ∀ w ∈ u_ws RX8 TX8 14, w ∈ wsX8_setPoint := by decide +kernel
theorem q_X8_setPoint_3 : (.constant RX8 69 (-2000000002) : Cond) ∈ wsX8_setPoint := List.mem_of_getElem? (i := 3) (by decide +kernel)
theorem q_X8_setPoint_4 : (.constant RX8 104 (-2000000003) : Cond) ∈ wsX8_setPoint := List.mem_of_getElem? (i := 4) (by decide +kernel)
set_option maxHeartbeats 8000000 in
set_option maxRecDepth 100000 in
theorem k_X8_setPoint (l : Launch) (D : va_G) (cI cC cJ cB : ClassId) (a_h a_h_d a_h_was a_h_accounts a_h_text a_h_aside a_h_places a_h_told : Nat) (v_account : Int64) (v_states : Int32) (v_refused : Int32) (v_typed : Int32) (v_at : Int32) (v_sign : Int32) (v_number : Int32) (v_d_A : Nat → Int32) (v_was_A : Nat → Int32) (v_accounts_A : Nat → Int64) (N : Nat) (p0 : Int32) (p1 : Int32) (sz : Nat) (u : Int32 × Int32 × (Nat → Int32) × (Nat → Int32) × (Nat → Int64)) (hu : f_X8_setPoint N v_account v_states v_d_A v_was_A v_accounts_A p0 p1 = some u) :
    Met l yX8_setPoint wsX8_setPoint ({ frames := 1, cells := 0, slots := 0, locals := 22 } : Room) (va_Pc [.ref a_h, .int p0, .int p1] (PreW D (ty4 cI cC cJ cB) sz [(a_h, .inr (8, [.ref a_h_d, .long v_account, .ref a_h_was, .ref a_h_accounts, .int v_states, .int v_refused, .ref a_h_text, .int v_typed, .int v_at, .int v_sign, .int v_number, .ref a_h_aside, .ref a_h_places, .ref a_h_told])), (a_h_d, .inl (cI, 2086, .inl v_d_A)), (a_h_was, .inl (cI, 10430, .inl v_was_A)), (a_h_accounts, .inl (cJ, 5, .inr (.inl v_accounts_A)))]))
      (QI D (ty4 cI cC cJ cB) (va_A [(a_h, .inr (8, [.ref a_h_d, .long v_account, .ref a_h_was, .ref a_h_accounts, .int v_states, .int v_refused, .ref a_h_text, .int v_typed, .int v_at, .int v_sign, .int v_number, .ref a_h_aside, .ref a_h_places, .ref a_h_told])), (a_h_d, .inl (cI, 2086, .inl v_d_A)), (a_h_was, .inl (cI, 10430, .inl v_was_A)), (a_h_accounts, .inl (cJ, 5, .inr (.inl v_accounts_A)))] sz) [(a_h, .inr (8, [.ref a_h_d, .long v_account, .ref a_h_was, .ref a_h_accounts, .int u.2.1, .int v_refused, .ref a_h_text, .int v_typed, .int v_at, .int v_sign, .int v_number, .ref a_h_aside, .ref a_h_places, .ref a_h_told])), (a_h_d, .inl (cI, 2086, .inl u.2.2.1)), (a_h_was, .inl (cI, 10430, .inl u.2.2.2.1)), (a_h_accounts, .inl (cJ, 5, .inr (.inl u.2.2.2.2)))] u.1) 0 0 (va_A [(a_h, .inr (8, [.ref a_h_d, .long v_account, .ref a_h_was, .ref a_h_accounts, .int v_states, .int v_refused, .ref a_h_text, .int v_typed, .int v_at, .int v_sign, .int v_number, .ref a_h_aside, .ref a_h_places, .ref a_h_told])), (a_h_d, .inl (cI, 2086, .inl v_d_A)), (a_h_was, .inl (cI, 10430, .inl v_was_A)), (a_h_accounts, .inl (cJ, 5, .inr (.inl v_accounts_A)))] sz) := by
  refine met_go (y := yX8_setPoint) (wsy := wsX8_setPoint) (cc := cX8_setPoint) (maxL := 8) (ret := (some .int)) (av := [.ref a_h, .int p0, .int p1]) (Qc := fun A => QI D (ty4 cI cC cJ cB) A [(a_h, .inr (8, [.ref a_h_d, .long v_account, .ref a_h_was, .ref a_h_accounts, .int u.2.1, .int v_refused, .ref a_h_text, .int v_typed, .int v_at, .int v_sign, .int v_number, .ref a_h_aside, .ref a_h_places, .ref a_h_told])), (a_h_d, .inl (cI, 2086, .inl u.2.2.1)), (a_h_was, .inl (cI, 10430, .inl u.2.2.2.1)), (a_h_accounts, .inl (cJ, 5, .inr (.inl u.2.2.2.2)))] u.1) (by decide) rfl (Nat.le_of_ble_eq_true rfl) ?_
  intro p e s m below meth c A ls hx hb hr hml hown hts hlocks hnm hN hK hP hD hS hA hl
  have h := hu
  clear hu
  unfold f_X8_setPoint at h
  have hl : lv_has ls 8 [(0, .ref a_h), (1, .int p0), (2, .int p1)] := hl
  have B166 : ∀ (k : Nat) (x3 : Int32) (x4 : Int32) (x5 : Int32) (x6 : Int32) (x7 : Int32) (m_states : Int32) (m_d_A : Nat → Int32) (m_was_A : Nat → Int32) (m_accounts_A : Nat → Int64) (H : Heap) (locs : List Loc) (ls : Array Slot), f_X8_setPoint_b166 p0 p1 x3 m_states m_was_A m_accounts_A k x7 m_d_A = some u → va_P D vwCl [(a_h, .inr (8, [.ref a_h_d, .long v_account, .ref a_h_was, .ref a_h_accounts, .int m_states, .int v_refused, .ref a_h_text, .int v_typed, .int v_at, .int v_sign, .int v_number, .ref a_h_aside, .ref a_h_places, .ref a_h_told])), (a_h_d, .inl (cI, 2086, .inl m_d_A)), (a_h_was, .inl (cI, 10430, .inl m_was_A)), (a_h_accounts, .inl (cJ, 5, .inr (.inl m_accounts_A)))] H → va_D A [(a_h, .inr (8, [.ref a_h_d, .long v_account, .ref a_h_was, .ref a_h_accounts, .int m_states, .int v_refused, .ref a_h_text, .int v_typed, .int v_at, .int v_sign, .int v_number, .ref a_h_aside, .ref a_h_places, .ref a_h_told])), (a_h_d, .inl (cI, 2086, .inl m_d_A)), (a_h_was, .inl (cI, 10430, .inl m_was_A)), (a_h_accounts, .inl (cJ, 5, .inr (.inl m_accounts_A)))] → va_S A s.heap H locs → lv_has ls 8 [(0, .ref a_h), (1, .int p0), (2, .int p1), (3, .int x3), (4, .int x4), (5, .int x5), (6, .int x6), (7, .int x7)] → W p l e ({ frames := 1, cells := 0, slots := 0, locals := 22 } : Room) s m ([.ref a_h, .int p0, .int p1] : List Value).toArray below meth c H locs 0 0 (MQ below (QI D (ty4 cI cC cJ cB) A [(a_h, .inr (8, [.ref a_h_d, .long v_account, .ref a_h_was, .ref a_h_accounts, .int u.2.1, .int v_refused, .ref a_h_text, .int v_typed, .int v_at, .int v_sign, .int v_number, .ref a_h_aside, .ref a_h_places, .ref a_h_told])), (a_h_d, .inl (cI, 2086, .inl u.2.2.1)), (a_h_was, .inl (cI, 10430, .inl u.2.2.2.1)), (a_h_accounts, .inl (cJ, 5, .inr (.inl u.2.2.2.2)))] u.1) ([.ref a_h, .int p0, .int p1] : List Value).toArray s 0 0 A) (F0 m 166 ls []) := by
    intro k
    induction k with
    | zero =>
      intro x3 x4 x5 x6 x7 m_states m_d_A m_was_A m_accounts_A H locs ls h
      exact nomatch (show (none : Option (Int32 × Int32 × (Nat → Int32) × (Nat → Int32) × (Nat → Int64))) = some u from h)
    | succ k ih =>
      intro x3 x4 x5 x6 x7 m_states m_d_A m_was_A m_accounts_A H locs ls h hP hD hS hl
      rw [f_X8_setPoint_b166.eq_2] at h
      refine lv_iload hx hb dX8_setPoint_166 (lv_at hl 7 rfl) ?_
      refine lv_iload_n hx hb dX8_setPoint_168 rfl (lv_at hl 3 rfl) ?_
      refine lv_icmp_le (tgt := 222) hx hb dX8_setPoint_169 (by decide) (fun hc22 => ?_) (fun hc22 => ?_)
      · replace h := it_e hc22 h
        refine lv_aload_n hx hb dX8_setPoint_222 rfl (lv_at hl 0 rfl) ?_
        refine va_get (D := D) (ci := 8) (v := .ref a_h_d) (C := RX8) (T := TX8) (N := 14) hx hb hts in_X8_setPoint_X8 hown hK hP 0 rfl rfl 0 (by decide) (hts _ q_X8_setPoint_2) (fun _ h9 => h9) rfl dX8_setPoint_223 ?_
        refine lv_bipush (v := (9 : Int32)) hx hb dX8_setPoint_226 (by decide) ?_
        refine lv_dup2_11 hx hb dX8_setPoint_228 rfl rfl ?_
        refine wx_iald hx hb hK hP 1 0 rfl rfl 9 (by decide) (by unfold vp_in; decide) dX8_setPoint_229 ?_
        refine lv_iconst (v := (1 : Int32)) hx hb dX8_setPoint_230 (by decide) ?_
        refine lv_iadd hx hb dX8_setPoint_231 ?_
        refine lv_topi (fun t23 et23 => ?_)
        replace h := nm_at h et23
        refine wx_iast hx hb hK hP hD hS 1 0 rfl rfl 9 (by decide) (by unfold vp_in; decide) dX8_setPoint_232 rfl (fun H locs hP hD hS => ?_)
        obtain ⟨g24, eg24, h⟩ := nm_x h
        have hP : va_P D vwCl [(a_h, .inr (8, [.ref a_h_d, .long v_account, .ref a_h_was, .ref a_h_accounts, .int m_states, .int v_refused, .ref a_h_text, .int v_typed, .int v_at, .int v_sign, .int v_number, .ref a_h_aside, .ref a_h_places, .ref a_h_told])), (a_h_d, .inl (cI, 2086, .inl g24)), (a_h_was, .inl (cI, 10430, .inl m_was_A)), (a_h_accounts, .inl (cJ, 5, .inr (.inl m_accounts_A)))] H := by rw [eg24]; exact hP
        have hD : va_D A [(a_h, .inr (8, [.ref a_h_d, .long v_account, .ref a_h_was, .ref a_h_accounts, .int m_states, .int v_refused, .ref a_h_text, .int v_typed, .int v_at, .int v_sign, .int v_number, .ref a_h_aside, .ref a_h_places, .ref a_h_told])), (a_h_d, .inl (cI, 2086, .inl g24)), (a_h_was, .inl (cI, 10430, .inl m_was_A)), (a_h_accounts, .inl (cJ, 5, .inr (.inl m_accounts_A)))] := by rw [eg24]; exact hD
        refine lv_aload_n hx hb dX8_setPoint_233 rfl (lv_at hl 0 rfl) ?_
        refine va_get (D := D) (ci := 8) (v := .ref a_h_d) (C := RX8) (T := TX8) (N := 14) hx hb hts in_X8_setPoint_X8 hown hK hP 0 rfl rfl 0 (by decide) (hts _ q_X8_setPoint_2) (fun _ h9 => h9) rfl dX8_setPoint_234 ?_
        refine lv_bipush (v := (10 : Int32)) hx hb dX8_setPoint_237 (by decide) ?_
        refine lv_iload_n hx hb dX8_setPoint_239 rfl (lv_at hl 3 rfl) ?_
        refine lv_iadd hx hb dX8_setPoint_240 ?_
        refine lv_iload_n hx hb dX8_setPoint_241 rfl (lv_at hl 1 rfl) ?_
        obtain ⟨hi25, h⟩ := gA_e h
        refine wx_iast hx hb hK hP hD hS 1 0 rfl rfl (Int32.toNatClampNeg ((10 : Int32) + x3)) rfl hi25 dX8_setPoint_242 rfl (fun H locs hP hD hS => ?_)
        obtain ⟨g26, eg26, h⟩ := nm_x h
        have hP : va_P D vwCl [(a_h, .inr (8, [.ref a_h_d, .long v_account, .ref a_h_was, .ref a_h_accounts, .int m_states, .int v_refused, .ref a_h_text, .int v_typed, .int v_at, .int v_sign, .int v_number, .ref a_h_aside, .ref a_h_places, .ref a_h_told])), (a_h_d, .inl (cI, 2086, .inl g26)), (a_h_was, .inl (cI, 10430, .inl m_was_A)), (a_h_accounts, .inl (cJ, 5, .inr (.inl m_accounts_A)))] H := by rw [eg26]; exact hP
        have hD : va_D A [(a_h, .inr (8, [.ref a_h_d, .long v_account, .ref a_h_was, .ref a_h_accounts, .int m_states, .int v_refused, .ref a_h_text, .int v_typed, .int v_at, .int v_sign, .int v_number, .ref a_h_aside, .ref a_h_places, .ref a_h_told])), (a_h_d, .inl (cI, 2086, .inl g26)), (a_h_was, .inl (cI, 10430, .inl m_was_A)), (a_h_accounts, .inl (cJ, 5, .inr (.inl m_accounts_A)))] := by rw [eg26]; exact hD
        refine lv_aload_n hx hb dX8_setPoint_243 rfl (lv_at hl 0 rfl) ?_
        refine va_get (D := D) (ci := 8) (v := .ref a_h_d) (C := RX8) (T := TX8) (N := 14) hx hb hts in_X8_setPoint_X8 hown hK hP 0 rfl rfl 0 (by decide) (hts _ q_X8_setPoint_2) (fun _ h9 => h9) rfl dX8_setPoint_244 ?_
        refine lv_bipush (v := (18 : Int32)) hx hb dX8_setPoint_247 (by decide) ?_
        refine lv_iload_n hx hb dX8_setPoint_249 rfl (lv_at hl 3 rfl) ?_
        refine lv_iadd hx hb dX8_setPoint_250 ?_
        refine lv_iload_n hx hb dX8_setPoint_251 rfl (lv_at hl 2 rfl) ?_
        obtain ⟨hi27, h⟩ := gA_e h
        refine wx_iast hx hb hK hP hD hS 1 0 rfl rfl (Int32.toNatClampNeg ((18 : Int32) + x3)) rfl hi27 dX8_setPoint_252 rfl (fun H locs hP hD hS => ?_)
        obtain ⟨g28, eg28, h⟩ := nm_x h
        have hP : va_P D vwCl [(a_h, .inr (8, [.ref a_h_d, .long v_account, .ref a_h_was, .ref a_h_accounts, .int m_states, .int v_refused, .ref a_h_text, .int v_typed, .int v_at, .int v_sign, .int v_number, .ref a_h_aside, .ref a_h_places, .ref a_h_told])), (a_h_d, .inl (cI, 2086, .inl g28)), (a_h_was, .inl (cI, 10430, .inl m_was_A)), (a_h_accounts, .inl (cJ, 5, .inr (.inl m_accounts_A)))] H := by rw [eg28]; exact hP
        have hD : va_D A [(a_h, .inr (8, [.ref a_h_d, .long v_account, .ref a_h_was, .ref a_h_accounts, .int m_states, .int v_refused, .ref a_h_text, .int v_typed, .int v_at, .int v_sign, .int v_number, .ref a_h_aside, .ref a_h_places, .ref a_h_told])), (a_h_d, .inl (cI, 2086, .inl g28)), (a_h_was, .inl (cI, 10430, .inl m_was_A)), (a_h_accounts, .inl (cJ, 5, .inr (.inl m_accounts_A)))] := by rw [eg28]; exact hD
        refine lv_aload_n hx hb dX8_setPoint_253 rfl (lv_at hl 0 rfl) ?_
        refine va_get (D := D) (ci := 8) (v := .ref a_h_d) (C := RX8) (T := TX8) (N := 14) hx hb hts in_X8_setPoint_X8 hown hK hP 0 rfl rfl 0 (by decide) (hts _ q_X8_setPoint_2) (fun _ h9 => h9) rfl dX8_setPoint_254 ?_
        refine lv_bipush (v := (9 : Int32)) hx hb dX8_setPoint_257 (by decide) ?_
        refine wx_iald hx hb hK hP 1 0 rfl rfl 9 (by decide) (by unfold vp_in; decide) dX8_setPoint_259 ?_
        obtain rfl := sm_e h
        exact rx_i hx hb hr  hP hK hD hS dX8_setPoint_260 hlocks
      · replace h := if_e hc22 h
        refine lv_aload_n hx hb dX8_setPoint_172 rfl (lv_at hl 0 rfl) ?_
        refine va_get (D := D) (ci := 8) (v := .ref a_h_d) (C := RX8) (T := TX8) (N := 14) hx hb hts in_X8_setPoint_X8 hown hK hP 0 rfl rfl 0 (by decide) (hts _ q_X8_setPoint_2) (fun _ h9 => h9) rfl dX8_setPoint_173 ?_
        refine lv_bipush (v := (10 : Int32)) hx hb dX8_setPoint_176 (by decide) ?_
        refine lv_iload hx hb dX8_setPoint_178 (lv_at hl 7 rfl) ?_
        refine lv_iadd hx hb dX8_setPoint_180 ?_
        refine lv_aload_n hx hb dX8_setPoint_181 rfl (lv_at hl 0 rfl) ?_
        refine va_get (D := D) (ci := 8) (v := .ref a_h_d) (C := RX8) (T := TX8) (N := 14) hx hb hts in_X8_setPoint_X8 hown hK hP 0 rfl rfl 0 (by decide) (hts _ q_X8_setPoint_2) (fun _ h9 => h9) rfl dX8_setPoint_182 ?_
        refine lv_bipush (v := (10 : Int32)) hx hb dX8_setPoint_185 (by decide) ?_
        refine lv_iload hx hb dX8_setPoint_187 (lv_at hl 7 rfl) ?_
        refine lv_iadd hx hb dX8_setPoint_189 ?_
        refine lv_iconst (v := (1 : Int32)) hx hb dX8_setPoint_190 (by decide) ?_
        refine lv_isub hx hb dX8_setPoint_191 ?_
        obtain ⟨hi29, h⟩ := gA_e h
        refine wx_iald hx hb hK hP 1 0 rfl rfl (Int32.toNatClampNeg (((10 : Int32) + x7) - (1 : Int32))) rfl hi29 dX8_setPoint_192 ?_
        refine lv_topi (fun t30 et30 => ?_)
        replace h := nm_at h et30
        obtain ⟨hi31, h⟩ := gA_e h
        refine wx_iast hx hb hK hP hD hS 1 0 rfl rfl (Int32.toNatClampNeg ((10 : Int32) + x7)) rfl hi31 dX8_setPoint_193 rfl (fun H locs hP hD hS => ?_)
        obtain ⟨g32, eg32, h⟩ := nm_x h
        have hP : va_P D vwCl [(a_h, .inr (8, [.ref a_h_d, .long v_account, .ref a_h_was, .ref a_h_accounts, .int m_states, .int v_refused, .ref a_h_text, .int v_typed, .int v_at, .int v_sign, .int v_number, .ref a_h_aside, .ref a_h_places, .ref a_h_told])), (a_h_d, .inl (cI, 2086, .inl g32)), (a_h_was, .inl (cI, 10430, .inl m_was_A)), (a_h_accounts, .inl (cJ, 5, .inr (.inl m_accounts_A)))] H := by rw [eg32]; exact hP
        have hD : va_D A [(a_h, .inr (8, [.ref a_h_d, .long v_account, .ref a_h_was, .ref a_h_accounts, .int m_states, .int v_refused, .ref a_h_text, .int v_typed, .int v_at, .int v_sign, .int v_number, .ref a_h_aside, .ref a_h_places, .ref a_h_told])), (a_h_d, .inl (cI, 2086, .inl g32)), (a_h_was, .inl (cI, 10430, .inl m_was_A)), (a_h_accounts, .inl (cJ, 5, .inr (.inl m_accounts_A)))] := by rw [eg32]; exact hD
        refine lv_aload_n hx hb dX8_setPoint_194 rfl (lv_at hl 0 rfl) ?_
        refine va_get (D := D) (ci := 8) (v := .ref a_h_d) (C := RX8) (T := TX8) (N := 14) hx hb hts in_X8_setPoint_X8 hown hK hP 0 rfl rfl 0 (by decide) (hts _ q_X8_setPoint_2) (fun _ h9 => h9) rfl dX8_setPoint_195 ?_
        refine lv_bipush (v := (18 : Int32)) hx hb dX8_setPoint_198 (by decide) ?_
        refine lv_iload hx hb dX8_setPoint_200 (lv_at hl 7 rfl) ?_
        refine lv_iadd hx hb dX8_setPoint_202 ?_
        refine lv_aload_n hx hb dX8_setPoint_203 rfl (lv_at hl 0 rfl) ?_
        refine va_get (D := D) (ci := 8) (v := .ref a_h_d) (C := RX8) (T := TX8) (N := 14) hx hb hts in_X8_setPoint_X8 hown hK hP 0 rfl rfl 0 (by decide) (hts _ q_X8_setPoint_2) (fun _ h9 => h9) rfl dX8_setPoint_204 ?_
        refine lv_bipush (v := (18 : Int32)) hx hb dX8_setPoint_207 (by decide) ?_
        refine lv_iload hx hb dX8_setPoint_209 (lv_at hl 7 rfl) ?_
        refine lv_iadd hx hb dX8_setPoint_211 ?_
        refine lv_iconst (v := (1 : Int32)) hx hb dX8_setPoint_212 (by decide) ?_
        refine lv_isub hx hb dX8_setPoint_213 ?_
        obtain ⟨hi33, h⟩ := gA_e h
        refine wx_iald hx hb hK hP 1 0 rfl rfl (Int32.toNatClampNeg (((18 : Int32) + x7) - (1 : Int32))) rfl hi33 dX8_setPoint_214 ?_
        refine lv_topi (fun t34 et34 => ?_)
        replace h := nm_at h et34
        obtain ⟨hi35, h⟩ := gA_e h
        refine wx_iast hx hb hK hP hD hS 1 0 rfl rfl (Int32.toNatClampNeg ((18 : Int32) + x7)) rfl hi35 dX8_setPoint_215 rfl (fun H locs hP hD hS => ?_)
        obtain ⟨g36, eg36, h⟩ := nm_x h
        have hP : va_P D vwCl [(a_h, .inr (8, [.ref a_h_d, .long v_account, .ref a_h_was, .ref a_h_accounts, .int m_states, .int v_refused, .ref a_h_text, .int v_typed, .int v_at, .int v_sign, .int v_number, .ref a_h_aside, .ref a_h_places, .ref a_h_told])), (a_h_d, .inl (cI, 2086, .inl g36)), (a_h_was, .inl (cI, 10430, .inl m_was_A)), (a_h_accounts, .inl (cJ, 5, .inr (.inl m_accounts_A)))] H := by rw [eg36]; exact hP
        have hD : va_D A [(a_h, .inr (8, [.ref a_h_d, .long v_account, .ref a_h_was, .ref a_h_accounts, .int m_states, .int v_refused, .ref a_h_text, .int v_typed, .int v_at, .int v_sign, .int v_number, .ref a_h_aside, .ref a_h_places, .ref a_h_told])), (a_h_d, .inl (cI, 2086, .inl g36)), (a_h_was, .inl (cI, 10430, .inl m_was_A)), (a_h_accounts, .inl (cJ, 5, .inr (.inl m_accounts_A)))] := by rw [eg36]; exact hD
        obtain ⟨t37, et37, h⟩ := nm_x h
        refine lv_iinc (v := t37) (lv' := [(7, .int t37), (0, .ref a_h), (1, .int p0), (2, .int p1), (3, .int x3), (4, .int x4), (5, .int x5), (6, .int x6)]) hx hb dX8_setPoint_216 hl (k := 7) rfl (by rw [et37]; rfl) (by decide) rfl (fun ls hl => ?_)
        refine lv_goto (tgt := 166) hx hb dX8_setPoint_219 (by decide) ?_
        exact ih x3 x4 x5 x6 t37 m_states g36 m_was_A m_accounts_A _ _ _ h hP hD hS (lv_sub hl [1, 2, 3, 4, 5, 6, 7, 0] rfl)
  have B148 : ∀ (x3 : Int32) (x4 : Int32) (x5 : Int32) (x6 : Int32) (m_states : Int32) (m_d_A : Nat → Int32) (m_was_A : Nat → Int32) (m_accounts_A : Nat → Int64) (H : Heap) (locs : List Loc) (ls : Array Slot), f_X8_setPoint_b148 N v_account p0 p1 x3 x4 m_states m_d_A m_was_A m_accounts_A  = some u → va_P D vwCl [(a_h, .inr (8, [.ref a_h_d, .long v_account, .ref a_h_was, .ref a_h_accounts, .int m_states, .int v_refused, .ref a_h_text, .int v_typed, .int v_at, .int v_sign, .int v_number, .ref a_h_aside, .ref a_h_places, .ref a_h_told])), (a_h_d, .inl (cI, 2086, .inl m_d_A)), (a_h_was, .inl (cI, 10430, .inl m_was_A)), (a_h_accounts, .inl (cJ, 5, .inr (.inl m_accounts_A)))] H → va_D A [(a_h, .inr (8, [.ref a_h_d, .long v_account, .ref a_h_was, .ref a_h_accounts, .int m_states, .int v_refused, .ref a_h_text, .int v_typed, .int v_at, .int v_sign, .int v_number, .ref a_h_aside, .ref a_h_places, .ref a_h_told])), (a_h_d, .inl (cI, 2086, .inl m_d_A)), (a_h_was, .inl (cI, 10430, .inl m_was_A)), (a_h_accounts, .inl (cJ, 5, .inr (.inl m_accounts_A)))] → va_S A s.heap H locs → lv_has ls 8 [(0, .ref a_h), (1, .int p0), (2, .int p1), (3, .int x3), (4, .int x4), (5, .int x5), (6, .int x6)] → W p l e ({ frames := 1, cells := 0, slots := 0, locals := 22 } : Room) s m ([.ref a_h, .int p0, .int p1] : List Value).toArray below meth c H locs 0 0 (MQ below (QI D (ty4 cI cC cJ cB) A [(a_h, .inr (8, [.ref a_h_d, .long v_account, .ref a_h_was, .ref a_h_accounts, .int u.2.1, .int v_refused, .ref a_h_text, .int v_typed, .int v_at, .int v_sign, .int v_number, .ref a_h_aside, .ref a_h_places, .ref a_h_told])), (a_h_d, .inl (cI, 2086, .inl u.2.2.1)), (a_h_was, .inl (cI, 10430, .inl u.2.2.2.1)), (a_h_accounts, .inl (cJ, 5, .inr (.inl u.2.2.2.2)))] u.1) ([.ref a_h, .int p0, .int p1] : List Value).toArray s 0 0 A) (F0 m 148 ls []) := by
    intro x3 x4 x5 x6 m_states m_d_A m_was_A m_accounts_A H locs ls h hP hD hS hl
    unfold f_X8_setPoint_b148 at h
    refine lv_aload_n hx hb dX8_setPoint_148 rfl (lv_at hl 0 rfl) ?_
    obtain ⟨u15, hu15, h⟩ := bd_e h
    refine kx_v (mc := 0) (ms := 0) (wr := []) (ws2 := [(a_h, .inr (8, [.ref a_h_d, .long v_account, .ref a_h_was, .ref a_h_accounts, .int u15.1, .int v_refused, .ref a_h_text, .int v_typed, .int v_at, .int v_sign, .int v_number, .ref a_h_aside, .ref a_h_places, .ref a_h_told])), (a_h_d, .inl (cI, 2086, .inl m_d_A)), (a_h_was, .inl (cI, 10430, .inl u15.2.1)), (a_h_accounts, .inl (cJ, 5, .inr (.inl u15.2.2)))]) (va_runV (As := []) (rest := []) ⟨hx, hb, hml, hown, hts⟩ (k_X8_records l D cI cC cJ cB a_h a_h_d a_h_was a_h_accounts a_h_text a_h_aside a_h_places a_h_told v_account m_states v_refused v_typed v_at v_sign v_number m_d_A m_was_A m_accounts_A N H.size _ hu15) (cwV 0 hts gX8_setPoint_X8_records rfl rfl rfl (by decide +kernel) ⟨Nat.le_of_ble_eq_true rfl, Nat.le_of_ble_eq_true rfl⟩) (pv_V hP hD hK hN [0, 1, 2, 3] rfl rfl (ci := 8) rfl 0 rfl) rfl rfl hl.1 rfl (lv_room (Nat.le_of_ble_eq_true rfl)) dX8_setPoint_149 ⟨Nat.zero_le _, Nat.zero_le _⟩) hP hD hS hA [0, 1, 2, 3] [] [0, 1, 2, 3] rfl rfl rfl rfl rfl rfl (fun H locs hP hD hS => ?_)
    refine lv_iload hx hb dX8_setPoint_152 (lv_at hl 4 rfl) ?_
    refine lv_if_ne (tgt := 233) hx hb dX8_setPoint_154 (by decide) (fun hc16 => ?_) (fun hc16 => ?_)
    · replace h := it_e hc16 h
      refine lv_aload_n hx hb dX8_setPoint_233 rfl (lv_at hl 0 rfl) ?_
      refine va_get (D := D) (ci := 8) (v := .ref a_h_d) (C := RX8) (T := TX8) (N := 14) hx hb hts in_X8_setPoint_X8 hown hK hP 0 rfl rfl 0 (by decide) (hts _ q_X8_setPoint_2) (fun _ h9 => h9) rfl dX8_setPoint_234 ?_
      refine lv_bipush (v := (10 : Int32)) hx hb dX8_setPoint_237 (by decide) ?_
      refine lv_iload_n hx hb dX8_setPoint_239 rfl (lv_at hl 3 rfl) ?_
      refine lv_iadd hx hb dX8_setPoint_240 ?_
      refine lv_iload_n hx hb dX8_setPoint_241 rfl (lv_at hl 1 rfl) ?_
      obtain ⟨hi17, h⟩ := gA_e h
      refine wx_iast hx hb hK hP hD hS 1 0 rfl rfl (Int32.toNatClampNeg ((10 : Int32) + x3)) rfl hi17 dX8_setPoint_242 rfl (fun H locs hP hD hS => ?_)
      obtain ⟨g18, eg18, h⟩ := nm_x h
      have hP : va_P D vwCl [(a_h, .inr (8, [.ref a_h_d, .long v_account, .ref a_h_was, .ref a_h_accounts, .int u15.1, .int v_refused, .ref a_h_text, .int v_typed, .int v_at, .int v_sign, .int v_number, .ref a_h_aside, .ref a_h_places, .ref a_h_told])), (a_h_d, .inl (cI, 2086, .inl g18)), (a_h_was, .inl (cI, 10430, .inl u15.2.1)), (a_h_accounts, .inl (cJ, 5, .inr (.inl u15.2.2)))] H := by rw [eg18]; exact hP
      have hD : va_D A [(a_h, .inr (8, [.ref a_h_d, .long v_account, .ref a_h_was, .ref a_h_accounts, .int u15.1, .int v_refused, .ref a_h_text, .int v_typed, .int v_at, .int v_sign, .int v_number, .ref a_h_aside, .ref a_h_places, .ref a_h_told])), (a_h_d, .inl (cI, 2086, .inl g18)), (a_h_was, .inl (cI, 10430, .inl u15.2.1)), (a_h_accounts, .inl (cJ, 5, .inr (.inl u15.2.2)))] := by rw [eg18]; exact hD
      refine lv_aload_n hx hb dX8_setPoint_243 rfl (lv_at hl 0 rfl) ?_
      refine va_get (D := D) (ci := 8) (v := .ref a_h_d) (C := RX8) (T := TX8) (N := 14) hx hb hts in_X8_setPoint_X8 hown hK hP 0 rfl rfl 0 (by decide) (hts _ q_X8_setPoint_2) (fun _ h9 => h9) rfl dX8_setPoint_244 ?_
      refine lv_bipush (v := (18 : Int32)) hx hb dX8_setPoint_247 (by decide) ?_
      refine lv_iload_n hx hb dX8_setPoint_249 rfl (lv_at hl 3 rfl) ?_
      refine lv_iadd hx hb dX8_setPoint_250 ?_
      refine lv_iload_n hx hb dX8_setPoint_251 rfl (lv_at hl 2 rfl) ?_
      obtain ⟨hi19, h⟩ := gA_e h
      refine wx_iast hx hb hK hP hD hS 1 0 rfl rfl (Int32.toNatClampNeg ((18 : Int32) + x3)) rfl hi19 dX8_setPoint_252 rfl (fun H locs hP hD hS => ?_)
      obtain ⟨g20, eg20, h⟩ := nm_x h
      have hP : va_P D vwCl [(a_h, .inr (8, [.ref a_h_d, .long v_account, .ref a_h_was, .ref a_h_accounts, .int u15.1, .int v_refused, .ref a_h_text, .int v_typed, .int v_at, .int v_sign, .int v_number, .ref a_h_aside, .ref a_h_places, .ref a_h_told])), (a_h_d, .inl (cI, 2086, .inl g20)), (a_h_was, .inl (cI, 10430, .inl u15.2.1)), (a_h_accounts, .inl (cJ, 5, .inr (.inl u15.2.2)))] H := by rw [eg20]; exact hP
      have hD : va_D A [(a_h, .inr (8, [.ref a_h_d, .long v_account, .ref a_h_was, .ref a_h_accounts, .int u15.1, .int v_refused, .ref a_h_text, .int v_typed, .int v_at, .int v_sign, .int v_number, .ref a_h_aside, .ref a_h_places, .ref a_h_told])), (a_h_d, .inl (cI, 2086, .inl g20)), (a_h_was, .inl (cI, 10430, .inl u15.2.1)), (a_h_accounts, .inl (cJ, 5, .inr (.inl u15.2.2)))] := by rw [eg20]; exact hD
      refine lv_aload_n hx hb dX8_setPoint_253 rfl (lv_at hl 0 rfl) ?_
      refine va_get (D := D) (ci := 8) (v := .ref a_h_d) (C := RX8) (T := TX8) (N := 14) hx hb hts in_X8_setPoint_X8 hown hK hP 0 rfl rfl 0 (by decide) (hts _ q_X8_setPoint_2) (fun _ h9 => h9) rfl dX8_setPoint_254 ?_
      refine lv_bipush (v := (9 : Int32)) hx hb dX8_setPoint_257 (by decide) ?_
      refine wx_iald hx hb hK hP 1 0 rfl rfl 9 (by decide) (by unfold vp_in; decide) dX8_setPoint_259 ?_
      obtain rfl := sm_e h
      exact rx_i hx hb hr  hP hK hD hS dX8_setPoint_260 hlocks
    · replace h := in_e hc16 h
      refine lv_aload_n hx hb dX8_setPoint_157 rfl (lv_at hl 0 rfl) ?_
      refine va_get (D := D) (ci := 8) (v := .ref a_h_d) (C := RX8) (T := TX8) (N := 14) hx hb hts in_X8_setPoint_X8 hown hK hP 0 rfl rfl 0 (by decide) (hts _ q_X8_setPoint_2) (fun _ h9 => h9) rfl dX8_setPoint_158 ?_
      refine lv_bipush (v := (9 : Int32)) hx hb dX8_setPoint_161 (by decide) ?_
      refine wx_iald hx hb hK hP 1 0 rfl rfl 9 (by decide) (by unfold vp_in; decide) dX8_setPoint_163 ?_
      refine lv_topi (fun t21 et21 => ?_)
      replace h := nm_at h et21
      refine lv_istore (lv' := [(7, .int t21), (0, .ref a_h), (1, .int p0), (2, .int p1), (3, .int x3), (4, .int x4), (5, .int x5), (6, .int x6)]) hx hb dX8_setPoint_164 hl (by decide) rfl (fun ls hl => ?_)
      exact B166 N x3 x4 x5 x6 t21 u15.1 m_d_A u15.2.1 u15.2.2 _ _ _ h hP hD hS (lv_sub hl [1, 2, 3, 4, 5, 6, 7, 0] rfl)
  have B111 : ∀ (x3 : Int32) (x4 : Int32) (x5 : Int32) (s0 : Int32) (m_states : Int32) (m_d_A : Nat → Int32) (m_was_A : Nat → Int32) (m_accounts_A : Nat → Int64) (H : Heap) (locs : List Loc) (ls : Array Slot), f_X8_setPoint_b111 N v_account p0 p1 x3 x4 s0 m_states m_d_A m_was_A m_accounts_A  = some u → va_P D vwCl [(a_h, .inr (8, [.ref a_h_d, .long v_account, .ref a_h_was, .ref a_h_accounts, .int m_states, .int v_refused, .ref a_h_text, .int v_typed, .int v_at, .int v_sign, .int v_number, .ref a_h_aside, .ref a_h_places, .ref a_h_told])), (a_h_d, .inl (cI, 2086, .inl m_d_A)), (a_h_was, .inl (cI, 10430, .inl m_was_A)), (a_h_accounts, .inl (cJ, 5, .inr (.inl m_accounts_A)))] H → va_D A [(a_h, .inr (8, [.ref a_h_d, .long v_account, .ref a_h_was, .ref a_h_accounts, .int m_states, .int v_refused, .ref a_h_text, .int v_typed, .int v_at, .int v_sign, .int v_number, .ref a_h_aside, .ref a_h_places, .ref a_h_told])), (a_h_d, .inl (cI, 2086, .inl m_d_A)), (a_h_was, .inl (cI, 10430, .inl m_was_A)), (a_h_accounts, .inl (cJ, 5, .inr (.inl m_accounts_A)))] → va_S A s.heap H locs → lv_has ls 8 [(0, .ref a_h), (1, .int p0), (2, .int p1), (3, .int x3), (4, .int x4), (5, .int x5)] → W p l e ({ frames := 1, cells := 0, slots := 0, locals := 22 } : Room) s m ([.ref a_h, .int p0, .int p1] : List Value).toArray below meth c H locs 0 0 (MQ below (QI D (ty4 cI cC cJ cB) A [(a_h, .inr (8, [.ref a_h_d, .long v_account, .ref a_h_was, .ref a_h_accounts, .int u.2.1, .int v_refused, .ref a_h_text, .int v_typed, .int v_at, .int v_sign, .int v_number, .ref a_h_aside, .ref a_h_places, .ref a_h_told])), (a_h_d, .inl (cI, 2086, .inl u.2.2.1)), (a_h_was, .inl (cI, 10430, .inl u.2.2.2.1)), (a_h_accounts, .inl (cJ, 5, .inr (.inl u.2.2.2.2)))] u.1) ([.ref a_h, .int p0, .int p1] : List Value).toArray s 0 0 A) (F0 m 111 ls [.int s0]) := by
    intro x3 x4 x5 s0 m_states m_d_A m_was_A m_accounts_A H locs ls h hP hD hS hl
    unfold f_X8_setPoint_b111 at h
    refine lv_istore (lv' := [(6, .int s0), (0, .ref a_h), (1, .int p0), (2, .int p1), (3, .int x3), (4, .int x4), (5, .int x5)]) hx hb dX8_setPoint_111 hl (by decide) rfl (fun ls hl => ?_)
    refine lv_aload_n hx hb dX8_setPoint_113 rfl (lv_at hl 1 rfl) ?_
    obtain ⟨u11, hu11, h⟩ := bd_e h
    refine kx_i (mc := 0) (ms := 0) (wr := [(a_h_was, .inl (cI, 10430, .inl m_was_A)), (a_h_accounts, .inl (cJ, 5, .inr (.inl m_accounts_A)))]) (ws2 := [(a_h, .inr (8, [.ref a_h_d, .long v_account, .ref a_h_was, .ref a_h_accounts, .int m_states, .int v_refused, .ref a_h_text, .int v_typed, .int v_at, .int v_sign, .int v_number, .ref a_h_aside, .ref a_h_places, .ref a_h_told])), (a_h_d, .inl (cI, 2086, .inl m_d_A)), (a_h_was, .inl (cI, 10430, .inl m_was_A)), (a_h_accounts, .inl (cJ, 5, .inr (.inl m_accounts_A)))]) (va_runV (As := []) (rest := []) ⟨hx, hb, hml, hown, hts⟩ (k_X8_isFree l D cI cC cJ cB a_h a_h_d a_h_was a_h_accounts a_h_text a_h_aside a_h_places a_h_told v_account m_states v_refused v_typed v_at v_sign v_number m_d_A N H.size _ hu11) (cwV 0 hts gX8_setPoint_X8_isFree rfl rfl rfl (by decide +kernel) ⟨Nat.le_of_ble_eq_true rfl, Nat.le_of_ble_eq_true rfl⟩) (pv_V hP hD hK hN [0, 1] rfl rfl (ci := 8) rfl 0 rfl) rfl rfl hl.1 rfl (lv_room (Nat.le_of_ble_eq_true rfl)) dX8_setPoint_114 ⟨Nat.zero_le _, Nat.zero_le _⟩) hP hD hS hA [0, 1] [2, 3] [2, 3, 0, 1] rfl rfl rfl rfl rfl rfl (fun H locs hP hD hS => ?_)
    refine lv_if_eq (tgt := 125) hx hb dX8_setPoint_117 (by decide) (fun hc12 => ?_) (fun hc12 => ?_)
    · replace h := it_e hc12 h
      refine lv_ldc (v := (-2000000002 : Int32)) hx hb hown (hts _ q_X8_setPoint_3) dX8_setPoint_125 ?_
      obtain rfl := sm_e h
      exact rx_i hx hb hr  hP hK hD hS dX8_setPoint_127 hlocks
    · replace h := if_e hc12 h
      refine lv_iload hx hb dX8_setPoint_120 (lv_at hl 0 rfl) ?_
      refine lv_if_ne (tgt := 128) hx hb dX8_setPoint_122 (by decide) (fun hc13 => ?_) (fun hc13 => ?_)
      · replace h := it_e hc13 h
        refine lv_iload hx hb dX8_setPoint_128 (lv_at hl 5 rfl) ?_
        refine lv_if_ne (tgt := 148) hx hb dX8_setPoint_130 (by decide) (fun hc14 => ?_) (fun hc14 => ?_)
        · replace h := it_e hc14 h
          exact B148 x3 x4 x5 s0 m_states m_d_A m_was_A m_accounts_A _ _ _ h hP hD hS (lv_sub hl [1, 2, 3, 4, 5, 6, 0] rfl)
        · replace h := in_e hc14 h
          refine lv_aload_n hx hb dX8_setPoint_133 rfl (lv_at hl 1 rfl) ?_
          refine va_get (D := D) (ci := 8) (v := .ref a_h_d) (C := RX8) (T := TX8) (N := 14) hx hb hts in_X8_setPoint_X8 hown hK hP 0 rfl rfl 0 (by decide) (hts _ q_X8_setPoint_2) (fun _ h9 => h9) rfl dX8_setPoint_134 ?_
          refine lv_bipush (v := (9 : Int32)) hx hb dX8_setPoint_137 (by decide) ?_
          refine wx_iald hx hb hK hP 1 0 rfl rfl 9 (by decide) (by unfold vp_in; decide) dX8_setPoint_139 ?_
          refine lv_bipush (v := (8 : Int32)) hx hb dX8_setPoint_140 (by decide) ?_
          refine lv_icmp_ne (tgt := 148) hx hb dX8_setPoint_142 (by decide) (fun hc38 => ?_) (fun hc38 => ?_)
          · replace h := it_e hc38 h
            exact B148 x3 x4 x5 s0 m_states m_d_A m_was_A m_accounts_A _ _ _ h hP hD hS (lv_sub hl [1, 2, 3, 4, 5, 6, 0] rfl)
          · replace h := in_e hc38 h
            refine lv_ldc (v := (-2000000003 : Int32)) hx hb hown (hts _ q_X8_setPoint_4) dX8_setPoint_145 ?_
            obtain rfl := sm_e h
            exact rx_i hx hb hr  hP hK hD hS dX8_setPoint_147 hlocks
      · replace h := in_e hc13 h
        refine lv_ldc (v := (-2000000002 : Int32)) hx hb hown (hts _ q_X8_setPoint_3) dX8_setPoint_125 ?_
        obtain rfl := sm_e h
        exact rx_i hx hb hr  hP hK hD hS dX8_setPoint_127 hlocks
  have B110 : ∀ (x3 : Int32) (x4 : Int32) (x5 : Int32) (m_states : Int32) (m_d_A : Nat → Int32) (m_was_A : Nat → Int32) (m_accounts_A : Nat → Int64) (H : Heap) (locs : List Loc) (ls : Array Slot), f_X8_setPoint_b110 N v_account p0 p1 x3 x4 m_states m_d_A m_was_A m_accounts_A  = some u → va_P D vwCl [(a_h, .inr (8, [.ref a_h_d, .long v_account, .ref a_h_was, .ref a_h_accounts, .int m_states, .int v_refused, .ref a_h_text, .int v_typed, .int v_at, .int v_sign, .int v_number, .ref a_h_aside, .ref a_h_places, .ref a_h_told])), (a_h_d, .inl (cI, 2086, .inl m_d_A)), (a_h_was, .inl (cI, 10430, .inl m_was_A)), (a_h_accounts, .inl (cJ, 5, .inr (.inl m_accounts_A)))] H → va_D A [(a_h, .inr (8, [.ref a_h_d, .long v_account, .ref a_h_was, .ref a_h_accounts, .int m_states, .int v_refused, .ref a_h_text, .int v_typed, .int v_at, .int v_sign, .int v_number, .ref a_h_aside, .ref a_h_places, .ref a_h_told])), (a_h_d, .inl (cI, 2086, .inl m_d_A)), (a_h_was, .inl (cI, 10430, .inl m_was_A)), (a_h_accounts, .inl (cJ, 5, .inr (.inl m_accounts_A)))] → va_S A s.heap H locs → lv_has ls 8 [(0, .ref a_h), (1, .int p0), (2, .int p1), (3, .int x3), (4, .int x4), (5, .int x5)] → W p l e ({ frames := 1, cells := 0, slots := 0, locals := 22 } : Room) s m ([.ref a_h, .int p0, .int p1] : List Value).toArray below meth c H locs 0 0 (MQ below (QI D (ty4 cI cC cJ cB) A [(a_h, .inr (8, [.ref a_h_d, .long v_account, .ref a_h_was, .ref a_h_accounts, .int u.2.1, .int v_refused, .ref a_h_text, .int v_typed, .int v_at, .int v_sign, .int v_number, .ref a_h_aside, .ref a_h_places, .ref a_h_told])), (a_h_d, .inl (cI, 2086, .inl u.2.2.1)), (a_h_was, .inl (cI, 10430, .inl u.2.2.2.1)), (a_h_accounts, .inl (cJ, 5, .inr (.inl u.2.2.2.2)))] u.1) ([.ref a_h, .int p0, .int p1] : List Value).toArray s 0 0 A) (F0 m 110 ls []) := by
    intro x3 x4 x5 m_states m_d_A m_was_A m_accounts_A H locs ls h hP hD hS hl
    unfold f_X8_setPoint_b110 at h
    refine lv_iconst (v := (0 : Int32)) hx hb dX8_setPoint_110 (by decide) ?_
    exact B111 x3 x4 x5 (0 : Int32) m_states m_d_A m_was_A m_accounts_A _ _ _ h hP hD hS hl
  have B106 : ∀ (x3 : Int32) (x4 : Int32) (x5 : Int32) (m_states : Int32) (m_d_A : Nat → Int32) (m_was_A : Nat → Int32) (m_accounts_A : Nat → Int64) (H : Heap) (locs : List Loc) (ls : Array Slot), f_X8_setPoint_b106 N v_account p0 p1 x3 x4 m_states m_d_A m_was_A m_accounts_A  = some u → va_P D vwCl [(a_h, .inr (8, [.ref a_h_d, .long v_account, .ref a_h_was, .ref a_h_accounts, .int m_states, .int v_refused, .ref a_h_text, .int v_typed, .int v_at, .int v_sign, .int v_number, .ref a_h_aside, .ref a_h_places, .ref a_h_told])), (a_h_d, .inl (cI, 2086, .inl m_d_A)), (a_h_was, .inl (cI, 10430, .inl m_was_A)), (a_h_accounts, .inl (cJ, 5, .inr (.inl m_accounts_A)))] H → va_D A [(a_h, .inr (8, [.ref a_h_d, .long v_account, .ref a_h_was, .ref a_h_accounts, .int m_states, .int v_refused, .ref a_h_text, .int v_typed, .int v_at, .int v_sign, .int v_number, .ref a_h_aside, .ref a_h_places, .ref a_h_told])), (a_h_d, .inl (cI, 2086, .inl m_d_A)), (a_h_was, .inl (cI, 10430, .inl m_was_A)), (a_h_accounts, .inl (cJ, 5, .inr (.inl m_accounts_A)))] → va_S A s.heap H locs → lv_has ls 8 [(0, .ref a_h), (1, .int p0), (2, .int p1), (3, .int x3), (4, .int x4), (5, .int x5)] → W p l e ({ frames := 1, cells := 0, slots := 0, locals := 22 } : Room) s m ([.ref a_h, .int p0, .int p1] : List Value).toArray below meth c H locs 0 0 (MQ below (QI D (ty4 cI cC cJ cB) A [(a_h, .inr (8, [.ref a_h_d, .long v_account, .ref a_h_was, .ref a_h_accounts, .int u.2.1, .int v_refused, .ref a_h_text, .int v_typed, .int v_at, .int v_sign, .int v_number, .ref a_h_aside, .ref a_h_places, .ref a_h_told])), (a_h_d, .inl (cI, 2086, .inl u.2.2.1)), (a_h_was, .inl (cI, 10430, .inl u.2.2.2.1)), (a_h_accounts, .inl (cJ, 5, .inr (.inl u.2.2.2.2)))] u.1) ([.ref a_h, .int p0, .int p1] : List Value).toArray s 0 0 A) (F0 m 106 ls []) := by
    intro x3 x4 x5 m_states m_d_A m_was_A m_accounts_A H locs ls h hP hD hS hl
    unfold f_X8_setPoint_b106 at h
    refine lv_iconst (v := (1 : Int32)) hx hb dX8_setPoint_106 (by decide) ?_
    refine lv_goto (tgt := 111) hx hb dX8_setPoint_107 (by decide) ?_
    exact B111 x3 x4 x5 (1 : Int32) m_states m_d_A m_was_A m_accounts_A _ _ _ h hP hD hS hl
  have B63 : ∀ (x3 : Int32) (x4 : Int32) (s0 : Int32) (m_states : Int32) (m_d_A : Nat → Int32) (m_was_A : Nat → Int32) (m_accounts_A : Nat → Int64) (H : Heap) (locs : List Loc) (ls : Array Slot), f_X8_setPoint_b63 N v_account p0 p1 x3 x4 s0 m_states m_d_A m_was_A m_accounts_A  = some u → va_P D vwCl [(a_h, .inr (8, [.ref a_h_d, .long v_account, .ref a_h_was, .ref a_h_accounts, .int m_states, .int v_refused, .ref a_h_text, .int v_typed, .int v_at, .int v_sign, .int v_number, .ref a_h_aside, .ref a_h_places, .ref a_h_told])), (a_h_d, .inl (cI, 2086, .inl m_d_A)), (a_h_was, .inl (cI, 10430, .inl m_was_A)), (a_h_accounts, .inl (cJ, 5, .inr (.inl m_accounts_A)))] H → va_D A [(a_h, .inr (8, [.ref a_h_d, .long v_account, .ref a_h_was, .ref a_h_accounts, .int m_states, .int v_refused, .ref a_h_text, .int v_typed, .int v_at, .int v_sign, .int v_number, .ref a_h_aside, .ref a_h_places, .ref a_h_told])), (a_h_d, .inl (cI, 2086, .inl m_d_A)), (a_h_was, .inl (cI, 10430, .inl m_was_A)), (a_h_accounts, .inl (cJ, 5, .inr (.inl m_accounts_A)))] → va_S A s.heap H locs → lv_has ls 8 [(0, .ref a_h), (1, .int p0), (2, .int p1), (3, .int x3), (4, .int x4)] → W p l e ({ frames := 1, cells := 0, slots := 0, locals := 22 } : Room) s m ([.ref a_h, .int p0, .int p1] : List Value).toArray below meth c H locs 0 0 (MQ below (QI D (ty4 cI cC cJ cB) A [(a_h, .inr (8, [.ref a_h_d, .long v_account, .ref a_h_was, .ref a_h_accounts, .int u.2.1, .int v_refused, .ref a_h_text, .int v_typed, .int v_at, .int v_sign, .int v_number, .ref a_h_aside, .ref a_h_places, .ref a_h_told])), (a_h_d, .inl (cI, 2086, .inl u.2.2.1)), (a_h_was, .inl (cI, 10430, .inl u.2.2.2.1)), (a_h_accounts, .inl (cJ, 5, .inr (.inl u.2.2.2.2)))] u.1) ([.ref a_h, .int p0, .int p1] : List Value).toArray s 0 0 A) (F0 m 63 ls [.int s0]) := by
    intro x3 x4 s0 m_states m_d_A m_was_A m_accounts_A H locs ls h hP hD hS hl
    unfold f_X8_setPoint_b63 at h
    refine lv_istore (lv' := [(5, .int s0), (0, .ref a_h), (1, .int p0), (2, .int p1), (3, .int x3), (4, .int x4)]) hx hb dX8_setPoint_63 hl (by decide) rfl (fun ls hl => ?_)
    refine lv_iload_n hx hb dX8_setPoint_65 rfl (lv_at hl 3 rfl) ?_
    refine lv_aload_n hx hb dX8_setPoint_66 rfl (lv_at hl 1 rfl) ?_
    refine va_get (D := D) (ci := 8) (v := .ref a_h_d) (C := RX8) (T := TX8) (N := 14) hx hb hts in_X8_setPoint_X8 hown hK hP 0 rfl rfl 0 (by decide) (hts _ q_X8_setPoint_2) (fun _ h9 => h9) rfl dX8_setPoint_67 ?_
    refine lv_bipush (v := (18 : Int32)) hx hb dX8_setPoint_70 (by decide) ?_
    refine lv_iload_n hx hb dX8_setPoint_72 rfl (lv_at hl 4 rfl) ?_
    refine lv_iadd hx hb dX8_setPoint_73 ?_
    refine lv_iconst (v := (1 : Int32)) hx hb dX8_setPoint_74 (by decide) ?_
    refine lv_isub hx hb dX8_setPoint_75 ?_
    obtain ⟨hi9, h⟩ := gA_e h
    refine wx_iald hx hb hK hP 1 0 rfl rfl (Int32.toNatClampNeg (((18 : Int32) + x3) - (1 : Int32))) rfl hi9 dX8_setPoint_76 ?_
    refine lv_icmp_le (tgt := 110) hx hb dX8_setPoint_77 (by decide) (fun hc10 => ?_) (fun hc10 => ?_)
    · replace h := it_e hc10 h
      exact B110 x3 x4 s0 m_states m_d_A m_was_A m_accounts_A _ _ _ h hP hD hS (lv_sub hl [1, 2, 3, 4, 5, 0] rfl)
    · replace h := if_e hc10 h
      refine lv_iload hx hb dX8_setPoint_80 (lv_at hl 0 rfl) ?_
      refine lv_aload_n hx hb dX8_setPoint_82 rfl (lv_at hl 1 rfl) ?_
      refine va_get (D := D) (ci := 8) (v := .ref a_h_d) (C := RX8) (T := TX8) (N := 14) hx hb hts in_X8_setPoint_X8 hown hK hP 0 rfl rfl 0 (by decide) (hts _ q_X8_setPoint_2) (fun _ h9 => h9) rfl dX8_setPoint_83 ?_
      refine lv_bipush (v := (9 : Int32)) hx hb dX8_setPoint_86 (by decide) ?_
      refine wx_iald hx hb hK hP 1 0 rfl rfl 9 (by decide) (by unfold vp_in; decide) dX8_setPoint_88 ?_
      refine lv_icmp_eq (tgt := 106) hx hb dX8_setPoint_89 (by decide) (fun hc39 => ?_) (fun hc39 => ?_)
      · replace h := it_e hc39 h
        exact B106 x3 x4 s0 m_states m_d_A m_was_A m_accounts_A _ _ _ h hP hD hS (lv_sub hl [1, 2, 3, 4, 5, 0] rfl)
      · replace h := if_e hc39 h
        refine lv_iload_n hx hb dX8_setPoint_92 rfl (lv_at hl 3 rfl) ?_
        refine lv_aload_n hx hb dX8_setPoint_93 rfl (lv_at hl 1 rfl) ?_
        refine va_get (D := D) (ci := 8) (v := .ref a_h_d) (C := RX8) (T := TX8) (N := 14) hx hb hts in_X8_setPoint_X8 hown hK hP 0 rfl rfl 0 (by decide) (hts _ q_X8_setPoint_2) (fun _ h9 => h9) rfl dX8_setPoint_94 ?_
        refine lv_bipush (v := (18 : Int32)) hx hb dX8_setPoint_97 (by decide) ?_
        refine lv_iload hx hb dX8_setPoint_99 (lv_at hl 0 rfl) ?_
        refine lv_iadd hx hb dX8_setPoint_101 ?_
        obtain ⟨hi40, h⟩ := gA_e h
        refine wx_iald hx hb hK hP 1 0 rfl rfl (Int32.toNatClampNeg ((18 : Int32) + s0)) rfl hi40 dX8_setPoint_102 ?_
        refine lv_icmp_ge (tgt := 110) hx hb dX8_setPoint_103 (by decide) (fun hc41 => ?_) (fun hc41 => ?_)
        · replace h := it_e hc41 h
          exact B110 x3 x4 s0 m_states m_d_A m_was_A m_accounts_A _ _ _ h hP hD hS (lv_sub hl [1, 2, 3, 4, 5, 0] rfl)
        · replace h := if_e hc41 h
          exact B106 x3 x4 s0 m_states m_d_A m_was_A m_accounts_A _ _ _ h hP hD hS (lv_sub hl [1, 2, 3, 4, 5, 0] rfl)
  have B49 : ∀ (x3 : Int32) (s0 : Int32) (m_states : Int32) (m_d_A : Nat → Int32) (m_was_A : Nat → Int32) (m_accounts_A : Nat → Int64) (H : Heap) (locs : List Loc) (ls : Array Slot), f_X8_setPoint_b49 N v_account p0 p1 x3 s0 m_states m_d_A m_was_A m_accounts_A  = some u → va_P D vwCl [(a_h, .inr (8, [.ref a_h_d, .long v_account, .ref a_h_was, .ref a_h_accounts, .int m_states, .int v_refused, .ref a_h_text, .int v_typed, .int v_at, .int v_sign, .int v_number, .ref a_h_aside, .ref a_h_places, .ref a_h_told])), (a_h_d, .inl (cI, 2086, .inl m_d_A)), (a_h_was, .inl (cI, 10430, .inl m_was_A)), (a_h_accounts, .inl (cJ, 5, .inr (.inl m_accounts_A)))] H → va_D A [(a_h, .inr (8, [.ref a_h_d, .long v_account, .ref a_h_was, .ref a_h_accounts, .int m_states, .int v_refused, .ref a_h_text, .int v_typed, .int v_at, .int v_sign, .int v_number, .ref a_h_aside, .ref a_h_places, .ref a_h_told])), (a_h_d, .inl (cI, 2086, .inl m_d_A)), (a_h_was, .inl (cI, 10430, .inl m_was_A)), (a_h_accounts, .inl (cJ, 5, .inr (.inl m_accounts_A)))] → va_S A s.heap H locs → lv_has ls 8 [(0, .ref a_h), (1, .int p0), (2, .int p1), (3, .int x3)] → W p l e ({ frames := 1, cells := 0, slots := 0, locals := 22 } : Room) s m ([.ref a_h, .int p0, .int p1] : List Value).toArray below meth c H locs 0 0 (MQ below (QI D (ty4 cI cC cJ cB) A [(a_h, .inr (8, [.ref a_h_d, .long v_account, .ref a_h_was, .ref a_h_accounts, .int u.2.1, .int v_refused, .ref a_h_text, .int v_typed, .int v_at, .int v_sign, .int v_number, .ref a_h_aside, .ref a_h_places, .ref a_h_told])), (a_h_d, .inl (cI, 2086, .inl u.2.2.1)), (a_h_was, .inl (cI, 10430, .inl u.2.2.2.1)), (a_h_accounts, .inl (cJ, 5, .inr (.inl u.2.2.2.2)))] u.1) ([.ref a_h, .int p0, .int p1] : List Value).toArray s 0 0 A) (F0 m 49 ls [.int s0]) := by
    intro x3 s0 m_states m_d_A m_was_A m_accounts_A H locs ls h hP hD hS hl
    unfold f_X8_setPoint_b49 at h
    refine lv_istore (lv' := [(4, .int s0), (0, .ref a_h), (1, .int p0), (2, .int p1), (3, .int x3)]) hx hb dX8_setPoint_49 hl (by decide) rfl (fun ls hl => ?_)
    refine lv_iload hx hb dX8_setPoint_51 (lv_at hl 0 rfl) ?_
    refine lv_if_eq (tgt := 62) hx hb dX8_setPoint_53 (by decide) (fun hc8 => ?_) (fun hc8 => ?_)
    · replace h := it_e hc8 h
      refine lv_iload_n hx hb dX8_setPoint_62 rfl (lv_at hl 4 rfl) ?_
      exact B63 x3 s0 x3 m_states m_d_A m_was_A m_accounts_A _ _ _ h hP hD hS (lv_sub hl [1, 2, 3, 4, 0] rfl)
    · replace h := if_e hc8 h
      refine lv_iload_n hx hb dX8_setPoint_56 rfl (lv_at hl 4 rfl) ?_
      refine lv_iconst (v := (1 : Int32)) hx hb dX8_setPoint_57 (by decide) ?_
      refine lv_iadd hx hb dX8_setPoint_58 ?_
      refine lv_goto (tgt := 63) hx hb dX8_setPoint_59 (by decide) ?_
      exact B63 x3 s0 (x3 + (1 : Int32)) m_states m_d_A m_was_A m_accounts_A _ _ _ h hP hD hS (lv_sub hl [1, 2, 3, 4, 0] rfl)
  refine lv_iload_n hx hb dX8_setPoint_0 rfl (lv_at hl 1 rfl) ?_
  refine lv_iconst (v := (1 : Int32)) hx hb dX8_setPoint_1 (by decide) ?_
  refine lv_sipush (v := (1000 : Int32)) hx hb dX8_setPoint_2 (by decide) ?_
  obtain ⟨u1, hu1, h⟩ := bd_e h
  refine kx_i (mc := 0) (ms := 0) (wr := [(a_h, .inr (8, [.ref a_h_d, .long v_account, .ref a_h_was, .ref a_h_accounts, .int v_states, .int v_refused, .ref a_h_text, .int v_typed, .int v_at, .int v_sign, .int v_number, .ref a_h_aside, .ref a_h_places, .ref a_h_told])), (a_h_d, .inl (cI, 2086, .inl v_d_A)), (a_h_was, .inl (cI, 10430, .inl v_was_A)), (a_h_accounts, .inl (cJ, 5, .inr (.inl v_accounts_A)))]) (ws2 := [(a_h, .inr (8, [.ref a_h_d, .long v_account, .ref a_h_was, .ref a_h_accounts, .int v_states, .int v_refused, .ref a_h_text, .int v_typed, .int v_at, .int v_sign, .int v_number, .ref a_h_aside, .ref a_h_places, .ref a_h_told])), (a_h_d, .inl (cI, 2086, .inl v_d_A)), (a_h_was, .inl (cI, 10430, .inl v_was_A)), (a_h_accounts, .inl (cJ, 5, .inr (.inl v_accounts_A)))]) (va_runS (As := [.int p0, .int (1 : Int32), .int (1000 : Int32)]) (rest := []) ⟨hx, hb, hml, hown, hts⟩ (k_X8_in l D cI cC cJ cB N p0 (1 : Int32) (1000 : Int32) s.heap.size _ hu1) (va_cwS 3 hts gX8_setPoint_X8_in rfl rfl rfl (by decide +kernel) ⟨Nat.le_of_ble_eq_true rfl, Nat.le_of_ble_eq_true rfl⟩) (pv_S hP hD hK hN [] rfl rfl) rfl rfl hl.1 rfl (lv_room (Nat.le_of_ble_eq_true rfl)) dX8_setPoint_5 ⟨Nat.zero_le _, Nat.zero_le _⟩) hP hD hS hA [] [0, 1, 2, 3] [0, 1, 2, 3] rfl rfl rfl rfl rfl rfl (fun H locs hP hD hS => ?_)
  refine lv_if_eq (tgt := 22) hx hb dX8_setPoint_8 (by decide) (fun hc2 => ?_) (fun hc2 => ?_)
  · replace h := it_e hc2 h
    refine lv_ldc (v := (-2000000001 : Int32)) hx hb hown (hts _ q_X8_setPoint_1) dX8_setPoint_22 ?_
    obtain rfl := sm_e h
    exact rx_i hx hb hr  hP hK hD hS dX8_setPoint_24 hlocks
  · replace h := if_e hc2 h
    refine lv_iload_n hx hb dX8_setPoint_11 rfl (lv_at hl 2 rfl) ?_
    refine lv_iconst (v := (1 : Int32)) hx hb dX8_setPoint_12 (by decide) ?_
    refine lv_sipush (v := (20000 : Int32)) hx hb dX8_setPoint_13 (by decide) ?_
    obtain ⟨u3, hu3, h⟩ := bd_e h
    refine kx_i (mc := 0) (ms := 0) (wr := [(a_h, .inr (8, [.ref a_h_d, .long v_account, .ref a_h_was, .ref a_h_accounts, .int v_states, .int v_refused, .ref a_h_text, .int v_typed, .int v_at, .int v_sign, .int v_number, .ref a_h_aside, .ref a_h_places, .ref a_h_told])), (a_h_d, .inl (cI, 2086, .inl v_d_A)), (a_h_was, .inl (cI, 10430, .inl v_was_A)), (a_h_accounts, .inl (cJ, 5, .inr (.inl v_accounts_A)))]) (ws2 := [(a_h, .inr (8, [.ref a_h_d, .long v_account, .ref a_h_was, .ref a_h_accounts, .int v_states, .int v_refused, .ref a_h_text, .int v_typed, .int v_at, .int v_sign, .int v_number, .ref a_h_aside, .ref a_h_places, .ref a_h_told])), (a_h_d, .inl (cI, 2086, .inl v_d_A)), (a_h_was, .inl (cI, 10430, .inl v_was_A)), (a_h_accounts, .inl (cJ, 5, .inr (.inl v_accounts_A)))]) (va_runS (As := [.int p1, .int (1 : Int32), .int (20000 : Int32)]) (rest := []) ⟨hx, hb, hml, hown, hts⟩ (k_X8_in l D cI cC cJ cB N p1 (1 : Int32) (20000 : Int32) H.size _ hu3) (va_cwS 3 hts gX8_setPoint_X8_in rfl rfl rfl (by decide +kernel) ⟨Nat.le_of_ble_eq_true rfl, Nat.le_of_ble_eq_true rfl⟩) (pv_S hP hD hK hN [] rfl rfl) rfl rfl hl.1 rfl (lv_room (Nat.le_of_ble_eq_true rfl)) dX8_setPoint_16 ⟨Nat.zero_le _, Nat.zero_le _⟩) hP hD hS hA [] [0, 1, 2, 3] [0, 1, 2, 3] rfl rfl rfl rfl rfl rfl (fun H locs hP hD hS => ?_)
    refine lv_if_ne (tgt := 25) hx hb dX8_setPoint_19 (by decide) (fun hc4 => ?_) (fun hc4 => ?_)
    · replace h := it_e hc4 h
      refine lv_aload_n hx hb dX8_setPoint_25 rfl (lv_at hl 0 rfl) ?_
      refine lv_iload_n hx hb dX8_setPoint_26 rfl (lv_at hl 1 rfl) ?_
      obtain ⟨u5, hu5, h⟩ := bd_e h
      refine kx_i (mc := 0) (ms := 0) (wr := [(a_h_was, .inl (cI, 10430, .inl v_was_A)), (a_h_accounts, .inl (cJ, 5, .inr (.inl v_accounts_A)))]) (ws2 := [(a_h, .inr (8, [.ref a_h_d, .long v_account, .ref a_h_was, .ref a_h_accounts, .int v_states, .int v_refused, .ref a_h_text, .int v_typed, .int v_at, .int v_sign, .int v_number, .ref a_h_aside, .ref a_h_places, .ref a_h_told])), (a_h_d, .inl (cI, 2086, .inl v_d_A)), (a_h_was, .inl (cI, 10430, .inl v_was_A)), (a_h_accounts, .inl (cJ, 5, .inr (.inl v_accounts_A)))]) (va_runV (As := [.int p0]) (rest := []) ⟨hx, hb, hml, hown, hts⟩ (k_X8_pointAt l D cI cC cJ cB a_h a_h_d a_h_was a_h_accounts a_h_text a_h_aside a_h_places a_h_told v_account v_states v_refused v_typed v_at v_sign v_number v_d_A N p0 H.size _ hu5) (cwV 1 hts gX8_setPoint_X8_pointAt rfl rfl rfl (by decide +kernel) ⟨Nat.le_of_ble_eq_true rfl, Nat.le_of_ble_eq_true rfl⟩) (pv_V hP hD hK hN [0, 1] rfl rfl (ci := 8) rfl 0 rfl) rfl rfl hl.1 rfl (lv_room (Nat.le_of_ble_eq_true rfl)) dX8_setPoint_27 ⟨Nat.zero_le _, Nat.zero_le _⟩) hP hD hS hA [0, 1] [2, 3] [2, 3, 0, 1] rfl rfl rfl rfl rfl rfl (fun H locs hP hD hS => ?_)
      refine lv_istore_n (lv' := [(3, .int u5), (0, .ref a_h), (1, .int p0), (2, .int p1)]) hx hb dX8_setPoint_30 rfl hl (by decide) rfl (fun ls hl => ?_)
      refine lv_aload_n hx hb dX8_setPoint_31 rfl (lv_at hl 1 rfl) ?_
      refine va_get (D := D) (ci := 8) (v := .ref a_h_d) (C := RX8) (T := TX8) (N := 14) hx hb hts in_X8_setPoint_X8 hown hK hP 0 rfl rfl 0 (by decide) (hts _ q_X8_setPoint_2) (fun _ h9 => h9) rfl dX8_setPoint_32 ?_
      refine lv_bipush (v := (10 : Int32)) hx hb dX8_setPoint_35 (by decide) ?_
      refine lv_iload_n hx hb dX8_setPoint_37 rfl (lv_at hl 0 rfl) ?_
      refine lv_iadd hx hb dX8_setPoint_38 ?_
      obtain ⟨hi6, h⟩ := gA_e h
      refine wx_iald hx hb hK hP 1 0 rfl rfl (Int32.toNatClampNeg ((10 : Int32) + u5)) rfl hi6 dX8_setPoint_39 ?_
      refine lv_iload_n hx hb dX8_setPoint_40 rfl (lv_at hl 2 rfl) ?_
      refine lv_icmp_ne (tgt := 48) hx hb dX8_setPoint_41 (by decide) (fun hc7 => ?_) (fun hc7 => ?_)
      · replace h := it_e hc7 h
        refine lv_iconst (v := (0 : Int32)) hx hb dX8_setPoint_48 (by decide) ?_
        exact B49 u5 (0 : Int32) v_states v_d_A v_was_A v_accounts_A _ _ _ h hP hD hS (lv_sub hl [1, 2, 3, 0] rfl)
      · replace h := in_e hc7 h
        refine lv_iconst (v := (1 : Int32)) hx hb dX8_setPoint_44 (by decide) ?_
        refine lv_goto (tgt := 49) hx hb dX8_setPoint_45 (by decide) ?_
        exact B49 u5 (1 : Int32) v_states v_d_A v_was_A v_accounts_A _ _ _ h hP hD hS (lv_sub hl [1, 2, 3, 0] rfl)
    · replace h := in_e hc4 h
      refine lv_ldc (v := (-2000000001 : Int32)) hx hb hown (hts _ q_X8_setPoint_1) dX8_setPoint_22 ?_
      obtain rfl := sm_e h
      exact rx_i hx hb hr  hP hK hD hS dX8_setPoint_24 hlocks
-- X8_removePoint
def f_X8_removePoint_b74 (x3 : Int32) (m_states : Int32) (m_was_A : Nat → Int32) (m_accounts_A : Nat → Int64) : Nat → Int32 → (Nat → Int32) → Option (Int32 × Int32 × (Nat → Int32) × (Nat → Int32) × (Nat → Int64))
  | 0, _, _ => none
  | k + 1, x4, m_d_A =>
    (if (m_d_A 9) ≤ x4 then some (x3, m_states, m_d_A, m_was_A, m_accounts_A)
    else gA (((10 : Int32) + x4) + (1 : Int32)) 2086 (nm (m_d_A (Int32.toNatClampNeg (((10 : Int32) + x4) + (1 : Int32)))) (fun t15 => gA ((10 : Int32) + x4) 2086 (nm (upd m_d_A (Int32.toNatClampNeg ((10 : Int32) + x4)) t15) (fun g17 => gA (((18 : Int32) + x4) + (1 : Int32)) 2086 (nm (g17 (Int32.toNatClampNeg (((18 : Int32) + x4) + (1 : Int32)))) (fun t19 => gA ((18 : Int32) + x4) 2086 (nm (upd g17 (Int32.toNatClampNeg ((18 : Int32) + x4)) t19) (fun g21 => nm (x4 + (1 : Int32)) (fun t22 => (f_X8_removePoint_b74 x3 m_states m_was_A m_accounts_A k t22 g21)))))))))))
def f_X8_removePoint (N : Nat) (v_account : Int64) (v_states : Int32) (v_d_A : Nat → Int32) (v_was_A : Nat → Int32) (v_accounts_A : Nat → Int64) (p0 : Int32) : Option (Int32 × Int32 × (Nat → Int32) × (Nat → Int32) × (Nat → Int64)) :=
  Option.bind (f_X8_in p0 (1 : Int32) (999 : Int32)) (fun u1 => (if ¬ u1 = 0 then Option.bind (f_X8_isFree v_d_A) (fun u3 => (if ¬ u3 = 0 then Option.bind (f_X8_pointAt N v_d_A p0) (fun u5 => gA ((10 : Int32) + u5) 2086 ((if (v_d_A (Int32.toNatClampNeg ((10 : Int32) + u5))) = p0 then Option.bind (f_X8_records N v_account v_states v_d_A v_was_A v_accounts_A) (fun u8 => gA ((18 : Int32) + u5) 2086 (nm (v_d_A (Int32.toNatClampNeg ((18 : Int32) + u5))) (fun t10 => nm ((v_d_A 9) - (1 : Int32)) (fun t11 => nm (upd v_d_A 9 t11) (fun g12 => (f_X8_removePoint_b74 t10 u8.1 u8.2.1 u8.2.2 N u5 g12))))))
    else some ((-2000000004 : Int32), v_states, v_d_A, v_was_A, v_accounts_A))))
    else some ((-2000000002 : Int32), v_states, v_d_A, v_was_A, v_accounts_A)))
    else some ((-2000000001 : Int32), v_states, v_d_A, v_was_A, v_accounts_A)))
theorem q_X8_removePoint_3 : (.fieldLink RX8 7 "SpringBalanceModel" "d" "[I" : Cond) ∈ wsX8_removePoint := List.mem_of_getElem? (i := 3) (by decide +kernel)
set_option maxRecDepth 20000 in
theorem in_X8_removePoint_X8 : ∀ w ∈ u_ws RX8 TX8 14, w ∈ wsX8_removePoint := by decide +kernel
theorem q_X8_removePoint_4 : (.constant RX8 96 (-2000000004) : Cond) ∈ wsX8_removePoint := List.mem_of_getElem? (i := 4) (by decide +kernel)
theorem q_X8_removePoint_2 : (.constant RX8 69 (-2000000002) : Cond) ∈ wsX8_removePoint := List.mem_of_getElem? (i := 2) (by decide +kernel)
theorem q_X8_removePoint_1 : (.constant RX8 64 (-2000000001) : Cond) ∈ wsX8_removePoint := List.mem_of_getElem? (i := 1) (by decide +kernel)
set_option maxHeartbeats 8000000 in
set_option maxRecDepth 100000 in
theorem k_X8_removePoint (l : Launch) (D : va_G) (cI cC cJ cB : ClassId) (a_h a_h_d a_h_was a_h_accounts a_h_text a_h_aside a_h_places a_h_told : Nat) (v_account : Int64) (v_states : Int32) (v_refused : Int32) (v_typed : Int32) (v_at : Int32) (v_sign : Int32) (v_number : Int32) (v_d_A : Nat → Int32) (v_was_A : Nat → Int32) (v_accounts_A : Nat → Int64) (N : Nat) (p0 : Int32) (sz : Nat) (u : Int32 × Int32 × (Nat → Int32) × (Nat → Int32) × (Nat → Int64)) (hu : f_X8_removePoint N v_account v_states v_d_A v_was_A v_accounts_A p0 = some u) :
    Met l yX8_removePoint wsX8_removePoint ({ frames := 1, cells := 0, slots := 0, locals := 22 } : Room) (va_Pc [.ref a_h, .int p0] (PreW D (ty4 cI cC cJ cB) sz [(a_h, .inr (8, [.ref a_h_d, .long v_account, .ref a_h_was, .ref a_h_accounts, .int v_states, .int v_refused, .ref a_h_text, .int v_typed, .int v_at, .int v_sign, .int v_number, .ref a_h_aside, .ref a_h_places, .ref a_h_told])), (a_h_d, .inl (cI, 2086, .inl v_d_A)), (a_h_was, .inl (cI, 10430, .inl v_was_A)), (a_h_accounts, .inl (cJ, 5, .inr (.inl v_accounts_A)))]))
      (QI D (ty4 cI cC cJ cB) (va_A [(a_h, .inr (8, [.ref a_h_d, .long v_account, .ref a_h_was, .ref a_h_accounts, .int v_states, .int v_refused, .ref a_h_text, .int v_typed, .int v_at, .int v_sign, .int v_number, .ref a_h_aside, .ref a_h_places, .ref a_h_told])), (a_h_d, .inl (cI, 2086, .inl v_d_A)), (a_h_was, .inl (cI, 10430, .inl v_was_A)), (a_h_accounts, .inl (cJ, 5, .inr (.inl v_accounts_A)))] sz) [(a_h, .inr (8, [.ref a_h_d, .long v_account, .ref a_h_was, .ref a_h_accounts, .int u.2.1, .int v_refused, .ref a_h_text, .int v_typed, .int v_at, .int v_sign, .int v_number, .ref a_h_aside, .ref a_h_places, .ref a_h_told])), (a_h_d, .inl (cI, 2086, .inl u.2.2.1)), (a_h_was, .inl (cI, 10430, .inl u.2.2.2.1)), (a_h_accounts, .inl (cJ, 5, .inr (.inl u.2.2.2.2)))] u.1) 0 0 (va_A [(a_h, .inr (8, [.ref a_h_d, .long v_account, .ref a_h_was, .ref a_h_accounts, .int v_states, .int v_refused, .ref a_h_text, .int v_typed, .int v_at, .int v_sign, .int v_number, .ref a_h_aside, .ref a_h_places, .ref a_h_told])), (a_h_d, .inl (cI, 2086, .inl v_d_A)), (a_h_was, .inl (cI, 10430, .inl v_was_A)), (a_h_accounts, .inl (cJ, 5, .inr (.inl v_accounts_A)))] sz) := by
  refine met_go (y := yX8_removePoint) (wsy := wsX8_removePoint) (cc := cX8_removePoint) (maxL := 5) (ret := (some .int)) (av := [.ref a_h, .int p0]) (Qc := fun A => QI D (ty4 cI cC cJ cB) A [(a_h, .inr (8, [.ref a_h_d, .long v_account, .ref a_h_was, .ref a_h_accounts, .int u.2.1, .int v_refused, .ref a_h_text, .int v_typed, .int v_at, .int v_sign, .int v_number, .ref a_h_aside, .ref a_h_places, .ref a_h_told])), (a_h_d, .inl (cI, 2086, .inl u.2.2.1)), (a_h_was, .inl (cI, 10430, .inl u.2.2.2.1)), (a_h_accounts, .inl (cJ, 5, .inr (.inl u.2.2.2.2)))] u.1) (by decide) rfl (Nat.le_of_ble_eq_true rfl) ?_
  intro p e s m below meth c A ls hx hb hr hml hown hts hlocks hnm hN hK hP hD hS hA hl
  have h := hu
  clear hu
  unfold f_X8_removePoint at h
  have hl : lv_has ls 5 [(0, .ref a_h), (1, .int p0)] := hl
  have B74 : ∀ (k : Nat) (x2 : Int32) (x3 : Int32) (x4 : Int32) (m_states : Int32) (m_d_A : Nat → Int32) (m_was_A : Nat → Int32) (m_accounts_A : Nat → Int64) (H : Heap) (locs : List Loc) (ls : Array Slot), f_X8_removePoint_b74 x3 m_states m_was_A m_accounts_A k x4 m_d_A = some u → va_P D vwCl [(a_h, .inr (8, [.ref a_h_d, .long v_account, .ref a_h_was, .ref a_h_accounts, .int m_states, .int v_refused, .ref a_h_text, .int v_typed, .int v_at, .int v_sign, .int v_number, .ref a_h_aside, .ref a_h_places, .ref a_h_told])), (a_h_d, .inl (cI, 2086, .inl m_d_A)), (a_h_was, .inl (cI, 10430, .inl m_was_A)), (a_h_accounts, .inl (cJ, 5, .inr (.inl m_accounts_A)))] H → va_D A [(a_h, .inr (8, [.ref a_h_d, .long v_account, .ref a_h_was, .ref a_h_accounts, .int m_states, .int v_refused, .ref a_h_text, .int v_typed, .int v_at, .int v_sign, .int v_number, .ref a_h_aside, .ref a_h_places, .ref a_h_told])), (a_h_d, .inl (cI, 2086, .inl m_d_A)), (a_h_was, .inl (cI, 10430, .inl m_was_A)), (a_h_accounts, .inl (cJ, 5, .inr (.inl m_accounts_A)))] → va_S A s.heap H locs → lv_has ls 5 [(0, .ref a_h), (1, .int p0), (2, .int x2), (3, .int x3), (4, .int x4)] → W p l e ({ frames := 1, cells := 0, slots := 0, locals := 22 } : Room) s m ([.ref a_h, .int p0] : List Value).toArray below meth c H locs 0 0 (MQ below (QI D (ty4 cI cC cJ cB) A [(a_h, .inr (8, [.ref a_h_d, .long v_account, .ref a_h_was, .ref a_h_accounts, .int u.2.1, .int v_refused, .ref a_h_text, .int v_typed, .int v_at, .int v_sign, .int v_number, .ref a_h_aside, .ref a_h_places, .ref a_h_told])), (a_h_d, .inl (cI, 2086, .inl u.2.2.1)), (a_h_was, .inl (cI, 10430, .inl u.2.2.2.1)), (a_h_accounts, .inl (cJ, 5, .inr (.inl u.2.2.2.2)))] u.1) ([.ref a_h, .int p0] : List Value).toArray s 0 0 A) (F0 m 74 ls []) := by
    intro k
    induction k with
    | zero =>
      intro x2 x3 x4 m_states m_d_A m_was_A m_accounts_A H locs ls h
      exact nomatch (show (none : Option (Int32 × Int32 × (Nat → Int32) × (Nat → Int32) × (Nat → Int64))) = some u from h)
    | succ k ih =>
      intro x2 x3 x4 m_states m_d_A m_was_A m_accounts_A H locs ls h hP hD hS hl
      rw [f_X8_removePoint_b74.eq_2] at h
      refine lv_iload hx hb dX8_removePoint_74 (lv_at hl 4 rfl) ?_
      refine lv_aload_n hx hb dX8_removePoint_76 rfl (lv_at hl 0 rfl) ?_
      refine va_get (D := D) (ci := 8) (v := .ref a_h_d) (C := RX8) (T := TX8) (N := 14) hx hb hts in_X8_removePoint_X8 hown hK hP 0 rfl rfl 0 (by decide) (hts _ q_X8_removePoint_3) (fun _ h9 => h9) rfl dX8_removePoint_77 ?_
      refine lv_bipush (v := (9 : Int32)) hx hb dX8_removePoint_80 (by decide) ?_
      refine wx_iald hx hb hK hP 1 0 rfl rfl 9 (by decide) (by unfold vp_in; decide) dX8_removePoint_82 ?_
      refine lv_icmp_ge (tgt := 136) hx hb dX8_removePoint_83 (by decide) (fun hc13 => ?_) (fun hc13 => ?_)
      · replace h := it_e hc13 h
        refine lv_iload_n hx hb dX8_removePoint_136 rfl (lv_at hl 3 rfl) ?_
        obtain rfl := sm_e h
        exact rx_i hx hb hr  hP hK hD hS dX8_removePoint_137 hlocks
      · replace h := if_e hc13 h
        refine lv_aload_n hx hb dX8_removePoint_86 rfl (lv_at hl 0 rfl) ?_
        refine va_get (D := D) (ci := 8) (v := .ref a_h_d) (C := RX8) (T := TX8) (N := 14) hx hb hts in_X8_removePoint_X8 hown hK hP 0 rfl rfl 0 (by decide) (hts _ q_X8_removePoint_3) (fun _ h9 => h9) rfl dX8_removePoint_87 ?_
        refine lv_bipush (v := (10 : Int32)) hx hb dX8_removePoint_90 (by decide) ?_
        refine lv_iload hx hb dX8_removePoint_92 (lv_at hl 4 rfl) ?_
        refine lv_iadd hx hb dX8_removePoint_94 ?_
        refine lv_aload_n hx hb dX8_removePoint_95 rfl (lv_at hl 0 rfl) ?_
        refine va_get (D := D) (ci := 8) (v := .ref a_h_d) (C := RX8) (T := TX8) (N := 14) hx hb hts in_X8_removePoint_X8 hown hK hP 0 rfl rfl 0 (by decide) (hts _ q_X8_removePoint_3) (fun _ h9 => h9) rfl dX8_removePoint_96 ?_
        refine lv_bipush (v := (10 : Int32)) hx hb dX8_removePoint_99 (by decide) ?_
        refine lv_iload hx hb dX8_removePoint_101 (lv_at hl 4 rfl) ?_
        refine lv_iadd hx hb dX8_removePoint_103 ?_
        refine lv_iconst (v := (1 : Int32)) hx hb dX8_removePoint_104 (by decide) ?_
        refine lv_iadd hx hb dX8_removePoint_105 ?_
        obtain ⟨hi14, h⟩ := gA_e h
        refine wx_iald hx hb hK hP 1 0 rfl rfl (Int32.toNatClampNeg (((10 : Int32) + x4) + (1 : Int32))) rfl hi14 dX8_removePoint_106 ?_
        refine lv_topi (fun t15 et15 => ?_)
        replace h := nm_at h et15
        obtain ⟨hi16, h⟩ := gA_e h
        refine wx_iast hx hb hK hP hD hS 1 0 rfl rfl (Int32.toNatClampNeg ((10 : Int32) + x4)) rfl hi16 dX8_removePoint_107 rfl (fun H locs hP hD hS => ?_)
        obtain ⟨g17, eg17, h⟩ := nm_x h
        have hP : va_P D vwCl [(a_h, .inr (8, [.ref a_h_d, .long v_account, .ref a_h_was, .ref a_h_accounts, .int m_states, .int v_refused, .ref a_h_text, .int v_typed, .int v_at, .int v_sign, .int v_number, .ref a_h_aside, .ref a_h_places, .ref a_h_told])), (a_h_d, .inl (cI, 2086, .inl g17)), (a_h_was, .inl (cI, 10430, .inl m_was_A)), (a_h_accounts, .inl (cJ, 5, .inr (.inl m_accounts_A)))] H := by rw [eg17]; exact hP
        have hD : va_D A [(a_h, .inr (8, [.ref a_h_d, .long v_account, .ref a_h_was, .ref a_h_accounts, .int m_states, .int v_refused, .ref a_h_text, .int v_typed, .int v_at, .int v_sign, .int v_number, .ref a_h_aside, .ref a_h_places, .ref a_h_told])), (a_h_d, .inl (cI, 2086, .inl g17)), (a_h_was, .inl (cI, 10430, .inl m_was_A)), (a_h_accounts, .inl (cJ, 5, .inr (.inl m_accounts_A)))] := by rw [eg17]; exact hD
        refine lv_aload_n hx hb dX8_removePoint_108 rfl (lv_at hl 0 rfl) ?_
        refine va_get (D := D) (ci := 8) (v := .ref a_h_d) (C := RX8) (T := TX8) (N := 14) hx hb hts in_X8_removePoint_X8 hown hK hP 0 rfl rfl 0 (by decide) (hts _ q_X8_removePoint_3) (fun _ h9 => h9) rfl dX8_removePoint_109 ?_
        refine lv_bipush (v := (18 : Int32)) hx hb dX8_removePoint_112 (by decide) ?_
        refine lv_iload hx hb dX8_removePoint_114 (lv_at hl 4 rfl) ?_
        refine lv_iadd hx hb dX8_removePoint_116 ?_
        refine lv_aload_n hx hb dX8_removePoint_117 rfl (lv_at hl 0 rfl) ?_
        refine va_get (D := D) (ci := 8) (v := .ref a_h_d) (C := RX8) (T := TX8) (N := 14) hx hb hts in_X8_removePoint_X8 hown hK hP 0 rfl rfl 0 (by decide) (hts _ q_X8_removePoint_3) (fun _ h9 => h9) rfl dX8_removePoint_118 ?_
        refine lv_bipush (v := (18 : Int32)) hx hb dX8_removePoint_121 (by decide) ?_
        refine lv_iload hx hb dX8_removePoint_123 (lv_at hl 4 rfl) ?_
        refine lv_iadd hx hb dX8_removePoint_125 ?_
        refine lv_iconst (v := (1 : Int32)) hx hb dX8_removePoint_126 (by decide) ?_
        refine lv_iadd hx hb dX8_removePoint_127 ?_
        obtain ⟨hi18, h⟩ := gA_e h
        refine wx_iald hx hb hK hP 1 0 rfl rfl (Int32.toNatClampNeg (((18 : Int32) + x4) + (1 : Int32))) rfl hi18 dX8_removePoint_128 ?_
        refine lv_topi (fun t19 et19 => ?_)
        replace h := nm_at h et19
        obtain ⟨hi20, h⟩ := gA_e h
        refine wx_iast hx hb hK hP hD hS 1 0 rfl rfl (Int32.toNatClampNeg ((18 : Int32) + x4)) rfl hi20 dX8_removePoint_129 rfl (fun H locs hP hD hS => ?_)
        obtain ⟨g21, eg21, h⟩ := nm_x h
        have hP : va_P D vwCl [(a_h, .inr (8, [.ref a_h_d, .long v_account, .ref a_h_was, .ref a_h_accounts, .int m_states, .int v_refused, .ref a_h_text, .int v_typed, .int v_at, .int v_sign, .int v_number, .ref a_h_aside, .ref a_h_places, .ref a_h_told])), (a_h_d, .inl (cI, 2086, .inl g21)), (a_h_was, .inl (cI, 10430, .inl m_was_A)), (a_h_accounts, .inl (cJ, 5, .inr (.inl m_accounts_A)))] H := by rw [eg21]; exact hP
        have hD : va_D A [(a_h, .inr (8, [.ref a_h_d, .long v_account, .ref a_h_was, .ref a_h_accounts, .int m_states, .int v_refused, .ref a_h_text, .int v_typed, .int v_at, .int v_sign, .int v_number, .ref a_h_aside, .ref a_h_places, .ref a_h_told])), (a_h_d, .inl (cI, 2086, .inl g21)), (a_h_was, .inl (cI, 10430, .inl m_was_A)), (a_h_accounts, .inl (cJ, 5, .inr (.inl m_accounts_A)))] := by rw [eg21]; exact hD
        obtain ⟨t22, et22, h⟩ := nm_x h
        refine lv_iinc (v := t22) (lv' := [(4, .int t22), (0, .ref a_h), (1, .int p0), (2, .int x2), (3, .int x3)]) hx hb dX8_removePoint_130 hl (k := 4) rfl (by rw [et22]; rfl) (by decide) rfl (fun ls hl => ?_)
        refine lv_goto (tgt := 74) hx hb dX8_removePoint_133 (by decide) ?_
        exact ih x2 x3 t22 m_states g21 m_was_A m_accounts_A _ _ _ h hP hD hS (lv_sub hl [1, 2, 3, 4, 0] rfl)
  refine lv_iload_n hx hb dX8_removePoint_0 rfl (lv_at hl 1 rfl) ?_
  refine lv_iconst (v := (1 : Int32)) hx hb dX8_removePoint_1 (by decide) ?_
  refine lv_sipush (v := (999 : Int32)) hx hb dX8_removePoint_2 (by decide) ?_
  obtain ⟨u1, hu1, h⟩ := bd_e h
  refine kx_i (mc := 0) (ms := 0) (wr := [(a_h, .inr (8, [.ref a_h_d, .long v_account, .ref a_h_was, .ref a_h_accounts, .int v_states, .int v_refused, .ref a_h_text, .int v_typed, .int v_at, .int v_sign, .int v_number, .ref a_h_aside, .ref a_h_places, .ref a_h_told])), (a_h_d, .inl (cI, 2086, .inl v_d_A)), (a_h_was, .inl (cI, 10430, .inl v_was_A)), (a_h_accounts, .inl (cJ, 5, .inr (.inl v_accounts_A)))]) (ws2 := [(a_h, .inr (8, [.ref a_h_d, .long v_account, .ref a_h_was, .ref a_h_accounts, .int v_states, .int v_refused, .ref a_h_text, .int v_typed, .int v_at, .int v_sign, .int v_number, .ref a_h_aside, .ref a_h_places, .ref a_h_told])), (a_h_d, .inl (cI, 2086, .inl v_d_A)), (a_h_was, .inl (cI, 10430, .inl v_was_A)), (a_h_accounts, .inl (cJ, 5, .inr (.inl v_accounts_A)))]) (va_runS (As := [.int p0, .int (1 : Int32), .int (999 : Int32)]) (rest := []) ⟨hx, hb, hml, hown, hts⟩ (k_X8_in l D cI cC cJ cB N p0 (1 : Int32) (999 : Int32) s.heap.size _ hu1) (va_cwS 3 hts gX8_removePoint_X8_in rfl rfl rfl (by decide +kernel) ⟨Nat.le_of_ble_eq_true rfl, Nat.le_of_ble_eq_true rfl⟩) (pv_S hP hD hK hN [] rfl rfl) rfl rfl hl.1 rfl (lv_room (Nat.le_of_ble_eq_true rfl)) dX8_removePoint_5 ⟨Nat.zero_le _, Nat.zero_le _⟩) hP hD hS hA [] [0, 1, 2, 3] [0, 1, 2, 3] rfl rfl rfl rfl rfl rfl (fun H locs hP hD hS => ?_)
  refine lv_if_ne (tgt := 14) hx hb dX8_removePoint_8 (by decide) (fun hc2 => ?_) (fun hc2 => ?_)
  · replace h := it_e hc2 h
    refine lv_aload_n hx hb dX8_removePoint_14 rfl (lv_at hl 0 rfl) ?_
    obtain ⟨u3, hu3, h⟩ := bd_e h
    refine kx_i (mc := 0) (ms := 0) (wr := [(a_h_was, .inl (cI, 10430, .inl v_was_A)), (a_h_accounts, .inl (cJ, 5, .inr (.inl v_accounts_A)))]) (ws2 := [(a_h, .inr (8, [.ref a_h_d, .long v_account, .ref a_h_was, .ref a_h_accounts, .int v_states, .int v_refused, .ref a_h_text, .int v_typed, .int v_at, .int v_sign, .int v_number, .ref a_h_aside, .ref a_h_places, .ref a_h_told])), (a_h_d, .inl (cI, 2086, .inl v_d_A)), (a_h_was, .inl (cI, 10430, .inl v_was_A)), (a_h_accounts, .inl (cJ, 5, .inr (.inl v_accounts_A)))]) (va_runV (As := []) (rest := []) ⟨hx, hb, hml, hown, hts⟩ (k_X8_isFree l D cI cC cJ cB a_h a_h_d a_h_was a_h_accounts a_h_text a_h_aside a_h_places a_h_told v_account v_states v_refused v_typed v_at v_sign v_number v_d_A N H.size _ hu3) (cwV 0 hts gX8_removePoint_X8_isFree rfl rfl rfl (by decide +kernel) ⟨Nat.le_of_ble_eq_true rfl, Nat.le_of_ble_eq_true rfl⟩) (pv_V hP hD hK hN [0, 1] rfl rfl (ci := 8) rfl 0 rfl) rfl rfl hl.1 rfl (lv_room (Nat.le_of_ble_eq_true rfl)) dX8_removePoint_15 ⟨Nat.zero_le _, Nat.zero_le _⟩) hP hD hS hA [0, 1] [2, 3] [2, 3, 0, 1] rfl rfl rfl rfl rfl rfl (fun H locs hP hD hS => ?_)
    refine lv_if_ne (tgt := 24) hx hb dX8_removePoint_18 (by decide) (fun hc4 => ?_) (fun hc4 => ?_)
    · replace h := it_e hc4 h
      refine lv_aload_n hx hb dX8_removePoint_24 rfl (lv_at hl 0 rfl) ?_
      refine lv_iload_n hx hb dX8_removePoint_25 rfl (lv_at hl 1 rfl) ?_
      obtain ⟨u5, hu5, h⟩ := bd_e h
      refine kx_i (mc := 0) (ms := 0) (wr := [(a_h_was, .inl (cI, 10430, .inl v_was_A)), (a_h_accounts, .inl (cJ, 5, .inr (.inl v_accounts_A)))]) (ws2 := [(a_h, .inr (8, [.ref a_h_d, .long v_account, .ref a_h_was, .ref a_h_accounts, .int v_states, .int v_refused, .ref a_h_text, .int v_typed, .int v_at, .int v_sign, .int v_number, .ref a_h_aside, .ref a_h_places, .ref a_h_told])), (a_h_d, .inl (cI, 2086, .inl v_d_A)), (a_h_was, .inl (cI, 10430, .inl v_was_A)), (a_h_accounts, .inl (cJ, 5, .inr (.inl v_accounts_A)))]) (va_runV (As := [.int p0]) (rest := []) ⟨hx, hb, hml, hown, hts⟩ (k_X8_pointAt l D cI cC cJ cB a_h a_h_d a_h_was a_h_accounts a_h_text a_h_aside a_h_places a_h_told v_account v_states v_refused v_typed v_at v_sign v_number v_d_A N p0 H.size _ hu5) (cwV 1 hts gX8_removePoint_X8_pointAt rfl rfl rfl (by decide +kernel) ⟨Nat.le_of_ble_eq_true rfl, Nat.le_of_ble_eq_true rfl⟩) (pv_V hP hD hK hN [0, 1] rfl rfl (ci := 8) rfl 0 rfl) rfl rfl hl.1 rfl (lv_room (Nat.le_of_ble_eq_true rfl)) dX8_removePoint_26 ⟨Nat.zero_le _, Nat.zero_le _⟩) hP hD hS hA [0, 1] [2, 3] [2, 3, 0, 1] rfl rfl rfl rfl rfl rfl (fun H locs hP hD hS => ?_)
      refine lv_istore_n (lv' := [(2, .int u5), (0, .ref a_h), (1, .int p0)]) hx hb dX8_removePoint_29 rfl hl (by decide) rfl (fun ls hl => ?_)
      refine lv_aload_n hx hb dX8_removePoint_30 rfl (lv_at hl 1 rfl) ?_
      refine va_get (D := D) (ci := 8) (v := .ref a_h_d) (C := RX8) (T := TX8) (N := 14) hx hb hts in_X8_removePoint_X8 hown hK hP 0 rfl rfl 0 (by decide) (hts _ q_X8_removePoint_3) (fun _ h9 => h9) rfl dX8_removePoint_31 ?_
      refine lv_bipush (v := (10 : Int32)) hx hb dX8_removePoint_34 (by decide) ?_
      refine lv_iload_n hx hb dX8_removePoint_36 rfl (lv_at hl 0 rfl) ?_
      refine lv_iadd hx hb dX8_removePoint_37 ?_
      obtain ⟨hi6, h⟩ := gA_e h
      refine wx_iald hx hb hK hP 1 0 rfl rfl (Int32.toNatClampNeg ((10 : Int32) + u5)) rfl hi6 dX8_removePoint_38 ?_
      refine lv_iload_n hx hb dX8_removePoint_39 rfl (lv_at hl 2 rfl) ?_
      refine lv_icmp_eq (tgt := 46) hx hb dX8_removePoint_40 (by decide) (fun hc7 => ?_) (fun hc7 => ?_)
      · replace h := it_e hc7 h
        refine lv_aload_n hx hb dX8_removePoint_46 rfl (lv_at hl 1 rfl) ?_
        obtain ⟨u8, hu8, h⟩ := bd_e h
        refine kx_v (mc := 0) (ms := 0) (wr := []) (ws2 := [(a_h, .inr (8, [.ref a_h_d, .long v_account, .ref a_h_was, .ref a_h_accounts, .int u8.1, .int v_refused, .ref a_h_text, .int v_typed, .int v_at, .int v_sign, .int v_number, .ref a_h_aside, .ref a_h_places, .ref a_h_told])), (a_h_d, .inl (cI, 2086, .inl v_d_A)), (a_h_was, .inl (cI, 10430, .inl u8.2.1)), (a_h_accounts, .inl (cJ, 5, .inr (.inl u8.2.2)))]) (va_runV (As := []) (rest := []) ⟨hx, hb, hml, hown, hts⟩ (k_X8_records l D cI cC cJ cB a_h a_h_d a_h_was a_h_accounts a_h_text a_h_aside a_h_places a_h_told v_account v_states v_refused v_typed v_at v_sign v_number v_d_A v_was_A v_accounts_A N H.size _ hu8) (cwV 0 hts gX8_removePoint_X8_records rfl rfl rfl (by decide +kernel) ⟨Nat.le_of_ble_eq_true rfl, Nat.le_of_ble_eq_true rfl⟩) (pv_V hP hD hK hN [0, 1, 2, 3] rfl rfl (ci := 8) rfl 0 rfl) rfl rfl hl.1 rfl (lv_room (Nat.le_of_ble_eq_true rfl)) dX8_removePoint_47 ⟨Nat.zero_le _, Nat.zero_le _⟩) hP hD hS hA [0, 1, 2, 3] [] [0, 1, 2, 3] rfl rfl rfl rfl rfl rfl (fun H locs hP hD hS => ?_)
        refine lv_aload_n hx hb dX8_removePoint_50 rfl (lv_at hl 1 rfl) ?_
        refine va_get (D := D) (ci := 8) (v := .ref a_h_d) (C := RX8) (T := TX8) (N := 14) hx hb hts in_X8_removePoint_X8 hown hK hP 0 rfl rfl 0 (by decide) (hts _ q_X8_removePoint_3) (fun _ h9 => h9) rfl dX8_removePoint_51 ?_
        refine lv_bipush (v := (18 : Int32)) hx hb dX8_removePoint_54 (by decide) ?_
        refine lv_iload_n hx hb dX8_removePoint_56 rfl (lv_at hl 0 rfl) ?_
        refine lv_iadd hx hb dX8_removePoint_57 ?_
        obtain ⟨hi9, h⟩ := gA_e h
        refine wx_iald hx hb hK hP 1 0 rfl rfl (Int32.toNatClampNeg ((18 : Int32) + u5)) rfl hi9 dX8_removePoint_58 ?_
        refine lv_topi (fun t10 et10 => ?_)
        replace h := nm_at h et10
        refine lv_istore_n (lv' := [(3, .int t10), (2, .int u5), (0, .ref a_h), (1, .int p0)]) hx hb dX8_removePoint_59 rfl hl (by decide) rfl (fun ls hl => ?_)
        refine lv_aload_n hx hb dX8_removePoint_60 rfl (lv_at hl 2 rfl) ?_
        refine va_get (D := D) (ci := 8) (v := .ref a_h_d) (C := RX8) (T := TX8) (N := 14) hx hb hts in_X8_removePoint_X8 hown hK hP 0 rfl rfl 0 (by decide) (hts _ q_X8_removePoint_3) (fun _ h9 => h9) rfl dX8_removePoint_61 ?_
        refine lv_bipush (v := (9 : Int32)) hx hb dX8_removePoint_64 (by decide) ?_
        refine lv_dup2_11 hx hb dX8_removePoint_66 rfl rfl ?_
        refine wx_iald hx hb hK hP 1 0 rfl rfl 9 (by decide) (by unfold vp_in; decide) dX8_removePoint_67 ?_
        refine lv_iconst (v := (1 : Int32)) hx hb dX8_removePoint_68 (by decide) ?_
        refine lv_isub hx hb dX8_removePoint_69 ?_
        refine lv_topi (fun t11 et11 => ?_)
        replace h := nm_at h et11
        refine wx_iast hx hb hK hP hD hS 1 0 rfl rfl 9 (by decide) (by unfold vp_in; decide) dX8_removePoint_70 rfl (fun H locs hP hD hS => ?_)
        obtain ⟨g12, eg12, h⟩ := nm_x h
        have hP : va_P D vwCl [(a_h, .inr (8, [.ref a_h_d, .long v_account, .ref a_h_was, .ref a_h_accounts, .int u8.1, .int v_refused, .ref a_h_text, .int v_typed, .int v_at, .int v_sign, .int v_number, .ref a_h_aside, .ref a_h_places, .ref a_h_told])), (a_h_d, .inl (cI, 2086, .inl g12)), (a_h_was, .inl (cI, 10430, .inl u8.2.1)), (a_h_accounts, .inl (cJ, 5, .inr (.inl u8.2.2)))] H := by rw [eg12]; exact hP
        have hD : va_D A [(a_h, .inr (8, [.ref a_h_d, .long v_account, .ref a_h_was, .ref a_h_accounts, .int u8.1, .int v_refused, .ref a_h_text, .int v_typed, .int v_at, .int v_sign, .int v_number, .ref a_h_aside, .ref a_h_places, .ref a_h_told])), (a_h_d, .inl (cI, 2086, .inl g12)), (a_h_was, .inl (cI, 10430, .inl u8.2.1)), (a_h_accounts, .inl (cJ, 5, .inr (.inl u8.2.2)))] := by rw [eg12]; exact hD
        refine lv_iload_n hx hb dX8_removePoint_71 rfl (lv_at hl 1 rfl) ?_
        refine lv_istore (lv' := [(4, .int u5), (3, .int t10), (2, .int u5), (0, .ref a_h), (1, .int p0)]) hx hb dX8_removePoint_72 hl (by decide) rfl (fun ls hl => ?_)
        exact B74 N u5 t10 u5 u8.1 g12 u8.2.1 u8.2.2 _ _ _ h hP hD hS (lv_sub hl [3, 4, 2, 1, 0] rfl)
      · replace h := if_e hc7 h
        refine lv_ldc (v := (-2000000004 : Int32)) hx hb hown (hts _ q_X8_removePoint_4) dX8_removePoint_43 ?_
        obtain rfl := sm_e h
        exact rx_i hx hb hr  hP hK hD hS dX8_removePoint_45 hlocks
    · replace h := in_e hc4 h
      refine lv_ldc (v := (-2000000002 : Int32)) hx hb hown (hts _ q_X8_removePoint_2) dX8_removePoint_21 ?_
      obtain rfl := sm_e h
      exact rx_i hx hb hr  hP hK hD hS dX8_removePoint_23 hlocks
  · replace h := in_e hc2 h
    refine lv_ldc (v := (-2000000001 : Int32)) hx hb hown (hts _ q_X8_removePoint_1) dX8_removePoint_11 ?_
    obtain rfl := sm_e h
    exact rx_i hx hb hr  hP hK hD hS dX8_removePoint_13 hlocks
-- X8_curve
def f_X8_curve (N : Nat) (v_d_A : Nat → Int32) (p0 : Int32) (p1 : Int32) : Option (Int32) :=
  Option.bind (f_X8_in p0 (0 : Int32) (1 : Int32)) (fun u1 => (if u1 = 0 then some (-2000000001 : Int32)
    else Option.bind (f_X8_in p1 (0 : Int32) (1000 : Int32)) (fun u3 => (if u3 = 0 then some (-2000000001 : Int32)
    else Option.bind (f_X8_curveAt N v_d_A p1 (p0 + (1 : Int32))) (fun u5 => some u5)))))
theorem q_X8_curve_1 : (.constant RX8 64 (-2000000001) : Cond) ∈ wsX8_curve := List.mem_of_getElem? (i := 1) (by decide +kernel)
set_option maxHeartbeats 8000000 in
set_option maxRecDepth 100000 in
theorem k_X8_curve (l : Launch) (D : va_G) (cI cC cJ cB : ClassId) (a_h a_h_d a_h_was a_h_accounts a_h_text a_h_aside a_h_places a_h_told : Nat) (v_account : Int64) (v_states : Int32) (v_refused : Int32) (v_typed : Int32) (v_at : Int32) (v_sign : Int32) (v_number : Int32) (v_d_A : Nat → Int32) (N : Nat) (p0 : Int32) (p1 : Int32) (sz : Nat) (u : Int32) (hu : f_X8_curve N v_d_A p0 p1 = some u) :
    Met l yX8_curve wsX8_curve ({ frames := 2, cells := 0, slots := 0, locals := 52 } : Room) (va_Pc [.ref a_h, .int p0, .int p1] (PreW D (ty4 cI cC cJ cB) sz [(a_h, .inr (8, [.ref a_h_d, .long v_account, .ref a_h_was, .ref a_h_accounts, .int v_states, .int v_refused, .ref a_h_text, .int v_typed, .int v_at, .int v_sign, .int v_number, .ref a_h_aside, .ref a_h_places, .ref a_h_told])), (a_h_d, .inl (cI, 2086, .inl v_d_A))]))
      (QI D (ty4 cI cC cJ cB) (va_A [(a_h, .inr (8, [.ref a_h_d, .long v_account, .ref a_h_was, .ref a_h_accounts, .int v_states, .int v_refused, .ref a_h_text, .int v_typed, .int v_at, .int v_sign, .int v_number, .ref a_h_aside, .ref a_h_places, .ref a_h_told])), (a_h_d, .inl (cI, 2086, .inl v_d_A))] sz) [(a_h, .inr (8, [.ref a_h_d, .long v_account, .ref a_h_was, .ref a_h_accounts, .int v_states, .int v_refused, .ref a_h_text, .int v_typed, .int v_at, .int v_sign, .int v_number, .ref a_h_aside, .ref a_h_places, .ref a_h_told])), (a_h_d, .inl (cI, 2086, .inl v_d_A))] u) 0 0 (va_A [(a_h, .inr (8, [.ref a_h_d, .long v_account, .ref a_h_was, .ref a_h_accounts, .int v_states, .int v_refused, .ref a_h_text, .int v_typed, .int v_at, .int v_sign, .int v_number, .ref a_h_aside, .ref a_h_places, .ref a_h_told])), (a_h_d, .inl (cI, 2086, .inl v_d_A))] sz) := by
  refine met_go (y := yX8_curve) (wsy := wsX8_curve) (cc := cX8_curve) (maxL := 3) (ret := (some .int)) (av := [.ref a_h, .int p0, .int p1]) (Qc := fun A => QI D (ty4 cI cC cJ cB) A [(a_h, .inr (8, [.ref a_h_d, .long v_account, .ref a_h_was, .ref a_h_accounts, .int v_states, .int v_refused, .ref a_h_text, .int v_typed, .int v_at, .int v_sign, .int v_number, .ref a_h_aside, .ref a_h_places, .ref a_h_told])), (a_h_d, .inl (cI, 2086, .inl v_d_A))] u) (by decide) rfl (Nat.le_of_ble_eq_true rfl) ?_
  intro p e s m below meth c A ls hx hb hr hml hown hts hlocks hnm hN hK hP hD hS hA hl
  have h := hu
  clear hu
  unfold f_X8_curve at h
  have hl : lv_has ls 3 [(0, .ref a_h), (1, .int p0), (2, .int p1)] := hl
  refine lv_iload_n hx hb dX8_curve_0 rfl (lv_at hl 1 rfl) ?_
  refine lv_iconst (v := (0 : Int32)) hx hb dX8_curve_1 (by decide) ?_
  refine lv_iconst (v := (1 : Int32)) hx hb dX8_curve_2 (by decide) ?_
  obtain ⟨u1, hu1, h⟩ := bd_e h
  refine kx_i (mc := 0) (ms := 0) (wr := [(a_h, .inr (8, [.ref a_h_d, .long v_account, .ref a_h_was, .ref a_h_accounts, .int v_states, .int v_refused, .ref a_h_text, .int v_typed, .int v_at, .int v_sign, .int v_number, .ref a_h_aside, .ref a_h_places, .ref a_h_told])), (a_h_d, .inl (cI, 2086, .inl v_d_A))]) (ws2 := [(a_h, .inr (8, [.ref a_h_d, .long v_account, .ref a_h_was, .ref a_h_accounts, .int v_states, .int v_refused, .ref a_h_text, .int v_typed, .int v_at, .int v_sign, .int v_number, .ref a_h_aside, .ref a_h_places, .ref a_h_told])), (a_h_d, .inl (cI, 2086, .inl v_d_A))]) (va_runS (As := [.int p0, .int (0 : Int32), .int (1 : Int32)]) (rest := []) ⟨hx, hb, hml, hown, hts⟩ (k_X8_in l D cI cC cJ cB N p0 (0 : Int32) (1 : Int32) s.heap.size _ hu1) (va_cwS 3 hts gX8_curve_X8_in rfl rfl rfl (by decide +kernel) ⟨Nat.le_of_ble_eq_true rfl, Nat.le_of_ble_eq_true rfl⟩) (pv_S hP hD hK hN [] rfl rfl) rfl rfl hl.1 rfl (lv_room (Nat.le_of_ble_eq_true rfl)) dX8_curve_3 ⟨Nat.zero_le _, Nat.zero_le _⟩) hP hD hS hA [] [0, 1] [0, 1] rfl rfl rfl rfl rfl rfl (fun H locs hP hD hS => ?_)
  refine lv_if_eq (tgt := 31) hx hb dX8_curve_6 (by decide) (fun hc2 => ?_) (fun hc2 => ?_)
  · replace h := it_e hc2 h
    refine lv_ldc (v := (-2000000001 : Int32)) hx hb hown (hts _ q_X8_curve_1) dX8_curve_31 ?_
    obtain rfl := sm_e h
    exact rx_i hx hb hr  hP hK hD hS dX8_curve_33 hlocks
  · replace h := if_e hc2 h
    refine lv_iload_n hx hb dX8_curve_9 rfl (lv_at hl 2 rfl) ?_
    refine lv_iconst (v := (0 : Int32)) hx hb dX8_curve_10 (by decide) ?_
    refine lv_sipush (v := (1000 : Int32)) hx hb dX8_curve_11 (by decide) ?_
    obtain ⟨u3, hu3, h⟩ := bd_e h
    refine kx_i (mc := 0) (ms := 0) (wr := [(a_h, .inr (8, [.ref a_h_d, .long v_account, .ref a_h_was, .ref a_h_accounts, .int v_states, .int v_refused, .ref a_h_text, .int v_typed, .int v_at, .int v_sign, .int v_number, .ref a_h_aside, .ref a_h_places, .ref a_h_told])), (a_h_d, .inl (cI, 2086, .inl v_d_A))]) (ws2 := [(a_h, .inr (8, [.ref a_h_d, .long v_account, .ref a_h_was, .ref a_h_accounts, .int v_states, .int v_refused, .ref a_h_text, .int v_typed, .int v_at, .int v_sign, .int v_number, .ref a_h_aside, .ref a_h_places, .ref a_h_told])), (a_h_d, .inl (cI, 2086, .inl v_d_A))]) (va_runS (As := [.int p1, .int (0 : Int32), .int (1000 : Int32)]) (rest := []) ⟨hx, hb, hml, hown, hts⟩ (k_X8_in l D cI cC cJ cB N p1 (0 : Int32) (1000 : Int32) H.size _ hu3) (va_cwS 3 hts gX8_curve_X8_in rfl rfl rfl (by decide +kernel) ⟨Nat.le_of_ble_eq_true rfl, Nat.le_of_ble_eq_true rfl⟩) (pv_S hP hD hK hN [] rfl rfl) rfl rfl hl.1 rfl (lv_room (Nat.le_of_ble_eq_true rfl)) dX8_curve_14 ⟨Nat.zero_le _, Nat.zero_le _⟩) hP hD hS hA [] [0, 1] [0, 1] rfl rfl rfl rfl rfl rfl (fun H locs hP hD hS => ?_)
    refine lv_if_eq (tgt := 31) hx hb dX8_curve_17 (by decide) (fun hc4 => ?_) (fun hc4 => ?_)
    · replace h := it_e hc4 h
      refine lv_ldc (v := (-2000000001 : Int32)) hx hb hown (hts _ q_X8_curve_1) dX8_curve_31 ?_
      obtain rfl := sm_e h
      exact rx_i hx hb hr  hP hK hD hS dX8_curve_33 hlocks
    · replace h := if_e hc4 h
      refine lv_aload_n hx hb dX8_curve_20 rfl (lv_at hl 0 rfl) ?_
      refine lv_iload_n hx hb dX8_curve_21 rfl (lv_at hl 2 rfl) ?_
      refine lv_iload_n hx hb dX8_curve_22 rfl (lv_at hl 1 rfl) ?_
      refine lv_iconst (v := (1 : Int32)) hx hb dX8_curve_23 (by decide) ?_
      refine lv_iadd hx hb dX8_curve_24 ?_
      obtain ⟨u5, hu5, h⟩ := bd_e h
      refine kx_i (mc := 0) (ms := 0) (wr := []) (ws2 := [(a_h, .inr (8, [.ref a_h_d, .long v_account, .ref a_h_was, .ref a_h_accounts, .int v_states, .int v_refused, .ref a_h_text, .int v_typed, .int v_at, .int v_sign, .int v_number, .ref a_h_aside, .ref a_h_places, .ref a_h_told])), (a_h_d, .inl (cI, 2086, .inl v_d_A))]) (va_runV (As := [.int p1, .int (p0 + (1 : Int32))]) (rest := []) ⟨hx, hb, hml, hown, hts⟩ (k_X8_curveAt l D cI cC cJ cB a_h a_h_d a_h_was a_h_accounts a_h_text a_h_aside a_h_places a_h_told v_account v_states v_refused v_typed v_at v_sign v_number v_d_A N p1 (p0 + (1 : Int32)) H.size _ hu5) (cwV 2 hts gX8_curve_X8_curveAt rfl rfl rfl (by decide +kernel) ⟨Nat.le_of_ble_eq_true rfl, Nat.le_of_ble_eq_true rfl⟩) (pv_V hP hD hK hN [0, 1] rfl rfl (ci := 8) rfl 0 rfl) rfl rfl hl.1 rfl (lv_room (Nat.le_of_ble_eq_true rfl)) dX8_curve_25 ⟨Nat.zero_le _, Nat.zero_le _⟩) hP hD hS hA [0, 1] [] [0, 1] rfl rfl rfl rfl rfl rfl (fun H locs hP hD hS => ?_)
      refine lv_goto (tgt := 33) hx hb dX8_curve_28 (by decide) ?_
      obtain rfl := sm_e h
      exact rx_i hx hb hr  hP hK hD hS dX8_curve_33 hlocks
-- X8_setBreak
def f_X8_setBreak_b190 (p0 : Int32) (p1 : Int32) (x3 : Int32) (m_states : Int32) (m_was_A : Nat → Int32) (m_accounts_A : Nat → Int64) : Nat → Int32 → (Nat → Int32) → Option (Int32 × Int32 × (Nat → Int32) × (Nat → Int32) × (Nat → Int64))
  | 0, _, _ => none
  | k + 1, x6, m_d_A =>
    (if x6 ≤ x3 then nm ((m_d_A 26) + (1 : Int32)) (fun t19 => nm (upd m_d_A 26 t19) (fun g20 => gA ((27 : Int32) + x3) 2086 (nm (upd g20 (Int32.toNatClampNeg ((27 : Int32) + x3)) p0) (fun g22 => gA ((34 : Int32) + x3) 2086 (nm (upd g22 (Int32.toNatClampNeg ((34 : Int32) + x3)) p1) (fun g24 => some ((g24 26), m_states, g24, m_was_A, m_accounts_A)))))))
    else gA (((27 : Int32) + x6) - (1 : Int32)) 2086 (nm (m_d_A (Int32.toNatClampNeg (((27 : Int32) + x6) - (1 : Int32)))) (fun t26 => gA ((27 : Int32) + x6) 2086 (nm (upd m_d_A (Int32.toNatClampNeg ((27 : Int32) + x6)) t26) (fun g28 => gA (((34 : Int32) + x6) - (1 : Int32)) 2086 (nm (g28 (Int32.toNatClampNeg (((34 : Int32) + x6) - (1 : Int32)))) (fun t30 => gA ((34 : Int32) + x6) 2086 (nm (upd g28 (Int32.toNatClampNeg ((34 : Int32) + x6)) t30) (fun g32 => nm (x6 + (-1 : Int32)) (fun t33 => (f_X8_setBreak_b190 p0 p1 x3 m_states m_was_A m_accounts_A k t33 g32)))))))))))
def f_X8_setBreak_b172 (N : Nat) (v_account : Int64) (p0 : Int32) (p1 : Int32) (x3 : Int32) (x4 : Int32) (m_states : Int32) (m_d_A : Nat → Int32) (m_was_A : Nat → Int32) (m_accounts_A : Nat → Int64) : Option (Int32 × Int32 × (Nat → Int32) × (Nat → Int32) × (Nat → Int64)) :=
  Option.bind (f_X8_records N v_account m_states m_d_A m_was_A m_accounts_A) (fun u11 => (if ¬ x4 = 0 then gA ((27 : Int32) + x3) 2086 (nm (upd m_d_A (Int32.toNatClampNeg ((27 : Int32) + x3)) p0) (fun g14 => gA ((34 : Int32) + x3) 2086 (nm (upd g14 (Int32.toNatClampNeg ((34 : Int32) + x3)) p1) (fun g16 => some ((g16 26), u11.1, g16, u11.2.1, u11.2.2)))))
    else nm (m_d_A 26) (fun t17 => (f_X8_setBreak_b190 p0 p1 x3 u11.1 u11.2.1 u11.2.2 N t17 m_d_A))))
def f_X8_setBreak_b152 (N : Nat) (v_account : Int64) (p0 : Int32) (p1 : Int32) (x3 : Int32) (x4 : Int32) (m_states : Int32) (m_d_A : Nat → Int32) (m_was_A : Nat → Int32) (m_accounts_A : Nat → Int64) : Option (Int32 × Int32 × (Nat → Int32) × (Nat → Int32) × (Nat → Int64)) :=
  (if ¬ x4 = 0 then (f_X8_setBreak_b172 N v_account p0 p1 x3 x4 m_states m_d_A m_was_A m_accounts_A )
    else (if ¬ (m_d_A 26) = (6 : Int32) then (f_X8_setBreak_b172 N v_account p0 p1 x3 x4 m_states m_d_A m_was_A m_accounts_A )
    else some ((-2000000003 : Int32), m_states, m_d_A, m_was_A, m_accounts_A)))
def f_X8_setBreak_b123 (N : Nat) (v_account : Int64) (p0 : Int32) (p1 : Int32) (x3 : Int32) (x4 : Int32) (x5 : Int32) (m_states : Int32) (m_d_A : Nat → Int32) (m_was_A : Nat → Int32) (m_accounts_A : Nat → Int64) : Option (Int32 × Int32 × (Nat → Int32) × (Nat → Int32) × (Nat → Int64)) :=
  (if (m_d_A 26) ≤ x5 then (f_X8_setBreak_b152 N v_account p0 p1 x3 x4 m_states m_d_A m_was_A m_accounts_A )
    else gA ((34 : Int32) + x5) 2086 ((if p1 < (m_d_A (Int32.toNatClampNeg ((34 : Int32) + x5))) then (f_X8_setBreak_b152 N v_account p0 p1 x3 x4 m_states m_d_A m_was_A m_accounts_A )
    else some ((-2000000002 : Int32), m_states, m_d_A, m_was_A, m_accounts_A))))
def f_X8_setBreak_b102 (N : Nat) (v_account : Int64) (p0 : Int32) (p1 : Int32) (x3 : Int32) (x4 : Int32) (s0 : Int32) (m_states : Int32) (m_d_A : Nat → Int32) (m_was_A : Nat → Int32) (m_accounts_A : Nat → Int64) : Option (Int32 × Int32 × (Nat → Int32) × (Nat → Int32) × (Nat → Int64)) :=
  (if x3 ≤ 0 then (f_X8_setBreak_b123 N v_account p0 p1 x3 x4 s0 m_states m_d_A m_was_A m_accounts_A )
    else gA (((34 : Int32) + x3) - (1 : Int32)) 2086 ((if p1 ≤ (m_d_A (Int32.toNatClampNeg (((34 : Int32) + x3) - (1 : Int32)))) then some ((-2000000002 : Int32), m_states, m_d_A, m_was_A, m_accounts_A)
    else (f_X8_setBreak_b123 N v_account p0 p1 x3 x4 s0 m_states m_d_A m_was_A m_accounts_A ))))
def f_X8_setBreak_b88 (N : Nat) (v_account : Int64) (p0 : Int32) (p1 : Int32) (x3 : Int32) (s0 : Int32) (m_states : Int32) (m_d_A : Nat → Int32) (m_was_A : Nat → Int32) (m_accounts_A : Nat → Int64) : Option (Int32 × Int32 × (Nat → Int32) × (Nat → Int32) × (Nat → Int64)) :=
  (if s0 = 0 then (f_X8_setBreak_b102 N v_account p0 p1 x3 s0 x3 m_states m_d_A m_was_A m_accounts_A )
    else (f_X8_setBreak_b102 N v_account p0 p1 x3 s0 (x3 + (1 : Int32)) m_states m_d_A m_was_A m_accounts_A ))
def f_X8_setBreak_b87 (N : Nat) (v_account : Int64) (p0 : Int32) (p1 : Int32) (x3 : Int32) (m_states : Int32) (m_d_A : Nat → Int32) (m_was_A : Nat → Int32) (m_accounts_A : Nat → Int64) : Option (Int32 × Int32 × (Nat → Int32) × (Nat → Int32) × (Nat → Int64)) :=
  (f_X8_setBreak_b88 N v_account p0 p1 x3 (0 : Int32) m_states m_d_A m_was_A m_accounts_A )
def f_X8_setBreak_b59 (N : Nat) (v_account : Int64) (p0 : Int32) (p1 : Int32) (x3 : Int32) (m_states : Int32) (m_d_A : Nat → Int32) (m_was_A : Nat → Int32) (m_accounts_A : Nat → Int64) : Option (Int32 × Int32 × (Nat → Int32) × (Nat → Int32) × (Nat → Int64)) :=
  (if (m_d_A 26) ≤ x3 then (f_X8_setBreak_b87 N v_account p0 p1 x3 m_states m_d_A m_was_A m_accounts_A )
    else gA ((27 : Int32) + x3) 2086 ((if ¬ (m_d_A (Int32.toNatClampNeg ((27 : Int32) + x3))) = p0 then (f_X8_setBreak_b87 N v_account p0 p1 x3 m_states m_d_A m_was_A m_accounts_A )
    else (f_X8_setBreak_b88 N v_account p0 p1 x3 (1 : Int32) m_states m_d_A m_was_A m_accounts_A ))))
def f_X8_setBreak_b29 (N : Nat) (v_account : Int64) (p0 : Int32) (p1 : Int32) (m_states : Int32) (m_d_A : Nat → Int32) (m_was_A : Nat → Int32) (m_accounts_A : Nat → Int64) : Nat → Int32 → Option (Int32 × Int32 × (Nat → Int32) × (Nat → Int32) × (Nat → Int64))
  | 0, _ => none
  | k + 1, x3 =>
    (if (m_d_A 26) ≤ x3 then (f_X8_setBreak_b59 N v_account p0 p1 x3 m_states m_d_A m_was_A m_accounts_A )
    else gA ((27 : Int32) + x3) 2086 ((if p0 ≤ (m_d_A (Int32.toNatClampNeg ((27 : Int32) + x3))) then (f_X8_setBreak_b59 N v_account p0 p1 x3 m_states m_d_A m_was_A m_accounts_A )
    else nm (x3 + (1 : Int32)) (fun t43 => (f_X8_setBreak_b29 N v_account p0 p1 m_states m_d_A m_was_A m_accounts_A k t43)))))
def f_X8_setBreak (N : Nat) (v_account : Int64) (v_states : Int32) (v_d_A : Nat → Int32) (v_was_A : Nat → Int32) (v_accounts_A : Nat → Int64) (p0 : Int32) (p1 : Int32) : Option (Int32 × Int32 × (Nat → Int32) × (Nat → Int32) × (Nat → Int64)) :=
  Option.bind (f_X8_in p0 (-1000 : Int32) (30000 : Int32)) (fun u1 => (if u1 = 0 then some ((-2000000001 : Int32), v_states, v_d_A, v_was_A, v_accounts_A)
    else Option.bind (f_X8_in p1 (0 : Int32) (1000 : Int32)) (fun u3 => (if ¬ u3 = 0 then (f_X8_setBreak_b29 N v_account p0 p1 v_states v_d_A v_was_A v_accounts_A N (0 : Int32))
    else some ((-2000000001 : Int32), v_states, v_d_A, v_was_A, v_accounts_A)))))
theorem q_X8_setBreak_1 : (.constant RX8 64 (-2000000001) : Cond) ∈ wsX8_setBreak := List.mem_of_getElem? (i := 1) (by decide +kernel)
theorem q_X8_setBreak_2 : (.fieldLink RX8 7 "SpringBalanceModel" "d" "[I" : Cond) ∈ wsX8_setBreak := List.mem_of_getElem? (i := 2) (by decide +kernel)
set_option maxRecDepth 20000 in
theorem in_X8_setBreak_X8 : ∀ w ∈ u_ws RX8 TX8 14, w ∈ wsX8_setBreak := by decide +kernel
theorem q_X8_setBreak_4 : (.constant RX8 104 (-2000000003) : Cond) ∈ wsX8_setBreak := List.mem_of_getElem? (i := 4) (by decide +kernel)
theorem q_X8_setBreak_3 : (.constant RX8 69 (-2000000002) : Cond) ∈ wsX8_setBreak := List.mem_of_getElem? (i := 3) (by decide +kernel)
set_option maxHeartbeats 8000000 in
set_option maxRecDepth 100000 in
theorem k_X8_setBreak (l : Launch) (D : va_G) (cI cC cJ cB : ClassId) (a_h a_h_d a_h_was a_h_accounts a_h_text a_h_aside a_h_places a_h_told : Nat) (v_account : Int64) (v_states : Int32) (v_refused : Int32) (v_typed : Int32) (v_at : Int32) (v_sign : Int32) (v_number : Int32) (v_d_A : Nat → Int32) (v_was_A : Nat → Int32) (v_accounts_A : Nat → Int64) (N : Nat) (p0 : Int32) (p1 : Int32) (sz : Nat) (u : Int32 × Int32 × (Nat → Int32) × (Nat → Int32) × (Nat → Int64)) (hu : f_X8_setBreak N v_account v_states v_d_A v_was_A v_accounts_A p0 p1 = some u) :
    Met l yX8_setBreak wsX8_setBreak ({ frames := 1, cells := 0, slots := 0, locals := 22 } : Room) (va_Pc [.ref a_h, .int p0, .int p1] (PreW D (ty4 cI cC cJ cB) sz [(a_h, .inr (8, [.ref a_h_d, .long v_account, .ref a_h_was, .ref a_h_accounts, .int v_states, .int v_refused, .ref a_h_text, .int v_typed, .int v_at, .int v_sign, .int v_number, .ref a_h_aside, .ref a_h_places, .ref a_h_told])), (a_h_d, .inl (cI, 2086, .inl v_d_A)), (a_h_was, .inl (cI, 10430, .inl v_was_A)), (a_h_accounts, .inl (cJ, 5, .inr (.inl v_accounts_A)))]))
      (QI D (ty4 cI cC cJ cB) (va_A [(a_h, .inr (8, [.ref a_h_d, .long v_account, .ref a_h_was, .ref a_h_accounts, .int v_states, .int v_refused, .ref a_h_text, .int v_typed, .int v_at, .int v_sign, .int v_number, .ref a_h_aside, .ref a_h_places, .ref a_h_told])), (a_h_d, .inl (cI, 2086, .inl v_d_A)), (a_h_was, .inl (cI, 10430, .inl v_was_A)), (a_h_accounts, .inl (cJ, 5, .inr (.inl v_accounts_A)))] sz) [(a_h, .inr (8, [.ref a_h_d, .long v_account, .ref a_h_was, .ref a_h_accounts, .int u.2.1, .int v_refused, .ref a_h_text, .int v_typed, .int v_at, .int v_sign, .int v_number, .ref a_h_aside, .ref a_h_places, .ref a_h_told])), (a_h_d, .inl (cI, 2086, .inl u.2.2.1)), (a_h_was, .inl (cI, 10430, .inl u.2.2.2.1)), (a_h_accounts, .inl (cJ, 5, .inr (.inl u.2.2.2.2)))] u.1) 0 0 (va_A [(a_h, .inr (8, [.ref a_h_d, .long v_account, .ref a_h_was, .ref a_h_accounts, .int v_states, .int v_refused, .ref a_h_text, .int v_typed, .int v_at, .int v_sign, .int v_number, .ref a_h_aside, .ref a_h_places, .ref a_h_told])), (a_h_d, .inl (cI, 2086, .inl v_d_A)), (a_h_was, .inl (cI, 10430, .inl v_was_A)), (a_h_accounts, .inl (cJ, 5, .inr (.inl v_accounts_A)))] sz) := by
  refine met_go (y := yX8_setBreak) (wsy := wsX8_setBreak) (cc := cX8_setBreak) (maxL := 7) (ret := (some .int)) (av := [.ref a_h, .int p0, .int p1]) (Qc := fun A => QI D (ty4 cI cC cJ cB) A [(a_h, .inr (8, [.ref a_h_d, .long v_account, .ref a_h_was, .ref a_h_accounts, .int u.2.1, .int v_refused, .ref a_h_text, .int v_typed, .int v_at, .int v_sign, .int v_number, .ref a_h_aside, .ref a_h_places, .ref a_h_told])), (a_h_d, .inl (cI, 2086, .inl u.2.2.1)), (a_h_was, .inl (cI, 10430, .inl u.2.2.2.1)), (a_h_accounts, .inl (cJ, 5, .inr (.inl u.2.2.2.2)))] u.1) (by decide) rfl (Nat.le_of_ble_eq_true rfl) ?_
  intro p e s m below meth c A ls hx hb hr hml hown hts hlocks hnm hN hK hP hD hS hA hl
  have h := hu
  clear hu
  unfold f_X8_setBreak at h
  have hl : lv_has ls 7 [(0, .ref a_h), (1, .int p0), (2, .int p1)] := hl
  have B190 : ∀ (k : Nat) (x3 : Int32) (x4 : Int32) (x5 : Int32) (x6 : Int32) (m_states : Int32) (m_d_A : Nat → Int32) (m_was_A : Nat → Int32) (m_accounts_A : Nat → Int64) (H : Heap) (locs : List Loc) (ls : Array Slot), f_X8_setBreak_b190 p0 p1 x3 m_states m_was_A m_accounts_A k x6 m_d_A = some u → va_P D vwCl [(a_h, .inr (8, [.ref a_h_d, .long v_account, .ref a_h_was, .ref a_h_accounts, .int m_states, .int v_refused, .ref a_h_text, .int v_typed, .int v_at, .int v_sign, .int v_number, .ref a_h_aside, .ref a_h_places, .ref a_h_told])), (a_h_d, .inl (cI, 2086, .inl m_d_A)), (a_h_was, .inl (cI, 10430, .inl m_was_A)), (a_h_accounts, .inl (cJ, 5, .inr (.inl m_accounts_A)))] H → va_D A [(a_h, .inr (8, [.ref a_h_d, .long v_account, .ref a_h_was, .ref a_h_accounts, .int m_states, .int v_refused, .ref a_h_text, .int v_typed, .int v_at, .int v_sign, .int v_number, .ref a_h_aside, .ref a_h_places, .ref a_h_told])), (a_h_d, .inl (cI, 2086, .inl m_d_A)), (a_h_was, .inl (cI, 10430, .inl m_was_A)), (a_h_accounts, .inl (cJ, 5, .inr (.inl m_accounts_A)))] → va_S A s.heap H locs → lv_has ls 7 [(0, .ref a_h), (1, .int p0), (2, .int p1), (3, .int x3), (4, .int x4), (5, .int x5), (6, .int x6)] → W p l e ({ frames := 1, cells := 0, slots := 0, locals := 22 } : Room) s m ([.ref a_h, .int p0, .int p1] : List Value).toArray below meth c H locs 0 0 (MQ below (QI D (ty4 cI cC cJ cB) A [(a_h, .inr (8, [.ref a_h_d, .long v_account, .ref a_h_was, .ref a_h_accounts, .int u.2.1, .int v_refused, .ref a_h_text, .int v_typed, .int v_at, .int v_sign, .int v_number, .ref a_h_aside, .ref a_h_places, .ref a_h_told])), (a_h_d, .inl (cI, 2086, .inl u.2.2.1)), (a_h_was, .inl (cI, 10430, .inl u.2.2.2.1)), (a_h_accounts, .inl (cJ, 5, .inr (.inl u.2.2.2.2)))] u.1) ([.ref a_h, .int p0, .int p1] : List Value).toArray s 0 0 A) (F0 m 190 ls []) := by
    intro k
    induction k with
    | zero =>
      intro x3 x4 x5 x6 m_states m_d_A m_was_A m_accounts_A H locs ls h
      exact nomatch (show (none : Option (Int32 × Int32 × (Nat → Int32) × (Nat → Int32) × (Nat → Int64))) = some u from h)
    | succ k ih =>
      intro x3 x4 x5 x6 m_states m_d_A m_was_A m_accounts_A H locs ls h hP hD hS hl
      rw [f_X8_setBreak_b190.eq_2] at h
      refine lv_iload hx hb dX8_setBreak_190 (lv_at hl 6 rfl) ?_
      refine lv_iload_n hx hb dX8_setBreak_192 rfl (lv_at hl 3 rfl) ?_
      refine lv_icmp_le (tgt := 246) hx hb dX8_setBreak_193 (by decide) (fun hc18 => ?_) (fun hc18 => ?_)
      · replace h := it_e hc18 h
        refine lv_aload_n hx hb dX8_setBreak_246 rfl (lv_at hl 0 rfl) ?_
        refine va_get (D := D) (ci := 8) (v := .ref a_h_d) (C := RX8) (T := TX8) (N := 14) hx hb hts in_X8_setBreak_X8 hown hK hP 0 rfl rfl 0 (by decide) (hts _ q_X8_setBreak_2) (fun _ h9 => h9) rfl dX8_setBreak_247 ?_
        refine lv_bipush (v := (26 : Int32)) hx hb dX8_setBreak_250 (by decide) ?_
        refine lv_dup2_11 hx hb dX8_setBreak_252 rfl rfl ?_
        refine wx_iald hx hb hK hP 1 0 rfl rfl 26 (by decide) (by unfold vp_in; decide) dX8_setBreak_253 ?_
        refine lv_iconst (v := (1 : Int32)) hx hb dX8_setBreak_254 (by decide) ?_
        refine lv_iadd hx hb dX8_setBreak_255 ?_
        refine lv_topi (fun t19 et19 => ?_)
        replace h := nm_at h et19
        refine wx_iast hx hb hK hP hD hS 1 0 rfl rfl 26 (by decide) (by unfold vp_in; decide) dX8_setBreak_256 rfl (fun H locs hP hD hS => ?_)
        obtain ⟨g20, eg20, h⟩ := nm_x h
        have hP : va_P D vwCl [(a_h, .inr (8, [.ref a_h_d, .long v_account, .ref a_h_was, .ref a_h_accounts, .int m_states, .int v_refused, .ref a_h_text, .int v_typed, .int v_at, .int v_sign, .int v_number, .ref a_h_aside, .ref a_h_places, .ref a_h_told])), (a_h_d, .inl (cI, 2086, .inl g20)), (a_h_was, .inl (cI, 10430, .inl m_was_A)), (a_h_accounts, .inl (cJ, 5, .inr (.inl m_accounts_A)))] H := by rw [eg20]; exact hP
        have hD : va_D A [(a_h, .inr (8, [.ref a_h_d, .long v_account, .ref a_h_was, .ref a_h_accounts, .int m_states, .int v_refused, .ref a_h_text, .int v_typed, .int v_at, .int v_sign, .int v_number, .ref a_h_aside, .ref a_h_places, .ref a_h_told])), (a_h_d, .inl (cI, 2086, .inl g20)), (a_h_was, .inl (cI, 10430, .inl m_was_A)), (a_h_accounts, .inl (cJ, 5, .inr (.inl m_accounts_A)))] := by rw [eg20]; exact hD
        refine lv_aload_n hx hb dX8_setBreak_257 rfl (lv_at hl 0 rfl) ?_
        refine va_get (D := D) (ci := 8) (v := .ref a_h_d) (C := RX8) (T := TX8) (N := 14) hx hb hts in_X8_setBreak_X8 hown hK hP 0 rfl rfl 0 (by decide) (hts _ q_X8_setBreak_2) (fun _ h9 => h9) rfl dX8_setBreak_258 ?_
        refine lv_bipush (v := (27 : Int32)) hx hb dX8_setBreak_261 (by decide) ?_
        refine lv_iload_n hx hb dX8_setBreak_263 rfl (lv_at hl 3 rfl) ?_
        refine lv_iadd hx hb dX8_setBreak_264 ?_
        refine lv_iload_n hx hb dX8_setBreak_265 rfl (lv_at hl 1 rfl) ?_
        obtain ⟨hi21, h⟩ := gA_e h
        refine wx_iast hx hb hK hP hD hS 1 0 rfl rfl (Int32.toNatClampNeg ((27 : Int32) + x3)) rfl hi21 dX8_setBreak_266 rfl (fun H locs hP hD hS => ?_)
        obtain ⟨g22, eg22, h⟩ := nm_x h
        have hP : va_P D vwCl [(a_h, .inr (8, [.ref a_h_d, .long v_account, .ref a_h_was, .ref a_h_accounts, .int m_states, .int v_refused, .ref a_h_text, .int v_typed, .int v_at, .int v_sign, .int v_number, .ref a_h_aside, .ref a_h_places, .ref a_h_told])), (a_h_d, .inl (cI, 2086, .inl g22)), (a_h_was, .inl (cI, 10430, .inl m_was_A)), (a_h_accounts, .inl (cJ, 5, .inr (.inl m_accounts_A)))] H := by rw [eg22]; exact hP
        have hD : va_D A [(a_h, .inr (8, [.ref a_h_d, .long v_account, .ref a_h_was, .ref a_h_accounts, .int m_states, .int v_refused, .ref a_h_text, .int v_typed, .int v_at, .int v_sign, .int v_number, .ref a_h_aside, .ref a_h_places, .ref a_h_told])), (a_h_d, .inl (cI, 2086, .inl g22)), (a_h_was, .inl (cI, 10430, .inl m_was_A)), (a_h_accounts, .inl (cJ, 5, .inr (.inl m_accounts_A)))] := by rw [eg22]; exact hD
        refine lv_aload_n hx hb dX8_setBreak_267 rfl (lv_at hl 0 rfl) ?_
        refine va_get (D := D) (ci := 8) (v := .ref a_h_d) (C := RX8) (T := TX8) (N := 14) hx hb hts in_X8_setBreak_X8 hown hK hP 0 rfl rfl 0 (by decide) (hts _ q_X8_setBreak_2) (fun _ h9 => h9) rfl dX8_setBreak_268 ?_
        refine lv_bipush (v := (34 : Int32)) hx hb dX8_setBreak_271 (by decide) ?_
        refine lv_iload_n hx hb dX8_setBreak_273 rfl (lv_at hl 3 rfl) ?_
        refine lv_iadd hx hb dX8_setBreak_274 ?_
        refine lv_iload_n hx hb dX8_setBreak_275 rfl (lv_at hl 2 rfl) ?_
        obtain ⟨hi23, h⟩ := gA_e h
        refine wx_iast hx hb hK hP hD hS 1 0 rfl rfl (Int32.toNatClampNeg ((34 : Int32) + x3)) rfl hi23 dX8_setBreak_276 rfl (fun H locs hP hD hS => ?_)
        obtain ⟨g24, eg24, h⟩ := nm_x h
        have hP : va_P D vwCl [(a_h, .inr (8, [.ref a_h_d, .long v_account, .ref a_h_was, .ref a_h_accounts, .int m_states, .int v_refused, .ref a_h_text, .int v_typed, .int v_at, .int v_sign, .int v_number, .ref a_h_aside, .ref a_h_places, .ref a_h_told])), (a_h_d, .inl (cI, 2086, .inl g24)), (a_h_was, .inl (cI, 10430, .inl m_was_A)), (a_h_accounts, .inl (cJ, 5, .inr (.inl m_accounts_A)))] H := by rw [eg24]; exact hP
        have hD : va_D A [(a_h, .inr (8, [.ref a_h_d, .long v_account, .ref a_h_was, .ref a_h_accounts, .int m_states, .int v_refused, .ref a_h_text, .int v_typed, .int v_at, .int v_sign, .int v_number, .ref a_h_aside, .ref a_h_places, .ref a_h_told])), (a_h_d, .inl (cI, 2086, .inl g24)), (a_h_was, .inl (cI, 10430, .inl m_was_A)), (a_h_accounts, .inl (cJ, 5, .inr (.inl m_accounts_A)))] := by rw [eg24]; exact hD
        refine lv_aload_n hx hb dX8_setBreak_277 rfl (lv_at hl 0 rfl) ?_
        refine va_get (D := D) (ci := 8) (v := .ref a_h_d) (C := RX8) (T := TX8) (N := 14) hx hb hts in_X8_setBreak_X8 hown hK hP 0 rfl rfl 0 (by decide) (hts _ q_X8_setBreak_2) (fun _ h9 => h9) rfl dX8_setBreak_278 ?_
        refine lv_bipush (v := (26 : Int32)) hx hb dX8_setBreak_281 (by decide) ?_
        refine wx_iald hx hb hK hP 1 0 rfl rfl 26 (by decide) (by unfold vp_in; decide) dX8_setBreak_283 ?_
        obtain rfl := sm_e h
        exact rx_i hx hb hr  hP hK hD hS dX8_setBreak_284 hlocks
      · replace h := if_e hc18 h
        refine lv_aload_n hx hb dX8_setBreak_196 rfl (lv_at hl 0 rfl) ?_
        refine va_get (D := D) (ci := 8) (v := .ref a_h_d) (C := RX8) (T := TX8) (N := 14) hx hb hts in_X8_setBreak_X8 hown hK hP 0 rfl rfl 0 (by decide) (hts _ q_X8_setBreak_2) (fun _ h9 => h9) rfl dX8_setBreak_197 ?_
        refine lv_bipush (v := (27 : Int32)) hx hb dX8_setBreak_200 (by decide) ?_
        refine lv_iload hx hb dX8_setBreak_202 (lv_at hl 6 rfl) ?_
        refine lv_iadd hx hb dX8_setBreak_204 ?_
        refine lv_aload_n hx hb dX8_setBreak_205 rfl (lv_at hl 0 rfl) ?_
        refine va_get (D := D) (ci := 8) (v := .ref a_h_d) (C := RX8) (T := TX8) (N := 14) hx hb hts in_X8_setBreak_X8 hown hK hP 0 rfl rfl 0 (by decide) (hts _ q_X8_setBreak_2) (fun _ h9 => h9) rfl dX8_setBreak_206 ?_
        refine lv_bipush (v := (27 : Int32)) hx hb dX8_setBreak_209 (by decide) ?_
        refine lv_iload hx hb dX8_setBreak_211 (lv_at hl 6 rfl) ?_
        refine lv_iadd hx hb dX8_setBreak_213 ?_
        refine lv_iconst (v := (1 : Int32)) hx hb dX8_setBreak_214 (by decide) ?_
        refine lv_isub hx hb dX8_setBreak_215 ?_
        obtain ⟨hi25, h⟩ := gA_e h
        refine wx_iald hx hb hK hP 1 0 rfl rfl (Int32.toNatClampNeg (((27 : Int32) + x6) - (1 : Int32))) rfl hi25 dX8_setBreak_216 ?_
        refine lv_topi (fun t26 et26 => ?_)
        replace h := nm_at h et26
        obtain ⟨hi27, h⟩ := gA_e h
        refine wx_iast hx hb hK hP hD hS 1 0 rfl rfl (Int32.toNatClampNeg ((27 : Int32) + x6)) rfl hi27 dX8_setBreak_217 rfl (fun H locs hP hD hS => ?_)
        obtain ⟨g28, eg28, h⟩ := nm_x h
        have hP : va_P D vwCl [(a_h, .inr (8, [.ref a_h_d, .long v_account, .ref a_h_was, .ref a_h_accounts, .int m_states, .int v_refused, .ref a_h_text, .int v_typed, .int v_at, .int v_sign, .int v_number, .ref a_h_aside, .ref a_h_places, .ref a_h_told])), (a_h_d, .inl (cI, 2086, .inl g28)), (a_h_was, .inl (cI, 10430, .inl m_was_A)), (a_h_accounts, .inl (cJ, 5, .inr (.inl m_accounts_A)))] H := by rw [eg28]; exact hP
        have hD : va_D A [(a_h, .inr (8, [.ref a_h_d, .long v_account, .ref a_h_was, .ref a_h_accounts, .int m_states, .int v_refused, .ref a_h_text, .int v_typed, .int v_at, .int v_sign, .int v_number, .ref a_h_aside, .ref a_h_places, .ref a_h_told])), (a_h_d, .inl (cI, 2086, .inl g28)), (a_h_was, .inl (cI, 10430, .inl m_was_A)), (a_h_accounts, .inl (cJ, 5, .inr (.inl m_accounts_A)))] := by rw [eg28]; exact hD
        refine lv_aload_n hx hb dX8_setBreak_218 rfl (lv_at hl 0 rfl) ?_
        refine va_get (D := D) (ci := 8) (v := .ref a_h_d) (C := RX8) (T := TX8) (N := 14) hx hb hts in_X8_setBreak_X8 hown hK hP 0 rfl rfl 0 (by decide) (hts _ q_X8_setBreak_2) (fun _ h9 => h9) rfl dX8_setBreak_219 ?_
        refine lv_bipush (v := (34 : Int32)) hx hb dX8_setBreak_222 (by decide) ?_
        refine lv_iload hx hb dX8_setBreak_224 (lv_at hl 6 rfl) ?_
        refine lv_iadd hx hb dX8_setBreak_226 ?_
        refine lv_aload_n hx hb dX8_setBreak_227 rfl (lv_at hl 0 rfl) ?_
        refine va_get (D := D) (ci := 8) (v := .ref a_h_d) (C := RX8) (T := TX8) (N := 14) hx hb hts in_X8_setBreak_X8 hown hK hP 0 rfl rfl 0 (by decide) (hts _ q_X8_setBreak_2) (fun _ h9 => h9) rfl dX8_setBreak_228 ?_
        refine lv_bipush (v := (34 : Int32)) hx hb dX8_setBreak_231 (by decide) ?_
        refine lv_iload hx hb dX8_setBreak_233 (lv_at hl 6 rfl) ?_
        refine lv_iadd hx hb dX8_setBreak_235 ?_
        refine lv_iconst (v := (1 : Int32)) hx hb dX8_setBreak_236 (by decide) ?_
        refine lv_isub hx hb dX8_setBreak_237 ?_
        obtain ⟨hi29, h⟩ := gA_e h
        refine wx_iald hx hb hK hP 1 0 rfl rfl (Int32.toNatClampNeg (((34 : Int32) + x6) - (1 : Int32))) rfl hi29 dX8_setBreak_238 ?_
        refine lv_topi (fun t30 et30 => ?_)
        replace h := nm_at h et30
        obtain ⟨hi31, h⟩ := gA_e h
        refine wx_iast hx hb hK hP hD hS 1 0 rfl rfl (Int32.toNatClampNeg ((34 : Int32) + x6)) rfl hi31 dX8_setBreak_239 rfl (fun H locs hP hD hS => ?_)
        obtain ⟨g32, eg32, h⟩ := nm_x h
        have hP : va_P D vwCl [(a_h, .inr (8, [.ref a_h_d, .long v_account, .ref a_h_was, .ref a_h_accounts, .int m_states, .int v_refused, .ref a_h_text, .int v_typed, .int v_at, .int v_sign, .int v_number, .ref a_h_aside, .ref a_h_places, .ref a_h_told])), (a_h_d, .inl (cI, 2086, .inl g32)), (a_h_was, .inl (cI, 10430, .inl m_was_A)), (a_h_accounts, .inl (cJ, 5, .inr (.inl m_accounts_A)))] H := by rw [eg32]; exact hP
        have hD : va_D A [(a_h, .inr (8, [.ref a_h_d, .long v_account, .ref a_h_was, .ref a_h_accounts, .int m_states, .int v_refused, .ref a_h_text, .int v_typed, .int v_at, .int v_sign, .int v_number, .ref a_h_aside, .ref a_h_places, .ref a_h_told])), (a_h_d, .inl (cI, 2086, .inl g32)), (a_h_was, .inl (cI, 10430, .inl m_was_A)), (a_h_accounts, .inl (cJ, 5, .inr (.inl m_accounts_A)))] := by rw [eg32]; exact hD
        obtain ⟨t33, et33, h⟩ := nm_x h
        refine lv_iinc (v := t33) (lv' := [(6, .int t33), (0, .ref a_h), (1, .int p0), (2, .int p1), (3, .int x3), (4, .int x4), (5, .int x5)]) hx hb dX8_setBreak_240 hl (k := 6) rfl (by rw [et33]; rfl) (by decide) rfl (fun ls hl => ?_)
        refine lv_goto (tgt := 190) hx hb dX8_setBreak_243 (by decide) ?_
        exact ih x3 x4 x5 t33 m_states g32 m_was_A m_accounts_A _ _ _ h hP hD hS (lv_sub hl [1, 2, 3, 4, 5, 6, 0] rfl)
  have B172 : ∀ (x3 : Int32) (x4 : Int32) (x5 : Int32) (m_states : Int32) (m_d_A : Nat → Int32) (m_was_A : Nat → Int32) (m_accounts_A : Nat → Int64) (H : Heap) (locs : List Loc) (ls : Array Slot), f_X8_setBreak_b172 N v_account p0 p1 x3 x4 m_states m_d_A m_was_A m_accounts_A  = some u → va_P D vwCl [(a_h, .inr (8, [.ref a_h_d, .long v_account, .ref a_h_was, .ref a_h_accounts, .int m_states, .int v_refused, .ref a_h_text, .int v_typed, .int v_at, .int v_sign, .int v_number, .ref a_h_aside, .ref a_h_places, .ref a_h_told])), (a_h_d, .inl (cI, 2086, .inl m_d_A)), (a_h_was, .inl (cI, 10430, .inl m_was_A)), (a_h_accounts, .inl (cJ, 5, .inr (.inl m_accounts_A)))] H → va_D A [(a_h, .inr (8, [.ref a_h_d, .long v_account, .ref a_h_was, .ref a_h_accounts, .int m_states, .int v_refused, .ref a_h_text, .int v_typed, .int v_at, .int v_sign, .int v_number, .ref a_h_aside, .ref a_h_places, .ref a_h_told])), (a_h_d, .inl (cI, 2086, .inl m_d_A)), (a_h_was, .inl (cI, 10430, .inl m_was_A)), (a_h_accounts, .inl (cJ, 5, .inr (.inl m_accounts_A)))] → va_S A s.heap H locs → lv_has ls 7 [(0, .ref a_h), (1, .int p0), (2, .int p1), (3, .int x3), (4, .int x4), (5, .int x5)] → W p l e ({ frames := 1, cells := 0, slots := 0, locals := 22 } : Room) s m ([.ref a_h, .int p0, .int p1] : List Value).toArray below meth c H locs 0 0 (MQ below (QI D (ty4 cI cC cJ cB) A [(a_h, .inr (8, [.ref a_h_d, .long v_account, .ref a_h_was, .ref a_h_accounts, .int u.2.1, .int v_refused, .ref a_h_text, .int v_typed, .int v_at, .int v_sign, .int v_number, .ref a_h_aside, .ref a_h_places, .ref a_h_told])), (a_h_d, .inl (cI, 2086, .inl u.2.2.1)), (a_h_was, .inl (cI, 10430, .inl u.2.2.2.1)), (a_h_accounts, .inl (cJ, 5, .inr (.inl u.2.2.2.2)))] u.1) ([.ref a_h, .int p0, .int p1] : List Value).toArray s 0 0 A) (F0 m 172 ls []) := by
    intro x3 x4 x5 m_states m_d_A m_was_A m_accounts_A H locs ls h hP hD hS hl
    unfold f_X8_setBreak_b172 at h
    refine lv_aload_n hx hb dX8_setBreak_172 rfl (lv_at hl 0 rfl) ?_
    obtain ⟨u11, hu11, h⟩ := bd_e h
    refine kx_v (mc := 0) (ms := 0) (wr := []) (ws2 := [(a_h, .inr (8, [.ref a_h_d, .long v_account, .ref a_h_was, .ref a_h_accounts, .int u11.1, .int v_refused, .ref a_h_text, .int v_typed, .int v_at, .int v_sign, .int v_number, .ref a_h_aside, .ref a_h_places, .ref a_h_told])), (a_h_d, .inl (cI, 2086, .inl m_d_A)), (a_h_was, .inl (cI, 10430, .inl u11.2.1)), (a_h_accounts, .inl (cJ, 5, .inr (.inl u11.2.2)))]) (va_runV (As := []) (rest := []) ⟨hx, hb, hml, hown, hts⟩ (k_X8_records l D cI cC cJ cB a_h a_h_d a_h_was a_h_accounts a_h_text a_h_aside a_h_places a_h_told v_account m_states v_refused v_typed v_at v_sign v_number m_d_A m_was_A m_accounts_A N H.size _ hu11) (cwV 0 hts gX8_setBreak_X8_records rfl rfl rfl (by decide +kernel) ⟨Nat.le_of_ble_eq_true rfl, Nat.le_of_ble_eq_true rfl⟩) (pv_V hP hD hK hN [0, 1, 2, 3] rfl rfl (ci := 8) rfl 0 rfl) rfl rfl hl.1 rfl (lv_room (Nat.le_of_ble_eq_true rfl)) dX8_setBreak_173 ⟨Nat.zero_le _, Nat.zero_le _⟩) hP hD hS hA [0, 1, 2, 3] [] [0, 1, 2, 3] rfl rfl rfl rfl rfl rfl (fun H locs hP hD hS => ?_)
    refine lv_iload hx hb dX8_setBreak_176 (lv_at hl 4 rfl) ?_
    refine lv_if_ne (tgt := 257) hx hb dX8_setBreak_178 (by decide) (fun hc12 => ?_) (fun hc12 => ?_)
    · replace h := it_e hc12 h
      refine lv_aload_n hx hb dX8_setBreak_257 rfl (lv_at hl 0 rfl) ?_
      refine va_get (D := D) (ci := 8) (v := .ref a_h_d) (C := RX8) (T := TX8) (N := 14) hx hb hts in_X8_setBreak_X8 hown hK hP 0 rfl rfl 0 (by decide) (hts _ q_X8_setBreak_2) (fun _ h9 => h9) rfl dX8_setBreak_258 ?_
      refine lv_bipush (v := (27 : Int32)) hx hb dX8_setBreak_261 (by decide) ?_
      refine lv_iload_n hx hb dX8_setBreak_263 rfl (lv_at hl 3 rfl) ?_
      refine lv_iadd hx hb dX8_setBreak_264 ?_
      refine lv_iload_n hx hb dX8_setBreak_265 rfl (lv_at hl 1 rfl) ?_
      obtain ⟨hi13, h⟩ := gA_e h
      refine wx_iast hx hb hK hP hD hS 1 0 rfl rfl (Int32.toNatClampNeg ((27 : Int32) + x3)) rfl hi13 dX8_setBreak_266 rfl (fun H locs hP hD hS => ?_)
      obtain ⟨g14, eg14, h⟩ := nm_x h
      have hP : va_P D vwCl [(a_h, .inr (8, [.ref a_h_d, .long v_account, .ref a_h_was, .ref a_h_accounts, .int u11.1, .int v_refused, .ref a_h_text, .int v_typed, .int v_at, .int v_sign, .int v_number, .ref a_h_aside, .ref a_h_places, .ref a_h_told])), (a_h_d, .inl (cI, 2086, .inl g14)), (a_h_was, .inl (cI, 10430, .inl u11.2.1)), (a_h_accounts, .inl (cJ, 5, .inr (.inl u11.2.2)))] H := by rw [eg14]; exact hP
      have hD : va_D A [(a_h, .inr (8, [.ref a_h_d, .long v_account, .ref a_h_was, .ref a_h_accounts, .int u11.1, .int v_refused, .ref a_h_text, .int v_typed, .int v_at, .int v_sign, .int v_number, .ref a_h_aside, .ref a_h_places, .ref a_h_told])), (a_h_d, .inl (cI, 2086, .inl g14)), (a_h_was, .inl (cI, 10430, .inl u11.2.1)), (a_h_accounts, .inl (cJ, 5, .inr (.inl u11.2.2)))] := by rw [eg14]; exact hD
      refine lv_aload_n hx hb dX8_setBreak_267 rfl (lv_at hl 0 rfl) ?_
      refine va_get (D := D) (ci := 8) (v := .ref a_h_d) (C := RX8) (T := TX8) (N := 14) hx hb hts in_X8_setBreak_X8 hown hK hP 0 rfl rfl 0 (by decide) (hts _ q_X8_setBreak_2) (fun _ h9 => h9) rfl dX8_setBreak_268 ?_
      refine lv_bipush (v := (34 : Int32)) hx hb dX8_setBreak_271 (by decide) ?_
      refine lv_iload_n hx hb dX8_setBreak_273 rfl (lv_at hl 3 rfl) ?_
      refine lv_iadd hx hb dX8_setBreak_274 ?_
      refine lv_iload_n hx hb dX8_setBreak_275 rfl (lv_at hl 2 rfl) ?_
      obtain ⟨hi15, h⟩ := gA_e h
      refine wx_iast hx hb hK hP hD hS 1 0 rfl rfl (Int32.toNatClampNeg ((34 : Int32) + x3)) rfl hi15 dX8_setBreak_276 rfl (fun H locs hP hD hS => ?_)
      obtain ⟨g16, eg16, h⟩ := nm_x h
      have hP : va_P D vwCl [(a_h, .inr (8, [.ref a_h_d, .long v_account, .ref a_h_was, .ref a_h_accounts, .int u11.1, .int v_refused, .ref a_h_text, .int v_typed, .int v_at, .int v_sign, .int v_number, .ref a_h_aside, .ref a_h_places, .ref a_h_told])), (a_h_d, .inl (cI, 2086, .inl g16)), (a_h_was, .inl (cI, 10430, .inl u11.2.1)), (a_h_accounts, .inl (cJ, 5, .inr (.inl u11.2.2)))] H := by rw [eg16]; exact hP
      have hD : va_D A [(a_h, .inr (8, [.ref a_h_d, .long v_account, .ref a_h_was, .ref a_h_accounts, .int u11.1, .int v_refused, .ref a_h_text, .int v_typed, .int v_at, .int v_sign, .int v_number, .ref a_h_aside, .ref a_h_places, .ref a_h_told])), (a_h_d, .inl (cI, 2086, .inl g16)), (a_h_was, .inl (cI, 10430, .inl u11.2.1)), (a_h_accounts, .inl (cJ, 5, .inr (.inl u11.2.2)))] := by rw [eg16]; exact hD
      refine lv_aload_n hx hb dX8_setBreak_277 rfl (lv_at hl 0 rfl) ?_
      refine va_get (D := D) (ci := 8) (v := .ref a_h_d) (C := RX8) (T := TX8) (N := 14) hx hb hts in_X8_setBreak_X8 hown hK hP 0 rfl rfl 0 (by decide) (hts _ q_X8_setBreak_2) (fun _ h9 => h9) rfl dX8_setBreak_278 ?_
      refine lv_bipush (v := (26 : Int32)) hx hb dX8_setBreak_281 (by decide) ?_
      refine wx_iald hx hb hK hP 1 0 rfl rfl 26 (by decide) (by unfold vp_in; decide) dX8_setBreak_283 ?_
      obtain rfl := sm_e h
      exact rx_i hx hb hr  hP hK hD hS dX8_setBreak_284 hlocks
    · replace h := in_e hc12 h
      refine lv_aload_n hx hb dX8_setBreak_181 rfl (lv_at hl 0 rfl) ?_
      refine va_get (D := D) (ci := 8) (v := .ref a_h_d) (C := RX8) (T := TX8) (N := 14) hx hb hts in_X8_setBreak_X8 hown hK hP 0 rfl rfl 0 (by decide) (hts _ q_X8_setBreak_2) (fun _ h9 => h9) rfl dX8_setBreak_182 ?_
      refine lv_bipush (v := (26 : Int32)) hx hb dX8_setBreak_185 (by decide) ?_
      refine wx_iald hx hb hK hP 1 0 rfl rfl 26 (by decide) (by unfold vp_in; decide) dX8_setBreak_187 ?_
      refine lv_topi (fun t17 et17 => ?_)
      replace h := nm_at h et17
      refine lv_istore (lv' := [(6, .int t17), (0, .ref a_h), (1, .int p0), (2, .int p1), (3, .int x3), (4, .int x4), (5, .int x5)]) hx hb dX8_setBreak_188 hl (by decide) rfl (fun ls hl => ?_)
      exact B190 N x3 x4 x5 t17 u11.1 m_d_A u11.2.1 u11.2.2 _ _ _ h hP hD hS (lv_sub hl [1, 2, 3, 4, 5, 6, 0] rfl)
  have B152 : ∀ (x3 : Int32) (x4 : Int32) (x5 : Int32) (m_states : Int32) (m_d_A : Nat → Int32) (m_was_A : Nat → Int32) (m_accounts_A : Nat → Int64) (H : Heap) (locs : List Loc) (ls : Array Slot), f_X8_setBreak_b152 N v_account p0 p1 x3 x4 m_states m_d_A m_was_A m_accounts_A  = some u → va_P D vwCl [(a_h, .inr (8, [.ref a_h_d, .long v_account, .ref a_h_was, .ref a_h_accounts, .int m_states, .int v_refused, .ref a_h_text, .int v_typed, .int v_at, .int v_sign, .int v_number, .ref a_h_aside, .ref a_h_places, .ref a_h_told])), (a_h_d, .inl (cI, 2086, .inl m_d_A)), (a_h_was, .inl (cI, 10430, .inl m_was_A)), (a_h_accounts, .inl (cJ, 5, .inr (.inl m_accounts_A)))] H → va_D A [(a_h, .inr (8, [.ref a_h_d, .long v_account, .ref a_h_was, .ref a_h_accounts, .int m_states, .int v_refused, .ref a_h_text, .int v_typed, .int v_at, .int v_sign, .int v_number, .ref a_h_aside, .ref a_h_places, .ref a_h_told])), (a_h_d, .inl (cI, 2086, .inl m_d_A)), (a_h_was, .inl (cI, 10430, .inl m_was_A)), (a_h_accounts, .inl (cJ, 5, .inr (.inl m_accounts_A)))] → va_S A s.heap H locs → lv_has ls 7 [(0, .ref a_h), (1, .int p0), (2, .int p1), (3, .int x3), (4, .int x4), (5, .int x5)] → W p l e ({ frames := 1, cells := 0, slots := 0, locals := 22 } : Room) s m ([.ref a_h, .int p0, .int p1] : List Value).toArray below meth c H locs 0 0 (MQ below (QI D (ty4 cI cC cJ cB) A [(a_h, .inr (8, [.ref a_h_d, .long v_account, .ref a_h_was, .ref a_h_accounts, .int u.2.1, .int v_refused, .ref a_h_text, .int v_typed, .int v_at, .int v_sign, .int v_number, .ref a_h_aside, .ref a_h_places, .ref a_h_told])), (a_h_d, .inl (cI, 2086, .inl u.2.2.1)), (a_h_was, .inl (cI, 10430, .inl u.2.2.2.1)), (a_h_accounts, .inl (cJ, 5, .inr (.inl u.2.2.2.2)))] u.1) ([.ref a_h, .int p0, .int p1] : List Value).toArray s 0 0 A) (F0 m 152 ls []) := by
    intro x3 x4 x5 m_states m_d_A m_was_A m_accounts_A H locs ls h hP hD hS hl
    unfold f_X8_setBreak_b152 at h
    refine lv_iload hx hb dX8_setBreak_152 (lv_at hl 4 rfl) ?_
    refine lv_if_ne (tgt := 172) hx hb dX8_setBreak_154 (by decide) (fun hc10 => ?_) (fun hc10 => ?_)
    · replace h := it_e hc10 h
      exact B172 x3 x4 x5 m_states m_d_A m_was_A m_accounts_A _ _ _ h hP hD hS hl
    · replace h := in_e hc10 h
      refine lv_aload_n hx hb dX8_setBreak_157 rfl (lv_at hl 0 rfl) ?_
      refine va_get (D := D) (ci := 8) (v := .ref a_h_d) (C := RX8) (T := TX8) (N := 14) hx hb hts in_X8_setBreak_X8 hown hK hP 0 rfl rfl 0 (by decide) (hts _ q_X8_setBreak_2) (fun _ h9 => h9) rfl dX8_setBreak_158 ?_
      refine lv_bipush (v := (26 : Int32)) hx hb dX8_setBreak_161 (by decide) ?_
      refine wx_iald hx hb hK hP 1 0 rfl rfl 26 (by decide) (by unfold vp_in; decide) dX8_setBreak_163 ?_
      refine lv_bipush (v := (6 : Int32)) hx hb dX8_setBreak_164 (by decide) ?_
      refine lv_icmp_ne (tgt := 172) hx hb dX8_setBreak_166 (by decide) (fun hc34 => ?_) (fun hc34 => ?_)
      · replace h := it_e hc34 h
        exact B172 x3 x4 x5 m_states m_d_A m_was_A m_accounts_A _ _ _ h hP hD hS hl
      · replace h := in_e hc34 h
        refine lv_ldc (v := (-2000000003 : Int32)) hx hb hown (hts _ q_X8_setBreak_4) dX8_setBreak_169 ?_
        obtain rfl := sm_e h
        exact rx_i hx hb hr  hP hK hD hS dX8_setBreak_171 hlocks
  have B123 : ∀ (x3 : Int32) (x4 : Int32) (x5 : Int32) (m_states : Int32) (m_d_A : Nat → Int32) (m_was_A : Nat → Int32) (m_accounts_A : Nat → Int64) (H : Heap) (locs : List Loc) (ls : Array Slot), f_X8_setBreak_b123 N v_account p0 p1 x3 x4 x5 m_states m_d_A m_was_A m_accounts_A  = some u → va_P D vwCl [(a_h, .inr (8, [.ref a_h_d, .long v_account, .ref a_h_was, .ref a_h_accounts, .int m_states, .int v_refused, .ref a_h_text, .int v_typed, .int v_at, .int v_sign, .int v_number, .ref a_h_aside, .ref a_h_places, .ref a_h_told])), (a_h_d, .inl (cI, 2086, .inl m_d_A)), (a_h_was, .inl (cI, 10430, .inl m_was_A)), (a_h_accounts, .inl (cJ, 5, .inr (.inl m_accounts_A)))] H → va_D A [(a_h, .inr (8, [.ref a_h_d, .long v_account, .ref a_h_was, .ref a_h_accounts, .int m_states, .int v_refused, .ref a_h_text, .int v_typed, .int v_at, .int v_sign, .int v_number, .ref a_h_aside, .ref a_h_places, .ref a_h_told])), (a_h_d, .inl (cI, 2086, .inl m_d_A)), (a_h_was, .inl (cI, 10430, .inl m_was_A)), (a_h_accounts, .inl (cJ, 5, .inr (.inl m_accounts_A)))] → va_S A s.heap H locs → lv_has ls 7 [(0, .ref a_h), (1, .int p0), (2, .int p1), (3, .int x3), (4, .int x4), (5, .int x5)] → W p l e ({ frames := 1, cells := 0, slots := 0, locals := 22 } : Room) s m ([.ref a_h, .int p0, .int p1] : List Value).toArray below meth c H locs 0 0 (MQ below (QI D (ty4 cI cC cJ cB) A [(a_h, .inr (8, [.ref a_h_d, .long v_account, .ref a_h_was, .ref a_h_accounts, .int u.2.1, .int v_refused, .ref a_h_text, .int v_typed, .int v_at, .int v_sign, .int v_number, .ref a_h_aside, .ref a_h_places, .ref a_h_told])), (a_h_d, .inl (cI, 2086, .inl u.2.2.1)), (a_h_was, .inl (cI, 10430, .inl u.2.2.2.1)), (a_h_accounts, .inl (cJ, 5, .inr (.inl u.2.2.2.2)))] u.1) ([.ref a_h, .int p0, .int p1] : List Value).toArray s 0 0 A) (F0 m 123 ls []) := by
    intro x3 x4 x5 m_states m_d_A m_was_A m_accounts_A H locs ls h hP hD hS hl
    unfold f_X8_setBreak_b123 at h
    refine lv_iload hx hb dX8_setBreak_123 (lv_at hl 5 rfl) ?_
    refine lv_aload_n hx hb dX8_setBreak_125 rfl (lv_at hl 0 rfl) ?_
    refine va_get (D := D) (ci := 8) (v := .ref a_h_d) (C := RX8) (T := TX8) (N := 14) hx hb hts in_X8_setBreak_X8 hown hK hP 0 rfl rfl 0 (by decide) (hts _ q_X8_setBreak_2) (fun _ h9 => h9) rfl dX8_setBreak_126 ?_
    refine lv_bipush (v := (26 : Int32)) hx hb dX8_setBreak_129 (by decide) ?_
    refine wx_iald hx hb hK hP 1 0 rfl rfl 26 (by decide) (by unfold vp_in; decide) dX8_setBreak_131 ?_
    refine lv_icmp_ge (tgt := 152) hx hb dX8_setBreak_132 (by decide) (fun hc9 => ?_) (fun hc9 => ?_)
    · replace h := it_e hc9 h
      exact B152 x3 x4 x5 m_states m_d_A m_was_A m_accounts_A _ _ _ h hP hD hS hl
    · replace h := if_e hc9 h
      refine lv_iload_n hx hb dX8_setBreak_135 rfl (lv_at hl 2 rfl) ?_
      refine lv_aload_n hx hb dX8_setBreak_136 rfl (lv_at hl 0 rfl) ?_
      refine va_get (D := D) (ci := 8) (v := .ref a_h_d) (C := RX8) (T := TX8) (N := 14) hx hb hts in_X8_setBreak_X8 hown hK hP 0 rfl rfl 0 (by decide) (hts _ q_X8_setBreak_2) (fun _ h9 => h9) rfl dX8_setBreak_137 ?_
      refine lv_bipush (v := (34 : Int32)) hx hb dX8_setBreak_140 (by decide) ?_
      refine lv_iload hx hb dX8_setBreak_142 (lv_at hl 5 rfl) ?_
      refine lv_iadd hx hb dX8_setBreak_144 ?_
      obtain ⟨hi35, h⟩ := gA_e h
      refine wx_iald hx hb hK hP 1 0 rfl rfl (Int32.toNatClampNeg ((34 : Int32) + x5)) rfl hi35 dX8_setBreak_145 ?_
      refine lv_icmp_lt (tgt := 152) hx hb dX8_setBreak_146 (by decide) (fun hc36 => ?_) (fun hc36 => ?_)
      · replace h := it_e hc36 h
        exact B152 x3 x4 x5 m_states m_d_A m_was_A m_accounts_A _ _ _ h hP hD hS hl
      · replace h := if_e hc36 h
        refine lv_ldc (v := (-2000000002 : Int32)) hx hb hown (hts _ q_X8_setBreak_3) dX8_setBreak_149 ?_
        obtain rfl := sm_e h
        exact rx_i hx hb hr  hP hK hD hS dX8_setBreak_151 hlocks
  have B102 : ∀ (x3 : Int32) (x4 : Int32) (s0 : Int32) (m_states : Int32) (m_d_A : Nat → Int32) (m_was_A : Nat → Int32) (m_accounts_A : Nat → Int64) (H : Heap) (locs : List Loc) (ls : Array Slot), f_X8_setBreak_b102 N v_account p0 p1 x3 x4 s0 m_states m_d_A m_was_A m_accounts_A  = some u → va_P D vwCl [(a_h, .inr (8, [.ref a_h_d, .long v_account, .ref a_h_was, .ref a_h_accounts, .int m_states, .int v_refused, .ref a_h_text, .int v_typed, .int v_at, .int v_sign, .int v_number, .ref a_h_aside, .ref a_h_places, .ref a_h_told])), (a_h_d, .inl (cI, 2086, .inl m_d_A)), (a_h_was, .inl (cI, 10430, .inl m_was_A)), (a_h_accounts, .inl (cJ, 5, .inr (.inl m_accounts_A)))] H → va_D A [(a_h, .inr (8, [.ref a_h_d, .long v_account, .ref a_h_was, .ref a_h_accounts, .int m_states, .int v_refused, .ref a_h_text, .int v_typed, .int v_at, .int v_sign, .int v_number, .ref a_h_aside, .ref a_h_places, .ref a_h_told])), (a_h_d, .inl (cI, 2086, .inl m_d_A)), (a_h_was, .inl (cI, 10430, .inl m_was_A)), (a_h_accounts, .inl (cJ, 5, .inr (.inl m_accounts_A)))] → va_S A s.heap H locs → lv_has ls 7 [(0, .ref a_h), (1, .int p0), (2, .int p1), (3, .int x3), (4, .int x4)] → W p l e ({ frames := 1, cells := 0, slots := 0, locals := 22 } : Room) s m ([.ref a_h, .int p0, .int p1] : List Value).toArray below meth c H locs 0 0 (MQ below (QI D (ty4 cI cC cJ cB) A [(a_h, .inr (8, [.ref a_h_d, .long v_account, .ref a_h_was, .ref a_h_accounts, .int u.2.1, .int v_refused, .ref a_h_text, .int v_typed, .int v_at, .int v_sign, .int v_number, .ref a_h_aside, .ref a_h_places, .ref a_h_told])), (a_h_d, .inl (cI, 2086, .inl u.2.2.1)), (a_h_was, .inl (cI, 10430, .inl u.2.2.2.1)), (a_h_accounts, .inl (cJ, 5, .inr (.inl u.2.2.2.2)))] u.1) ([.ref a_h, .int p0, .int p1] : List Value).toArray s 0 0 A) (F0 m 102 ls [.int s0]) := by
    intro x3 x4 s0 m_states m_d_A m_was_A m_accounts_A H locs ls h hP hD hS hl
    unfold f_X8_setBreak_b102 at h
    refine lv_istore (lv' := [(5, .int s0), (0, .ref a_h), (1, .int p0), (2, .int p1), (3, .int x3), (4, .int x4)]) hx hb dX8_setBreak_102 hl (by decide) rfl (fun ls hl => ?_)
    refine lv_iload_n hx hb dX8_setBreak_104 rfl (lv_at hl 4 rfl) ?_
    refine lv_if_le (tgt := 123) hx hb dX8_setBreak_105 (by decide) (fun hc8 => ?_) (fun hc8 => ?_)
    · replace h := it_e hc8 h
      exact B123 x3 x4 s0 m_states m_d_A m_was_A m_accounts_A _ _ _ h hP hD hS (lv_sub hl [1, 2, 3, 4, 5, 0] rfl)
    · replace h := if_e hc8 h
      refine lv_iload_n hx hb dX8_setBreak_108 rfl (lv_at hl 3 rfl) ?_
      refine lv_aload_n hx hb dX8_setBreak_109 rfl (lv_at hl 1 rfl) ?_
      refine va_get (D := D) (ci := 8) (v := .ref a_h_d) (C := RX8) (T := TX8) (N := 14) hx hb hts in_X8_setBreak_X8 hown hK hP 0 rfl rfl 0 (by decide) (hts _ q_X8_setBreak_2) (fun _ h9 => h9) rfl dX8_setBreak_110 ?_
      refine lv_bipush (v := (34 : Int32)) hx hb dX8_setBreak_113 (by decide) ?_
      refine lv_iload_n hx hb dX8_setBreak_115 rfl (lv_at hl 4 rfl) ?_
      refine lv_iadd hx hb dX8_setBreak_116 ?_
      refine lv_iconst (v := (1 : Int32)) hx hb dX8_setBreak_117 (by decide) ?_
      refine lv_isub hx hb dX8_setBreak_118 ?_
      obtain ⟨hi37, h⟩ := gA_e h
      refine wx_iald hx hb hK hP 1 0 rfl rfl (Int32.toNatClampNeg (((34 : Int32) + x3) - (1 : Int32))) rfl hi37 dX8_setBreak_119 ?_
      refine lv_icmp_le (tgt := 149) hx hb dX8_setBreak_120 (by decide) (fun hc38 => ?_) (fun hc38 => ?_)
      · replace h := it_e hc38 h
        refine lv_ldc (v := (-2000000002 : Int32)) hx hb hown (hts _ q_X8_setBreak_3) dX8_setBreak_149 ?_
        obtain rfl := sm_e h
        exact rx_i hx hb hr  hP hK hD hS dX8_setBreak_151 hlocks
      · replace h := if_e hc38 h
        exact B123 x3 x4 s0 m_states m_d_A m_was_A m_accounts_A _ _ _ h hP hD hS (lv_sub hl [1, 2, 3, 4, 5, 0] rfl)
  have B88 : ∀ (x3 : Int32) (s0 : Int32) (m_states : Int32) (m_d_A : Nat → Int32) (m_was_A : Nat → Int32) (m_accounts_A : Nat → Int64) (H : Heap) (locs : List Loc) (ls : Array Slot), f_X8_setBreak_b88 N v_account p0 p1 x3 s0 m_states m_d_A m_was_A m_accounts_A  = some u → va_P D vwCl [(a_h, .inr (8, [.ref a_h_d, .long v_account, .ref a_h_was, .ref a_h_accounts, .int m_states, .int v_refused, .ref a_h_text, .int v_typed, .int v_at, .int v_sign, .int v_number, .ref a_h_aside, .ref a_h_places, .ref a_h_told])), (a_h_d, .inl (cI, 2086, .inl m_d_A)), (a_h_was, .inl (cI, 10430, .inl m_was_A)), (a_h_accounts, .inl (cJ, 5, .inr (.inl m_accounts_A)))] H → va_D A [(a_h, .inr (8, [.ref a_h_d, .long v_account, .ref a_h_was, .ref a_h_accounts, .int m_states, .int v_refused, .ref a_h_text, .int v_typed, .int v_at, .int v_sign, .int v_number, .ref a_h_aside, .ref a_h_places, .ref a_h_told])), (a_h_d, .inl (cI, 2086, .inl m_d_A)), (a_h_was, .inl (cI, 10430, .inl m_was_A)), (a_h_accounts, .inl (cJ, 5, .inr (.inl m_accounts_A)))] → va_S A s.heap H locs → lv_has ls 7 [(0, .ref a_h), (1, .int p0), (2, .int p1), (3, .int x3)] → W p l e ({ frames := 1, cells := 0, slots := 0, locals := 22 } : Room) s m ([.ref a_h, .int p0, .int p1] : List Value).toArray below meth c H locs 0 0 (MQ below (QI D (ty4 cI cC cJ cB) A [(a_h, .inr (8, [.ref a_h_d, .long v_account, .ref a_h_was, .ref a_h_accounts, .int u.2.1, .int v_refused, .ref a_h_text, .int v_typed, .int v_at, .int v_sign, .int v_number, .ref a_h_aside, .ref a_h_places, .ref a_h_told])), (a_h_d, .inl (cI, 2086, .inl u.2.2.1)), (a_h_was, .inl (cI, 10430, .inl u.2.2.2.1)), (a_h_accounts, .inl (cJ, 5, .inr (.inl u.2.2.2.2)))] u.1) ([.ref a_h, .int p0, .int p1] : List Value).toArray s 0 0 A) (F0 m 88 ls [.int s0]) := by
    intro x3 s0 m_states m_d_A m_was_A m_accounts_A H locs ls h hP hD hS hl
    unfold f_X8_setBreak_b88 at h
    refine lv_istore (lv' := [(4, .int s0), (0, .ref a_h), (1, .int p0), (2, .int p1), (3, .int x3)]) hx hb dX8_setBreak_88 hl (by decide) rfl (fun ls hl => ?_)
    refine lv_iload hx hb dX8_setBreak_90 (lv_at hl 0 rfl) ?_
    refine lv_if_eq (tgt := 101) hx hb dX8_setBreak_92 (by decide) (fun hc7 => ?_) (fun hc7 => ?_)
    · replace h := it_e hc7 h
      refine lv_iload_n hx hb dX8_setBreak_101 rfl (lv_at hl 4 rfl) ?_
      exact B102 x3 s0 x3 m_states m_d_A m_was_A m_accounts_A _ _ _ h hP hD hS (lv_sub hl [1, 2, 3, 4, 0] rfl)
    · replace h := if_e hc7 h
      refine lv_iload_n hx hb dX8_setBreak_95 rfl (lv_at hl 4 rfl) ?_
      refine lv_iconst (v := (1 : Int32)) hx hb dX8_setBreak_96 (by decide) ?_
      refine lv_iadd hx hb dX8_setBreak_97 ?_
      refine lv_goto (tgt := 102) hx hb dX8_setBreak_98 (by decide) ?_
      exact B102 x3 s0 (x3 + (1 : Int32)) m_states m_d_A m_was_A m_accounts_A _ _ _ h hP hD hS (lv_sub hl [1, 2, 3, 4, 0] rfl)
  have B87 : ∀ (x3 : Int32) (m_states : Int32) (m_d_A : Nat → Int32) (m_was_A : Nat → Int32) (m_accounts_A : Nat → Int64) (H : Heap) (locs : List Loc) (ls : Array Slot), f_X8_setBreak_b87 N v_account p0 p1 x3 m_states m_d_A m_was_A m_accounts_A  = some u → va_P D vwCl [(a_h, .inr (8, [.ref a_h_d, .long v_account, .ref a_h_was, .ref a_h_accounts, .int m_states, .int v_refused, .ref a_h_text, .int v_typed, .int v_at, .int v_sign, .int v_number, .ref a_h_aside, .ref a_h_places, .ref a_h_told])), (a_h_d, .inl (cI, 2086, .inl m_d_A)), (a_h_was, .inl (cI, 10430, .inl m_was_A)), (a_h_accounts, .inl (cJ, 5, .inr (.inl m_accounts_A)))] H → va_D A [(a_h, .inr (8, [.ref a_h_d, .long v_account, .ref a_h_was, .ref a_h_accounts, .int m_states, .int v_refused, .ref a_h_text, .int v_typed, .int v_at, .int v_sign, .int v_number, .ref a_h_aside, .ref a_h_places, .ref a_h_told])), (a_h_d, .inl (cI, 2086, .inl m_d_A)), (a_h_was, .inl (cI, 10430, .inl m_was_A)), (a_h_accounts, .inl (cJ, 5, .inr (.inl m_accounts_A)))] → va_S A s.heap H locs → lv_has ls 7 [(0, .ref a_h), (1, .int p0), (2, .int p1), (3, .int x3)] → W p l e ({ frames := 1, cells := 0, slots := 0, locals := 22 } : Room) s m ([.ref a_h, .int p0, .int p1] : List Value).toArray below meth c H locs 0 0 (MQ below (QI D (ty4 cI cC cJ cB) A [(a_h, .inr (8, [.ref a_h_d, .long v_account, .ref a_h_was, .ref a_h_accounts, .int u.2.1, .int v_refused, .ref a_h_text, .int v_typed, .int v_at, .int v_sign, .int v_number, .ref a_h_aside, .ref a_h_places, .ref a_h_told])), (a_h_d, .inl (cI, 2086, .inl u.2.2.1)), (a_h_was, .inl (cI, 10430, .inl u.2.2.2.1)), (a_h_accounts, .inl (cJ, 5, .inr (.inl u.2.2.2.2)))] u.1) ([.ref a_h, .int p0, .int p1] : List Value).toArray s 0 0 A) (F0 m 87 ls []) := by
    intro x3 m_states m_d_A m_was_A m_accounts_A H locs ls h hP hD hS hl
    unfold f_X8_setBreak_b87 at h
    refine lv_iconst (v := (0 : Int32)) hx hb dX8_setBreak_87 (by decide) ?_
    exact B88 x3 (0 : Int32) m_states m_d_A m_was_A m_accounts_A _ _ _ h hP hD hS hl
  have B59 : ∀ (x3 : Int32) (m_states : Int32) (m_d_A : Nat → Int32) (m_was_A : Nat → Int32) (m_accounts_A : Nat → Int64) (H : Heap) (locs : List Loc) (ls : Array Slot), f_X8_setBreak_b59 N v_account p0 p1 x3 m_states m_d_A m_was_A m_accounts_A  = some u → va_P D vwCl [(a_h, .inr (8, [.ref a_h_d, .long v_account, .ref a_h_was, .ref a_h_accounts, .int m_states, .int v_refused, .ref a_h_text, .int v_typed, .int v_at, .int v_sign, .int v_number, .ref a_h_aside, .ref a_h_places, .ref a_h_told])), (a_h_d, .inl (cI, 2086, .inl m_d_A)), (a_h_was, .inl (cI, 10430, .inl m_was_A)), (a_h_accounts, .inl (cJ, 5, .inr (.inl m_accounts_A)))] H → va_D A [(a_h, .inr (8, [.ref a_h_d, .long v_account, .ref a_h_was, .ref a_h_accounts, .int m_states, .int v_refused, .ref a_h_text, .int v_typed, .int v_at, .int v_sign, .int v_number, .ref a_h_aside, .ref a_h_places, .ref a_h_told])), (a_h_d, .inl (cI, 2086, .inl m_d_A)), (a_h_was, .inl (cI, 10430, .inl m_was_A)), (a_h_accounts, .inl (cJ, 5, .inr (.inl m_accounts_A)))] → va_S A s.heap H locs → lv_has ls 7 [(0, .ref a_h), (1, .int p0), (2, .int p1), (3, .int x3)] → W p l e ({ frames := 1, cells := 0, slots := 0, locals := 22 } : Room) s m ([.ref a_h, .int p0, .int p1] : List Value).toArray below meth c H locs 0 0 (MQ below (QI D (ty4 cI cC cJ cB) A [(a_h, .inr (8, [.ref a_h_d, .long v_account, .ref a_h_was, .ref a_h_accounts, .int u.2.1, .int v_refused, .ref a_h_text, .int v_typed, .int v_at, .int v_sign, .int v_number, .ref a_h_aside, .ref a_h_places, .ref a_h_told])), (a_h_d, .inl (cI, 2086, .inl u.2.2.1)), (a_h_was, .inl (cI, 10430, .inl u.2.2.2.1)), (a_h_accounts, .inl (cJ, 5, .inr (.inl u.2.2.2.2)))] u.1) ([.ref a_h, .int p0, .int p1] : List Value).toArray s 0 0 A) (F0 m 59 ls []) := by
    intro x3 m_states m_d_A m_was_A m_accounts_A H locs ls h hP hD hS hl
    unfold f_X8_setBreak_b59 at h
    refine lv_iload_n hx hb dX8_setBreak_59 rfl (lv_at hl 3 rfl) ?_
    refine lv_aload_n hx hb dX8_setBreak_60 rfl (lv_at hl 0 rfl) ?_
    refine va_get (D := D) (ci := 8) (v := .ref a_h_d) (C := RX8) (T := TX8) (N := 14) hx hb hts in_X8_setBreak_X8 hown hK hP 0 rfl rfl 0 (by decide) (hts _ q_X8_setBreak_2) (fun _ h9 => h9) rfl dX8_setBreak_61 ?_
    refine lv_bipush (v := (26 : Int32)) hx hb dX8_setBreak_64 (by decide) ?_
    refine wx_iald hx hb hK hP 1 0 rfl rfl 26 (by decide) (by unfold vp_in; decide) dX8_setBreak_66 ?_
    refine lv_icmp_ge (tgt := 87) hx hb dX8_setBreak_67 (by decide) (fun hc6 => ?_) (fun hc6 => ?_)
    · replace h := it_e hc6 h
      exact B87 x3 m_states m_d_A m_was_A m_accounts_A _ _ _ h hP hD hS hl
    · replace h := if_e hc6 h
      refine lv_aload_n hx hb dX8_setBreak_70 rfl (lv_at hl 0 rfl) ?_
      refine va_get (D := D) (ci := 8) (v := .ref a_h_d) (C := RX8) (T := TX8) (N := 14) hx hb hts in_X8_setBreak_X8 hown hK hP 0 rfl rfl 0 (by decide) (hts _ q_X8_setBreak_2) (fun _ h9 => h9) rfl dX8_setBreak_71 ?_
      refine lv_bipush (v := (27 : Int32)) hx hb dX8_setBreak_74 (by decide) ?_
      refine lv_iload_n hx hb dX8_setBreak_76 rfl (lv_at hl 3 rfl) ?_
      refine lv_iadd hx hb dX8_setBreak_77 ?_
      obtain ⟨hi39, h⟩ := gA_e h
      refine wx_iald hx hb hK hP 1 0 rfl rfl (Int32.toNatClampNeg ((27 : Int32) + x3)) rfl hi39 dX8_setBreak_78 ?_
      refine lv_iload_n hx hb dX8_setBreak_79 rfl (lv_at hl 1 rfl) ?_
      refine lv_icmp_ne (tgt := 87) hx hb dX8_setBreak_80 (by decide) (fun hc40 => ?_) (fun hc40 => ?_)
      · replace h := it_e hc40 h
        exact B87 x3 m_states m_d_A m_was_A m_accounts_A _ _ _ h hP hD hS hl
      · replace h := in_e hc40 h
        refine lv_iconst (v := (1 : Int32)) hx hb dX8_setBreak_83 (by decide) ?_
        refine lv_goto (tgt := 88) hx hb dX8_setBreak_84 (by decide) ?_
        exact B88 x3 (1 : Int32) m_states m_d_A m_was_A m_accounts_A _ _ _ h hP hD hS hl
  have B29 : ∀ (k : Nat) (x3 : Int32) (m_states : Int32) (m_d_A : Nat → Int32) (m_was_A : Nat → Int32) (m_accounts_A : Nat → Int64) (H : Heap) (locs : List Loc) (ls : Array Slot), f_X8_setBreak_b29 N v_account p0 p1 m_states m_d_A m_was_A m_accounts_A k x3 = some u → va_P D vwCl [(a_h, .inr (8, [.ref a_h_d, .long v_account, .ref a_h_was, .ref a_h_accounts, .int m_states, .int v_refused, .ref a_h_text, .int v_typed, .int v_at, .int v_sign, .int v_number, .ref a_h_aside, .ref a_h_places, .ref a_h_told])), (a_h_d, .inl (cI, 2086, .inl m_d_A)), (a_h_was, .inl (cI, 10430, .inl m_was_A)), (a_h_accounts, .inl (cJ, 5, .inr (.inl m_accounts_A)))] H → va_D A [(a_h, .inr (8, [.ref a_h_d, .long v_account, .ref a_h_was, .ref a_h_accounts, .int m_states, .int v_refused, .ref a_h_text, .int v_typed, .int v_at, .int v_sign, .int v_number, .ref a_h_aside, .ref a_h_places, .ref a_h_told])), (a_h_d, .inl (cI, 2086, .inl m_d_A)), (a_h_was, .inl (cI, 10430, .inl m_was_A)), (a_h_accounts, .inl (cJ, 5, .inr (.inl m_accounts_A)))] → va_S A s.heap H locs → lv_has ls 7 [(0, .ref a_h), (1, .int p0), (2, .int p1), (3, .int x3)] → W p l e ({ frames := 1, cells := 0, slots := 0, locals := 22 } : Room) s m ([.ref a_h, .int p0, .int p1] : List Value).toArray below meth c H locs 0 0 (MQ below (QI D (ty4 cI cC cJ cB) A [(a_h, .inr (8, [.ref a_h_d, .long v_account, .ref a_h_was, .ref a_h_accounts, .int u.2.1, .int v_refused, .ref a_h_text, .int v_typed, .int v_at, .int v_sign, .int v_number, .ref a_h_aside, .ref a_h_places, .ref a_h_told])), (a_h_d, .inl (cI, 2086, .inl u.2.2.1)), (a_h_was, .inl (cI, 10430, .inl u.2.2.2.1)), (a_h_accounts, .inl (cJ, 5, .inr (.inl u.2.2.2.2)))] u.1) ([.ref a_h, .int p0, .int p1] : List Value).toArray s 0 0 A) (F0 m 29 ls []) := by
    intro k
    induction k with
    | zero =>
      intro x3 m_states m_d_A m_was_A m_accounts_A H locs ls h
      exact nomatch (show (none : Option (Int32 × Int32 × (Nat → Int32) × (Nat → Int32) × (Nat → Int64))) = some u from h)
    | succ k ih =>
      intro x3 m_states m_d_A m_was_A m_accounts_A H locs ls h hP hD hS hl
      rw [f_X8_setBreak_b29.eq_2] at h
      refine lv_iload_n hx hb dX8_setBreak_29 rfl (lv_at hl 3 rfl) ?_
      refine lv_aload_n hx hb dX8_setBreak_30 rfl (lv_at hl 0 rfl) ?_
      refine va_get (D := D) (ci := 8) (v := .ref a_h_d) (C := RX8) (T := TX8) (N := 14) hx hb hts in_X8_setBreak_X8 hown hK hP 0 rfl rfl 0 (by decide) (hts _ q_X8_setBreak_2) (fun _ h9 => h9) rfl dX8_setBreak_31 ?_
      refine lv_bipush (v := (26 : Int32)) hx hb dX8_setBreak_34 (by decide) ?_
      refine wx_iald hx hb hK hP 1 0 rfl rfl 26 (by decide) (by unfold vp_in; decide) dX8_setBreak_36 ?_
      refine lv_icmp_ge (tgt := 59) hx hb dX8_setBreak_37 (by decide) (fun hc5 => ?_) (fun hc5 => ?_)
      · replace h := it_e hc5 h
        exact B59 x3 m_states m_d_A m_was_A m_accounts_A _ _ _ h hP hD hS hl
      · replace h := if_e hc5 h
        refine lv_aload_n hx hb dX8_setBreak_40 rfl (lv_at hl 0 rfl) ?_
        refine va_get (D := D) (ci := 8) (v := .ref a_h_d) (C := RX8) (T := TX8) (N := 14) hx hb hts in_X8_setBreak_X8 hown hK hP 0 rfl rfl 0 (by decide) (hts _ q_X8_setBreak_2) (fun _ h9 => h9) rfl dX8_setBreak_41 ?_
        refine lv_bipush (v := (27 : Int32)) hx hb dX8_setBreak_44 (by decide) ?_
        refine lv_iload_n hx hb dX8_setBreak_46 rfl (lv_at hl 3 rfl) ?_
        refine lv_iadd hx hb dX8_setBreak_47 ?_
        obtain ⟨hi41, h⟩ := gA_e h
        refine wx_iald hx hb hK hP 1 0 rfl rfl (Int32.toNatClampNeg ((27 : Int32) + x3)) rfl hi41 dX8_setBreak_48 ?_
        refine lv_iload_n hx hb dX8_setBreak_49 rfl (lv_at hl 1 rfl) ?_
        refine lv_icmp_ge (tgt := 59) hx hb dX8_setBreak_50 (by decide) (fun hc42 => ?_) (fun hc42 => ?_)
        · replace h := it_e hc42 h
          exact B59 x3 m_states m_d_A m_was_A m_accounts_A _ _ _ h hP hD hS hl
        · replace h := if_e hc42 h
          obtain ⟨t43, et43, h⟩ := nm_x h
          refine lv_iinc (v := t43) (lv' := [(3, .int t43), (0, .ref a_h), (1, .int p0), (2, .int p1)]) hx hb dX8_setBreak_53 hl (k := 3) rfl (by rw [et43]; rfl) (by decide) rfl (fun ls hl => ?_)
          refine lv_goto (tgt := 29) hx hb dX8_setBreak_56 (by decide) ?_
          exact ih t43 m_states m_d_A m_was_A m_accounts_A _ _ _ h hP hD hS (lv_sub hl [1, 2, 3, 0] rfl)
  refine lv_iload_n hx hb dX8_setBreak_0 rfl (lv_at hl 1 rfl) ?_
  refine lv_sipush (v := (-1000 : Int32)) hx hb dX8_setBreak_1 (by decide) ?_
  refine lv_sipush (v := (30000 : Int32)) hx hb dX8_setBreak_4 (by decide) ?_
  obtain ⟨u1, hu1, h⟩ := bd_e h
  refine kx_i (mc := 0) (ms := 0) (wr := [(a_h, .inr (8, [.ref a_h_d, .long v_account, .ref a_h_was, .ref a_h_accounts, .int v_states, .int v_refused, .ref a_h_text, .int v_typed, .int v_at, .int v_sign, .int v_number, .ref a_h_aside, .ref a_h_places, .ref a_h_told])), (a_h_d, .inl (cI, 2086, .inl v_d_A)), (a_h_was, .inl (cI, 10430, .inl v_was_A)), (a_h_accounts, .inl (cJ, 5, .inr (.inl v_accounts_A)))]) (ws2 := [(a_h, .inr (8, [.ref a_h_d, .long v_account, .ref a_h_was, .ref a_h_accounts, .int v_states, .int v_refused, .ref a_h_text, .int v_typed, .int v_at, .int v_sign, .int v_number, .ref a_h_aside, .ref a_h_places, .ref a_h_told])), (a_h_d, .inl (cI, 2086, .inl v_d_A)), (a_h_was, .inl (cI, 10430, .inl v_was_A)), (a_h_accounts, .inl (cJ, 5, .inr (.inl v_accounts_A)))]) (va_runS (As := [.int p0, .int (-1000 : Int32), .int (30000 : Int32)]) (rest := []) ⟨hx, hb, hml, hown, hts⟩ (k_X8_in l D cI cC cJ cB N p0 (-1000 : Int32) (30000 : Int32) s.heap.size _ hu1) (va_cwS 3 hts gX8_setBreak_X8_in rfl rfl rfl (by decide +kernel) ⟨Nat.le_of_ble_eq_true rfl, Nat.le_of_ble_eq_true rfl⟩) (pv_S hP hD hK hN [] rfl rfl) rfl rfl hl.1 rfl (lv_room (Nat.le_of_ble_eq_true rfl)) dX8_setBreak_7 ⟨Nat.zero_le _, Nat.zero_le _⟩) hP hD hS hA [] [0, 1, 2, 3] [0, 1, 2, 3] rfl rfl rfl rfl rfl rfl (fun H locs hP hD hS => ?_)
  refine lv_if_eq (tgt := 24) hx hb dX8_setBreak_10 (by decide) (fun hc2 => ?_) (fun hc2 => ?_)
  · replace h := it_e hc2 h
    refine lv_ldc (v := (-2000000001 : Int32)) hx hb hown (hts _ q_X8_setBreak_1) dX8_setBreak_24 ?_
    obtain rfl := sm_e h
    exact rx_i hx hb hr  hP hK hD hS dX8_setBreak_26 hlocks
  · replace h := if_e hc2 h
    refine lv_iload_n hx hb dX8_setBreak_13 rfl (lv_at hl 2 rfl) ?_
    refine lv_iconst (v := (0 : Int32)) hx hb dX8_setBreak_14 (by decide) ?_
    refine lv_sipush (v := (1000 : Int32)) hx hb dX8_setBreak_15 (by decide) ?_
    obtain ⟨u3, hu3, h⟩ := bd_e h
    refine kx_i (mc := 0) (ms := 0) (wr := [(a_h, .inr (8, [.ref a_h_d, .long v_account, .ref a_h_was, .ref a_h_accounts, .int v_states, .int v_refused, .ref a_h_text, .int v_typed, .int v_at, .int v_sign, .int v_number, .ref a_h_aside, .ref a_h_places, .ref a_h_told])), (a_h_d, .inl (cI, 2086, .inl v_d_A)), (a_h_was, .inl (cI, 10430, .inl v_was_A)), (a_h_accounts, .inl (cJ, 5, .inr (.inl v_accounts_A)))]) (ws2 := [(a_h, .inr (8, [.ref a_h_d, .long v_account, .ref a_h_was, .ref a_h_accounts, .int v_states, .int v_refused, .ref a_h_text, .int v_typed, .int v_at, .int v_sign, .int v_number, .ref a_h_aside, .ref a_h_places, .ref a_h_told])), (a_h_d, .inl (cI, 2086, .inl v_d_A)), (a_h_was, .inl (cI, 10430, .inl v_was_A)), (a_h_accounts, .inl (cJ, 5, .inr (.inl v_accounts_A)))]) (va_runS (As := [.int p1, .int (0 : Int32), .int (1000 : Int32)]) (rest := []) ⟨hx, hb, hml, hown, hts⟩ (k_X8_in l D cI cC cJ cB N p1 (0 : Int32) (1000 : Int32) H.size _ hu3) (va_cwS 3 hts gX8_setBreak_X8_in rfl rfl rfl (by decide +kernel) ⟨Nat.le_of_ble_eq_true rfl, Nat.le_of_ble_eq_true rfl⟩) (pv_S hP hD hK hN [] rfl rfl) rfl rfl hl.1 rfl (lv_room (Nat.le_of_ble_eq_true rfl)) dX8_setBreak_18 ⟨Nat.zero_le _, Nat.zero_le _⟩) hP hD hS hA [] [0, 1, 2, 3] [0, 1, 2, 3] rfl rfl rfl rfl rfl rfl (fun H locs hP hD hS => ?_)
    refine lv_if_ne (tgt := 27) hx hb dX8_setBreak_21 (by decide) (fun hc4 => ?_) (fun hc4 => ?_)
    · replace h := it_e hc4 h
      refine lv_iconst (v := (0 : Int32)) hx hb dX8_setBreak_27 (by decide) ?_
      refine lv_istore_n (lv' := [(3, .int (0 : Int32)), (0, .ref a_h), (1, .int p0), (2, .int p1)]) hx hb dX8_setBreak_28 rfl hl (by decide) rfl (fun ls hl => ?_)
      exact B29 N (0 : Int32) v_states v_d_A v_was_A v_accounts_A _ _ _ h hP hD hS (lv_sub hl [1, 2, 3, 0] rfl)
    · replace h := in_e hc4 h
      refine lv_ldc (v := (-2000000001 : Int32)) hx hb hown (hts _ q_X8_setBreak_1) dX8_setBreak_24 ?_
      obtain rfl := sm_e h
      exact rx_i hx hb hr  hP hK hD hS dX8_setBreak_26 hlocks
-- X8_removeBreak
def f_X8_removeBreak_b51 (m_states : Int32) (m_was_A : Nat → Int32) (m_accounts_A : Nat → Int64) : Nat → Int32 → (Nat → Int32) → Option (Int32 × Int32 × (Nat → Int32) × (Nat → Int32) × (Nat → Int64))
  | 0, _, _ => none
  | k + 1, x2, m_d_A =>
    (if (m_d_A 26) ≤ x2 then some ((m_d_A 26), m_states, m_d_A, m_was_A, m_accounts_A)
    else gA (((27 : Int32) + x2) + (1 : Int32)) 2086 (nm (m_d_A (Int32.toNatClampNeg (((27 : Int32) + x2) + (1 : Int32)))) (fun t9 => gA ((27 : Int32) + x2) 2086 (nm (upd m_d_A (Int32.toNatClampNeg ((27 : Int32) + x2)) t9) (fun g11 => gA (((34 : Int32) + x2) + (1 : Int32)) 2086 (nm (g11 (Int32.toNatClampNeg (((34 : Int32) + x2) + (1 : Int32)))) (fun t13 => gA ((34 : Int32) + x2) 2086 (nm (upd g11 (Int32.toNatClampNeg ((34 : Int32) + x2)) t13) (fun g15 => nm (x2 + (1 : Int32)) (fun t16 => (f_X8_removeBreak_b51 m_states m_was_A m_accounts_A k t16 g15)))))))))))
def f_X8_removeBreak (N : Nat) (v_account : Int64) (v_states : Int32) (v_d_A : Nat → Int32) (v_was_A : Nat → Int32) (v_accounts_A : Nat → Int64) (p0 : Int32) : Option (Int32 × Int32 × (Nat → Int32) × (Nat → Int32) × (Nat → Int64)) :=
  Option.bind (f_X8_in p0 (0 : Int32) ((v_d_A 26) - (1 : Int32))) (fun u1 => (if ¬ u1 = 0 then (if ¬ (v_d_A 26) = (2 : Int32) then Option.bind (f_X8_records N v_account v_states v_d_A v_was_A v_accounts_A) (fun u4 => nm ((v_d_A 26) - (1 : Int32)) (fun t5 => nm (upd v_d_A 26 t5) (fun g6 => (f_X8_removeBreak_b51 u4.1 u4.2.1 u4.2.2 N p0 g6))))
    else some ((-2000000002 : Int32), v_states, v_d_A, v_was_A, v_accounts_A))
    else some ((-2000000001 : Int32), v_states, v_d_A, v_was_A, v_accounts_A)))
theorem q_X8_removeBreak_1 : (.fieldLink RX8 7 "SpringBalanceModel" "d" "[I" : Cond) ∈ wsX8_removeBreak := List.mem_of_getElem? (i := 1) (by decide +kernel)
set_option maxRecDepth 20000 in
theorem in_X8_removeBreak_X8 : ∀ w ∈ u_ws RX8 TX8 14, w ∈ wsX8_removeBreak := by decide +kernel
theorem q_X8_removeBreak_3 : (.constant RX8 69 (-2000000002) : Cond) ∈ wsX8_removeBreak := List.mem_of_getElem? (i := 3) (by decide +kernel)
theorem q_X8_removeBreak_2 : (.constant RX8 64 (-2000000001) : Cond) ∈ wsX8_removeBreak := List.mem_of_getElem? (i := 2) (by decide +kernel)
set_option maxHeartbeats 8000000 in
set_option maxRecDepth 100000 in
theorem k_X8_removeBreak (l : Launch) (D : va_G) (cI cC cJ cB : ClassId) (a_h a_h_d a_h_was a_h_accounts a_h_text a_h_aside a_h_places a_h_told : Nat) (v_account : Int64) (v_states : Int32) (v_refused : Int32) (v_typed : Int32) (v_at : Int32) (v_sign : Int32) (v_number : Int32) (v_d_A : Nat → Int32) (v_was_A : Nat → Int32) (v_accounts_A : Nat → Int64) (N : Nat) (p0 : Int32) (sz : Nat) (u : Int32 × Int32 × (Nat → Int32) × (Nat → Int32) × (Nat → Int64)) (hu : f_X8_removeBreak N v_account v_states v_d_A v_was_A v_accounts_A p0 = some u) :
    Met l yX8_removeBreak wsX8_removeBreak ({ frames := 1, cells := 0, slots := 0, locals := 22 } : Room) (va_Pc [.ref a_h, .int p0] (PreW D (ty4 cI cC cJ cB) sz [(a_h, .inr (8, [.ref a_h_d, .long v_account, .ref a_h_was, .ref a_h_accounts, .int v_states, .int v_refused, .ref a_h_text, .int v_typed, .int v_at, .int v_sign, .int v_number, .ref a_h_aside, .ref a_h_places, .ref a_h_told])), (a_h_d, .inl (cI, 2086, .inl v_d_A)), (a_h_was, .inl (cI, 10430, .inl v_was_A)), (a_h_accounts, .inl (cJ, 5, .inr (.inl v_accounts_A)))]))
      (QI D (ty4 cI cC cJ cB) (va_A [(a_h, .inr (8, [.ref a_h_d, .long v_account, .ref a_h_was, .ref a_h_accounts, .int v_states, .int v_refused, .ref a_h_text, .int v_typed, .int v_at, .int v_sign, .int v_number, .ref a_h_aside, .ref a_h_places, .ref a_h_told])), (a_h_d, .inl (cI, 2086, .inl v_d_A)), (a_h_was, .inl (cI, 10430, .inl v_was_A)), (a_h_accounts, .inl (cJ, 5, .inr (.inl v_accounts_A)))] sz) [(a_h, .inr (8, [.ref a_h_d, .long v_account, .ref a_h_was, .ref a_h_accounts, .int u.2.1, .int v_refused, .ref a_h_text, .int v_typed, .int v_at, .int v_sign, .int v_number, .ref a_h_aside, .ref a_h_places, .ref a_h_told])), (a_h_d, .inl (cI, 2086, .inl u.2.2.1)), (a_h_was, .inl (cI, 10430, .inl u.2.2.2.1)), (a_h_accounts, .inl (cJ, 5, .inr (.inl u.2.2.2.2)))] u.1) 0 0 (va_A [(a_h, .inr (8, [.ref a_h_d, .long v_account, .ref a_h_was, .ref a_h_accounts, .int v_states, .int v_refused, .ref a_h_text, .int v_typed, .int v_at, .int v_sign, .int v_number, .ref a_h_aside, .ref a_h_places, .ref a_h_told])), (a_h_d, .inl (cI, 2086, .inl v_d_A)), (a_h_was, .inl (cI, 10430, .inl v_was_A)), (a_h_accounts, .inl (cJ, 5, .inr (.inl v_accounts_A)))] sz) := by
  refine met_go (y := yX8_removeBreak) (wsy := wsX8_removeBreak) (cc := cX8_removeBreak) (maxL := 3) (ret := (some .int)) (av := [.ref a_h, .int p0]) (Qc := fun A => QI D (ty4 cI cC cJ cB) A [(a_h, .inr (8, [.ref a_h_d, .long v_account, .ref a_h_was, .ref a_h_accounts, .int u.2.1, .int v_refused, .ref a_h_text, .int v_typed, .int v_at, .int v_sign, .int v_number, .ref a_h_aside, .ref a_h_places, .ref a_h_told])), (a_h_d, .inl (cI, 2086, .inl u.2.2.1)), (a_h_was, .inl (cI, 10430, .inl u.2.2.2.1)), (a_h_accounts, .inl (cJ, 5, .inr (.inl u.2.2.2.2)))] u.1) (by decide) rfl (Nat.le_of_ble_eq_true rfl) ?_
  intro p e s m below meth c A ls hx hb hr hml hown hts hlocks hnm hN hK hP hD hS hA hl
  have h := hu
  clear hu
  unfold f_X8_removeBreak at h
  have hl : lv_has ls 3 [(0, .ref a_h), (1, .int p0)] := hl
  have B51 : ∀ (k : Nat) (x2 : Int32) (m_states : Int32) (m_d_A : Nat → Int32) (m_was_A : Nat → Int32) (m_accounts_A : Nat → Int64) (H : Heap) (locs : List Loc) (ls : Array Slot), f_X8_removeBreak_b51 m_states m_was_A m_accounts_A k x2 m_d_A = some u → va_P D vwCl [(a_h, .inr (8, [.ref a_h_d, .long v_account, .ref a_h_was, .ref a_h_accounts, .int m_states, .int v_refused, .ref a_h_text, .int v_typed, .int v_at, .int v_sign, .int v_number, .ref a_h_aside, .ref a_h_places, .ref a_h_told])), (a_h_d, .inl (cI, 2086, .inl m_d_A)), (a_h_was, .inl (cI, 10430, .inl m_was_A)), (a_h_accounts, .inl (cJ, 5, .inr (.inl m_accounts_A)))] H → va_D A [(a_h, .inr (8, [.ref a_h_d, .long v_account, .ref a_h_was, .ref a_h_accounts, .int m_states, .int v_refused, .ref a_h_text, .int v_typed, .int v_at, .int v_sign, .int v_number, .ref a_h_aside, .ref a_h_places, .ref a_h_told])), (a_h_d, .inl (cI, 2086, .inl m_d_A)), (a_h_was, .inl (cI, 10430, .inl m_was_A)), (a_h_accounts, .inl (cJ, 5, .inr (.inl m_accounts_A)))] → va_S A s.heap H locs → lv_has ls 3 [(0, .ref a_h), (1, .int p0), (2, .int x2)] → W p l e ({ frames := 1, cells := 0, slots := 0, locals := 22 } : Room) s m ([.ref a_h, .int p0] : List Value).toArray below meth c H locs 0 0 (MQ below (QI D (ty4 cI cC cJ cB) A [(a_h, .inr (8, [.ref a_h_d, .long v_account, .ref a_h_was, .ref a_h_accounts, .int u.2.1, .int v_refused, .ref a_h_text, .int v_typed, .int v_at, .int v_sign, .int v_number, .ref a_h_aside, .ref a_h_places, .ref a_h_told])), (a_h_d, .inl (cI, 2086, .inl u.2.2.1)), (a_h_was, .inl (cI, 10430, .inl u.2.2.2.1)), (a_h_accounts, .inl (cJ, 5, .inr (.inl u.2.2.2.2)))] u.1) ([.ref a_h, .int p0] : List Value).toArray s 0 0 A) (F0 m 51 ls []) := by
    intro k
    induction k with
    | zero =>
      intro x2 m_states m_d_A m_was_A m_accounts_A H locs ls h
      exact nomatch (show (none : Option (Int32 × Int32 × (Nat → Int32) × (Nat → Int32) × (Nat → Int64))) = some u from h)
    | succ k ih =>
      intro x2 m_states m_d_A m_was_A m_accounts_A H locs ls h hP hD hS hl
      rw [f_X8_removeBreak_b51.eq_2] at h
      refine lv_iload_n hx hb dX8_removeBreak_51 rfl (lv_at hl 2 rfl) ?_
      refine lv_aload_n hx hb dX8_removeBreak_52 rfl (lv_at hl 0 rfl) ?_
      refine va_get (D := D) (ci := 8) (v := .ref a_h_d) (C := RX8) (T := TX8) (N := 14) hx hb hts in_X8_removeBreak_X8 hown hK hP 0 rfl rfl 0 (by decide) (hts _ q_X8_removeBreak_1) (fun _ h9 => h9) rfl dX8_removeBreak_53 ?_
      refine lv_bipush (v := (26 : Int32)) hx hb dX8_removeBreak_56 (by decide) ?_
      refine wx_iald hx hb hK hP 1 0 rfl rfl 26 (by decide) (by unfold vp_in; decide) dX8_removeBreak_58 ?_
      refine lv_icmp_ge (tgt := 108) hx hb dX8_removeBreak_59 (by decide) (fun hc7 => ?_) (fun hc7 => ?_)
      · replace h := it_e hc7 h
        refine lv_aload_n hx hb dX8_removeBreak_108 rfl (lv_at hl 0 rfl) ?_
        refine va_get (D := D) (ci := 8) (v := .ref a_h_d) (C := RX8) (T := TX8) (N := 14) hx hb hts in_X8_removeBreak_X8 hown hK hP 0 rfl rfl 0 (by decide) (hts _ q_X8_removeBreak_1) (fun _ h9 => h9) rfl dX8_removeBreak_109 ?_
        refine lv_bipush (v := (26 : Int32)) hx hb dX8_removeBreak_112 (by decide) ?_
        refine wx_iald hx hb hK hP 1 0 rfl rfl 26 (by decide) (by unfold vp_in; decide) dX8_removeBreak_114 ?_
        obtain rfl := sm_e h
        exact rx_i hx hb hr  hP hK hD hS dX8_removeBreak_115 hlocks
      · replace h := if_e hc7 h
        refine lv_aload_n hx hb dX8_removeBreak_62 rfl (lv_at hl 0 rfl) ?_
        refine va_get (D := D) (ci := 8) (v := .ref a_h_d) (C := RX8) (T := TX8) (N := 14) hx hb hts in_X8_removeBreak_X8 hown hK hP 0 rfl rfl 0 (by decide) (hts _ q_X8_removeBreak_1) (fun _ h9 => h9) rfl dX8_removeBreak_63 ?_
        refine lv_bipush (v := (27 : Int32)) hx hb dX8_removeBreak_66 (by decide) ?_
        refine lv_iload_n hx hb dX8_removeBreak_68 rfl (lv_at hl 2 rfl) ?_
        refine lv_iadd hx hb dX8_removeBreak_69 ?_
        refine lv_aload_n hx hb dX8_removeBreak_70 rfl (lv_at hl 0 rfl) ?_
        refine va_get (D := D) (ci := 8) (v := .ref a_h_d) (C := RX8) (T := TX8) (N := 14) hx hb hts in_X8_removeBreak_X8 hown hK hP 0 rfl rfl 0 (by decide) (hts _ q_X8_removeBreak_1) (fun _ h9 => h9) rfl dX8_removeBreak_71 ?_
        refine lv_bipush (v := (27 : Int32)) hx hb dX8_removeBreak_74 (by decide) ?_
        refine lv_iload_n hx hb dX8_removeBreak_76 rfl (lv_at hl 2 rfl) ?_
        refine lv_iadd hx hb dX8_removeBreak_77 ?_
        refine lv_iconst (v := (1 : Int32)) hx hb dX8_removeBreak_78 (by decide) ?_
        refine lv_iadd hx hb dX8_removeBreak_79 ?_
        obtain ⟨hi8, h⟩ := gA_e h
        refine wx_iald hx hb hK hP 1 0 rfl rfl (Int32.toNatClampNeg (((27 : Int32) + x2) + (1 : Int32))) rfl hi8 dX8_removeBreak_80 ?_
        refine lv_topi (fun t9 et9 => ?_)
        replace h := nm_at h et9
        obtain ⟨hi10, h⟩ := gA_e h
        refine wx_iast hx hb hK hP hD hS 1 0 rfl rfl (Int32.toNatClampNeg ((27 : Int32) + x2)) rfl hi10 dX8_removeBreak_81 rfl (fun H locs hP hD hS => ?_)
        obtain ⟨g11, eg11, h⟩ := nm_x h
        have hP : va_P D vwCl [(a_h, .inr (8, [.ref a_h_d, .long v_account, .ref a_h_was, .ref a_h_accounts, .int m_states, .int v_refused, .ref a_h_text, .int v_typed, .int v_at, .int v_sign, .int v_number, .ref a_h_aside, .ref a_h_places, .ref a_h_told])), (a_h_d, .inl (cI, 2086, .inl g11)), (a_h_was, .inl (cI, 10430, .inl m_was_A)), (a_h_accounts, .inl (cJ, 5, .inr (.inl m_accounts_A)))] H := by rw [eg11]; exact hP
        have hD : va_D A [(a_h, .inr (8, [.ref a_h_d, .long v_account, .ref a_h_was, .ref a_h_accounts, .int m_states, .int v_refused, .ref a_h_text, .int v_typed, .int v_at, .int v_sign, .int v_number, .ref a_h_aside, .ref a_h_places, .ref a_h_told])), (a_h_d, .inl (cI, 2086, .inl g11)), (a_h_was, .inl (cI, 10430, .inl m_was_A)), (a_h_accounts, .inl (cJ, 5, .inr (.inl m_accounts_A)))] := by rw [eg11]; exact hD
        refine lv_aload_n hx hb dX8_removeBreak_82 rfl (lv_at hl 0 rfl) ?_
        refine va_get (D := D) (ci := 8) (v := .ref a_h_d) (C := RX8) (T := TX8) (N := 14) hx hb hts in_X8_removeBreak_X8 hown hK hP 0 rfl rfl 0 (by decide) (hts _ q_X8_removeBreak_1) (fun _ h9 => h9) rfl dX8_removeBreak_83 ?_
        refine lv_bipush (v := (34 : Int32)) hx hb dX8_removeBreak_86 (by decide) ?_
        refine lv_iload_n hx hb dX8_removeBreak_88 rfl (lv_at hl 2 rfl) ?_
        refine lv_iadd hx hb dX8_removeBreak_89 ?_
        refine lv_aload_n hx hb dX8_removeBreak_90 rfl (lv_at hl 0 rfl) ?_
        refine va_get (D := D) (ci := 8) (v := .ref a_h_d) (C := RX8) (T := TX8) (N := 14) hx hb hts in_X8_removeBreak_X8 hown hK hP 0 rfl rfl 0 (by decide) (hts _ q_X8_removeBreak_1) (fun _ h9 => h9) rfl dX8_removeBreak_91 ?_
        refine lv_bipush (v := (34 : Int32)) hx hb dX8_removeBreak_94 (by decide) ?_
        refine lv_iload_n hx hb dX8_removeBreak_96 rfl (lv_at hl 2 rfl) ?_
        refine lv_iadd hx hb dX8_removeBreak_97 ?_
        refine lv_iconst (v := (1 : Int32)) hx hb dX8_removeBreak_98 (by decide) ?_
        refine lv_iadd hx hb dX8_removeBreak_99 ?_
        obtain ⟨hi12, h⟩ := gA_e h
        refine wx_iald hx hb hK hP 1 0 rfl rfl (Int32.toNatClampNeg (((34 : Int32) + x2) + (1 : Int32))) rfl hi12 dX8_removeBreak_100 ?_
        refine lv_topi (fun t13 et13 => ?_)
        replace h := nm_at h et13
        obtain ⟨hi14, h⟩ := gA_e h
        refine wx_iast hx hb hK hP hD hS 1 0 rfl rfl (Int32.toNatClampNeg ((34 : Int32) + x2)) rfl hi14 dX8_removeBreak_101 rfl (fun H locs hP hD hS => ?_)
        obtain ⟨g15, eg15, h⟩ := nm_x h
        have hP : va_P D vwCl [(a_h, .inr (8, [.ref a_h_d, .long v_account, .ref a_h_was, .ref a_h_accounts, .int m_states, .int v_refused, .ref a_h_text, .int v_typed, .int v_at, .int v_sign, .int v_number, .ref a_h_aside, .ref a_h_places, .ref a_h_told])), (a_h_d, .inl (cI, 2086, .inl g15)), (a_h_was, .inl (cI, 10430, .inl m_was_A)), (a_h_accounts, .inl (cJ, 5, .inr (.inl m_accounts_A)))] H := by rw [eg15]; exact hP
        have hD : va_D A [(a_h, .inr (8, [.ref a_h_d, .long v_account, .ref a_h_was, .ref a_h_accounts, .int m_states, .int v_refused, .ref a_h_text, .int v_typed, .int v_at, .int v_sign, .int v_number, .ref a_h_aside, .ref a_h_places, .ref a_h_told])), (a_h_d, .inl (cI, 2086, .inl g15)), (a_h_was, .inl (cI, 10430, .inl m_was_A)), (a_h_accounts, .inl (cJ, 5, .inr (.inl m_accounts_A)))] := by rw [eg15]; exact hD
        obtain ⟨t16, et16, h⟩ := nm_x h
        refine lv_iinc (v := t16) (lv' := [(2, .int t16), (0, .ref a_h), (1, .int p0)]) hx hb dX8_removeBreak_102 hl (k := 2) rfl (by rw [et16]; rfl) (by decide) rfl (fun ls hl => ?_)
        refine lv_goto (tgt := 51) hx hb dX8_removeBreak_105 (by decide) ?_
        exact ih t16 m_states g15 m_was_A m_accounts_A _ _ _ h hP hD hS (lv_sub hl [1, 2, 0] rfl)
  refine lv_iload_n hx hb dX8_removeBreak_0 rfl (lv_at hl 1 rfl) ?_
  refine lv_iconst (v := (0 : Int32)) hx hb dX8_removeBreak_1 (by decide) ?_
  refine lv_aload_n hx hb dX8_removeBreak_2 rfl (lv_at hl 0 rfl) ?_
  refine va_get (D := D) (ci := 8) (v := .ref a_h_d) (C := RX8) (T := TX8) (N := 14) hx hb hts in_X8_removeBreak_X8 hown hK hP 0 rfl rfl 0 (by decide) (hts _ q_X8_removeBreak_1) (fun _ h9 => h9) rfl dX8_removeBreak_3 ?_
  refine lv_bipush (v := (26 : Int32)) hx hb dX8_removeBreak_6 (by decide) ?_
  refine wx_iald hx hb hK hP 1 0 rfl rfl 26 (by decide) (by unfold vp_in; decide) dX8_removeBreak_8 ?_
  refine lv_iconst (v := (1 : Int32)) hx hb dX8_removeBreak_9 (by decide) ?_
  refine lv_isub hx hb dX8_removeBreak_10 ?_
  obtain ⟨u1, hu1, h⟩ := bd_e h
  refine kx_i (mc := 0) (ms := 0) (wr := [(a_h, .inr (8, [.ref a_h_d, .long v_account, .ref a_h_was, .ref a_h_accounts, .int v_states, .int v_refused, .ref a_h_text, .int v_typed, .int v_at, .int v_sign, .int v_number, .ref a_h_aside, .ref a_h_places, .ref a_h_told])), (a_h_d, .inl (cI, 2086, .inl v_d_A)), (a_h_was, .inl (cI, 10430, .inl v_was_A)), (a_h_accounts, .inl (cJ, 5, .inr (.inl v_accounts_A)))]) (ws2 := [(a_h, .inr (8, [.ref a_h_d, .long v_account, .ref a_h_was, .ref a_h_accounts, .int v_states, .int v_refused, .ref a_h_text, .int v_typed, .int v_at, .int v_sign, .int v_number, .ref a_h_aside, .ref a_h_places, .ref a_h_told])), (a_h_d, .inl (cI, 2086, .inl v_d_A)), (a_h_was, .inl (cI, 10430, .inl v_was_A)), (a_h_accounts, .inl (cJ, 5, .inr (.inl v_accounts_A)))]) (va_runS (As := [.int p0, .int (0 : Int32), .int ((v_d_A 26) - (1 : Int32))]) (rest := []) ⟨hx, hb, hml, hown, hts⟩ (k_X8_in l D cI cC cJ cB N p0 (0 : Int32) ((v_d_A 26) - (1 : Int32)) s.heap.size _ hu1) (va_cwS 3 hts gX8_removeBreak_X8_in rfl rfl rfl (by decide +kernel) ⟨Nat.le_of_ble_eq_true rfl, Nat.le_of_ble_eq_true rfl⟩) (pv_S hP hD hK hN [] rfl rfl) rfl rfl hl.1 rfl (lv_room (Nat.le_of_ble_eq_true rfl)) dX8_removeBreak_11 ⟨Nat.zero_le _, Nat.zero_le _⟩) hP hD hS hA [] [0, 1, 2, 3] [0, 1, 2, 3] rfl rfl rfl rfl rfl rfl (fun H locs hP hD hS => ?_)
  refine lv_if_ne (tgt := 20) hx hb dX8_removeBreak_14 (by decide) (fun hc2 => ?_) (fun hc2 => ?_)
  · replace h := it_e hc2 h
    refine lv_aload_n hx hb dX8_removeBreak_20 rfl (lv_at hl 0 rfl) ?_
    refine va_get (D := D) (ci := 8) (v := .ref a_h_d) (C := RX8) (T := TX8) (N := 14) hx hb hts in_X8_removeBreak_X8 hown hK hP 0 rfl rfl 0 (by decide) (hts _ q_X8_removeBreak_1) (fun _ h9 => h9) rfl dX8_removeBreak_21 ?_
    refine lv_bipush (v := (26 : Int32)) hx hb dX8_removeBreak_24 (by decide) ?_
    refine wx_iald hx hb hK hP 1 0 rfl rfl 26 (by decide) (by unfold vp_in; decide) dX8_removeBreak_26 ?_
    refine lv_iconst (v := (2 : Int32)) hx hb dX8_removeBreak_27 (by decide) ?_
    refine lv_icmp_ne (tgt := 34) hx hb dX8_removeBreak_28 (by decide) (fun hc3 => ?_) (fun hc3 => ?_)
    · replace h := it_e hc3 h
      refine lv_aload_n hx hb dX8_removeBreak_34 rfl (lv_at hl 0 rfl) ?_
      obtain ⟨u4, hu4, h⟩ := bd_e h
      refine kx_v (mc := 0) (ms := 0) (wr := []) (ws2 := [(a_h, .inr (8, [.ref a_h_d, .long v_account, .ref a_h_was, .ref a_h_accounts, .int u4.1, .int v_refused, .ref a_h_text, .int v_typed, .int v_at, .int v_sign, .int v_number, .ref a_h_aside, .ref a_h_places, .ref a_h_told])), (a_h_d, .inl (cI, 2086, .inl v_d_A)), (a_h_was, .inl (cI, 10430, .inl u4.2.1)), (a_h_accounts, .inl (cJ, 5, .inr (.inl u4.2.2)))]) (va_runV (As := []) (rest := []) ⟨hx, hb, hml, hown, hts⟩ (k_X8_records l D cI cC cJ cB a_h a_h_d a_h_was a_h_accounts a_h_text a_h_aside a_h_places a_h_told v_account v_states v_refused v_typed v_at v_sign v_number v_d_A v_was_A v_accounts_A N H.size _ hu4) (cwV 0 hts gX8_removeBreak_X8_records rfl rfl rfl (by decide +kernel) ⟨Nat.le_of_ble_eq_true rfl, Nat.le_of_ble_eq_true rfl⟩) (pv_V hP hD hK hN [0, 1, 2, 3] rfl rfl (ci := 8) rfl 0 rfl) rfl rfl hl.1 rfl (lv_room (Nat.le_of_ble_eq_true rfl)) dX8_removeBreak_35 ⟨Nat.zero_le _, Nat.zero_le _⟩) hP hD hS hA [0, 1, 2, 3] [] [0, 1, 2, 3] rfl rfl rfl rfl rfl rfl (fun H locs hP hD hS => ?_)
      refine lv_aload_n hx hb dX8_removeBreak_38 rfl (lv_at hl 0 rfl) ?_
      refine va_get (D := D) (ci := 8) (v := .ref a_h_d) (C := RX8) (T := TX8) (N := 14) hx hb hts in_X8_removeBreak_X8 hown hK hP 0 rfl rfl 0 (by decide) (hts _ q_X8_removeBreak_1) (fun _ h9 => h9) rfl dX8_removeBreak_39 ?_
      refine lv_bipush (v := (26 : Int32)) hx hb dX8_removeBreak_42 (by decide) ?_
      refine lv_dup2_11 hx hb dX8_removeBreak_44 rfl rfl ?_
      refine wx_iald hx hb hK hP 1 0 rfl rfl 26 (by decide) (by unfold vp_in; decide) dX8_removeBreak_45 ?_
      refine lv_iconst (v := (1 : Int32)) hx hb dX8_removeBreak_46 (by decide) ?_
      refine lv_isub hx hb dX8_removeBreak_47 ?_
      refine lv_topi (fun t5 et5 => ?_)
      replace h := nm_at h et5
      refine wx_iast hx hb hK hP hD hS 1 0 rfl rfl 26 (by decide) (by unfold vp_in; decide) dX8_removeBreak_48 rfl (fun H locs hP hD hS => ?_)
      obtain ⟨g6, eg6, h⟩ := nm_x h
      have hP : va_P D vwCl [(a_h, .inr (8, [.ref a_h_d, .long v_account, .ref a_h_was, .ref a_h_accounts, .int u4.1, .int v_refused, .ref a_h_text, .int v_typed, .int v_at, .int v_sign, .int v_number, .ref a_h_aside, .ref a_h_places, .ref a_h_told])), (a_h_d, .inl (cI, 2086, .inl g6)), (a_h_was, .inl (cI, 10430, .inl u4.2.1)), (a_h_accounts, .inl (cJ, 5, .inr (.inl u4.2.2)))] H := by rw [eg6]; exact hP
      have hD : va_D A [(a_h, .inr (8, [.ref a_h_d, .long v_account, .ref a_h_was, .ref a_h_accounts, .int u4.1, .int v_refused, .ref a_h_text, .int v_typed, .int v_at, .int v_sign, .int v_number, .ref a_h_aside, .ref a_h_places, .ref a_h_told])), (a_h_d, .inl (cI, 2086, .inl g6)), (a_h_was, .inl (cI, 10430, .inl u4.2.1)), (a_h_accounts, .inl (cJ, 5, .inr (.inl u4.2.2)))] := by rw [eg6]; exact hD
      refine lv_iload_n hx hb dX8_removeBreak_49 rfl (lv_at hl 1 rfl) ?_
      refine lv_istore_n (lv' := [(2, .int p0), (0, .ref a_h), (1, .int p0)]) hx hb dX8_removeBreak_50 rfl hl (by decide) rfl (fun ls hl => ?_)
      exact B51 N p0 u4.1 g6 u4.2.1 u4.2.2 _ _ _ h hP hD hS (lv_sub hl [1, 2, 0] rfl)
    · replace h := in_e hc3 h
      refine lv_ldc (v := (-2000000002 : Int32)) hx hb hown (hts _ q_X8_removeBreak_3) dX8_removeBreak_31 ?_
      obtain rfl := sm_e h
      exact rx_i hx hb hr  hP hK hD hS dX8_removeBreak_33 hlocks
  · replace h := in_e hc2 h
    refine lv_ldc (v := (-2000000001 : Int32)) hx hb hown (hts _ q_X8_removeBreak_2) dX8_removeBreak_17 ?_
    obtain rfl := sm_e h
    exact rx_i hx hb hr  hP hK hD hS dX8_removeBreak_19 hlocks
-- X8_entry
def f_X8_entry (v_d_A : Nat → Int32) (p0 : Int32) (p1 : Int32) : Option (Int32) :=
  Option.bind (f_X8_in p0 (0 : Int32) (3 : Int32)) (fun u1 => (if u1 = 0 then some (-2000000001 : Int32)
    else (if 0 ≤ p1 then (if (2 : Int32) ≤ p0 then (if p1 < (v_d_A 26) then (if ¬ p0 = 0 then (if ¬ p0 = (1 : Int32) then (if ¬ p0 = (2 : Int32) then gA ((34 : Int32) + p1) 2086 (some (v_d_A (Int32.toNatClampNeg ((34 : Int32) + p1))))
    else gA ((27 : Int32) + p1) 2086 (some (v_d_A (Int32.toNatClampNeg ((27 : Int32) + p1)))))
    else gA ((18 : Int32) + p1) 2086 (some (v_d_A (Int32.toNatClampNeg ((18 : Int32) + p1)))))
    else gA ((10 : Int32) + p1) 2086 (some (v_d_A (Int32.toNatClampNeg ((10 : Int32) + p1)))))
    else some (-2000000004 : Int32))
    else (if p1 < (v_d_A 9) then (if ¬ p0 = 0 then (if ¬ p0 = (1 : Int32) then (if ¬ p0 = (2 : Int32) then gA ((34 : Int32) + p1) 2086 (some (v_d_A (Int32.toNatClampNeg ((34 : Int32) + p1))))
    else gA ((27 : Int32) + p1) 2086 (some (v_d_A (Int32.toNatClampNeg ((27 : Int32) + p1)))))
    else gA ((18 : Int32) + p1) 2086 (some (v_d_A (Int32.toNatClampNeg ((18 : Int32) + p1)))))
    else gA ((10 : Int32) + p1) 2086 (some (v_d_A (Int32.toNatClampNeg ((10 : Int32) + p1)))))
    else some (-2000000004 : Int32)))
    else some (-2000000001 : Int32))))
theorem q_X8_entry_1 : (.constant RX8 64 (-2000000001) : Cond) ∈ wsX8_entry := List.mem_of_getElem? (i := 1) (by decide +kernel)
theorem q_X8_entry_2 : (.fieldLink RX8 7 "SpringBalanceModel" "d" "[I" : Cond) ∈ wsX8_entry := List.mem_of_getElem? (i := 2) (by decide +kernel)
set_option maxRecDepth 20000 in
theorem in_X8_entry_X8 : ∀ w ∈ u_ws RX8 TX8 14, w ∈ wsX8_entry := by decide +kernel
theorem q_X8_entry_3 : (.constant RX8 96 (-2000000004) : Cond) ∈ wsX8_entry := List.mem_of_getElem? (i := 3) (by decide +kernel)
set_option maxHeartbeats 8000000 in
set_option maxRecDepth 100000 in
theorem k_X8_entry (l : Launch) (D : va_G) (cI cC cJ cB : ClassId) (a_h a_h_d a_h_was a_h_accounts a_h_text a_h_aside a_h_places a_h_told : Nat) (v_account : Int64) (v_states : Int32) (v_refused : Int32) (v_typed : Int32) (v_at : Int32) (v_sign : Int32) (v_number : Int32) (v_d_A : Nat → Int32) (N : Nat) (p0 : Int32) (p1 : Int32) (sz : Nat) (u : Int32) (hu : f_X8_entry v_d_A p0 p1 = some u) :
    Met l yX8_entry wsX8_entry ({ frames := 1, cells := 0, slots := 0, locals := 22 } : Room) (va_Pc [.ref a_h, .int p0, .int p1] (PreW D (ty4 cI cC cJ cB) sz [(a_h, .inr (8, [.ref a_h_d, .long v_account, .ref a_h_was, .ref a_h_accounts, .int v_states, .int v_refused, .ref a_h_text, .int v_typed, .int v_at, .int v_sign, .int v_number, .ref a_h_aside, .ref a_h_places, .ref a_h_told])), (a_h_d, .inl (cI, 2086, .inl v_d_A))]))
      (QI D (ty4 cI cC cJ cB) (va_A [(a_h, .inr (8, [.ref a_h_d, .long v_account, .ref a_h_was, .ref a_h_accounts, .int v_states, .int v_refused, .ref a_h_text, .int v_typed, .int v_at, .int v_sign, .int v_number, .ref a_h_aside, .ref a_h_places, .ref a_h_told])), (a_h_d, .inl (cI, 2086, .inl v_d_A))] sz) [(a_h, .inr (8, [.ref a_h_d, .long v_account, .ref a_h_was, .ref a_h_accounts, .int v_states, .int v_refused, .ref a_h_text, .int v_typed, .int v_at, .int v_sign, .int v_number, .ref a_h_aside, .ref a_h_places, .ref a_h_told])), (a_h_d, .inl (cI, 2086, .inl v_d_A))] u) 0 0 (va_A [(a_h, .inr (8, [.ref a_h_d, .long v_account, .ref a_h_was, .ref a_h_accounts, .int v_states, .int v_refused, .ref a_h_text, .int v_typed, .int v_at, .int v_sign, .int v_number, .ref a_h_aside, .ref a_h_places, .ref a_h_told])), (a_h_d, .inl (cI, 2086, .inl v_d_A))] sz) := by
  refine met_go (y := yX8_entry) (wsy := wsX8_entry) (cc := cX8_entry) (maxL := 3) (ret := (some .int)) (av := [.ref a_h, .int p0, .int p1]) (Qc := fun A => QI D (ty4 cI cC cJ cB) A [(a_h, .inr (8, [.ref a_h_d, .long v_account, .ref a_h_was, .ref a_h_accounts, .int v_states, .int v_refused, .ref a_h_text, .int v_typed, .int v_at, .int v_sign, .int v_number, .ref a_h_aside, .ref a_h_places, .ref a_h_told])), (a_h_d, .inl (cI, 2086, .inl v_d_A))] u) (by decide) rfl (Nat.le_of_ble_eq_true rfl) ?_
  intro p e s m below meth c A ls hx hb hr hml hown hts hlocks hnm hN hK hP hD hS hA hl
  have h := hu
  clear hu
  unfold f_X8_entry at h
  have hl : lv_has ls 3 [(0, .ref a_h), (1, .int p0), (2, .int p1)] := hl
  refine lv_iload_n hx hb dX8_entry_0 rfl (lv_at hl 1 rfl) ?_
  refine lv_iconst (v := (0 : Int32)) hx hb dX8_entry_1 (by decide) ?_
  refine lv_iconst (v := (3 : Int32)) hx hb dX8_entry_2 (by decide) ?_
  obtain ⟨u1, hu1, h⟩ := bd_e h
  refine kx_i (mc := 0) (ms := 0) (wr := [(a_h, .inr (8, [.ref a_h_d, .long v_account, .ref a_h_was, .ref a_h_accounts, .int v_states, .int v_refused, .ref a_h_text, .int v_typed, .int v_at, .int v_sign, .int v_number, .ref a_h_aside, .ref a_h_places, .ref a_h_told])), (a_h_d, .inl (cI, 2086, .inl v_d_A))]) (ws2 := [(a_h, .inr (8, [.ref a_h_d, .long v_account, .ref a_h_was, .ref a_h_accounts, .int v_states, .int v_refused, .ref a_h_text, .int v_typed, .int v_at, .int v_sign, .int v_number, .ref a_h_aside, .ref a_h_places, .ref a_h_told])), (a_h_d, .inl (cI, 2086, .inl v_d_A))]) (va_runS (As := [.int p0, .int (0 : Int32), .int (3 : Int32)]) (rest := []) ⟨hx, hb, hml, hown, hts⟩ (k_X8_in l D cI cC cJ cB N p0 (0 : Int32) (3 : Int32) s.heap.size _ hu1) (va_cwS 3 hts gX8_entry_X8_in rfl rfl rfl (by decide +kernel) ⟨Nat.le_of_ble_eq_true rfl, Nat.le_of_ble_eq_true rfl⟩) (pv_S hP hD hK hN [] rfl rfl) rfl rfl hl.1 rfl (lv_room (Nat.le_of_ble_eq_true rfl)) dX8_entry_3 ⟨Nat.zero_le _, Nat.zero_le _⟩) hP hD hS hA [] [0, 1] [0, 1] rfl rfl rfl rfl rfl rfl (fun H locs hP hD hS => ?_)
  refine lv_if_eq (tgt := 13) hx hb dX8_entry_6 (by decide) (fun hc2 => ?_) (fun hc2 => ?_)
  · replace h := it_e hc2 h
    refine lv_ldc (v := (-2000000001 : Int32)) hx hb hown (hts _ q_X8_entry_1) dX8_entry_13 ?_
    obtain rfl := sm_e h
    exact rx_i hx hb hr  hP hK hD hS dX8_entry_15 hlocks
  · replace h := if_e hc2 h
    refine lv_iload_n hx hb dX8_entry_9 rfl (lv_at hl 2 rfl) ?_
    refine lv_if_ge (tgt := 16) hx hb dX8_entry_10 (by decide) (fun hc3 => ?_) (fun hc3 => ?_)
    · replace h := it_e hc3 h
      refine lv_iload_n hx hb dX8_entry_16 rfl (lv_at hl 2 rfl) ?_
      refine lv_aload_n hx hb dX8_entry_17 rfl (lv_at hl 0 rfl) ?_
      refine va_get (D := D) (ci := 8) (v := .ref a_h_d) (C := RX8) (T := TX8) (N := 14) hx hb hts in_X8_entry_X8 hown hK hP 0 rfl rfl 0 (by decide) (hts _ q_X8_entry_2) (fun _ h9 => h9) rfl dX8_entry_18 ?_
      refine lv_iload_n hx hb dX8_entry_21 rfl (lv_at hl 1 rfl) ?_
      refine lv_iconst (v := (2 : Int32)) hx hb dX8_entry_22 (by decide) ?_
      refine lv_icmp_ge (tgt := 31) hx hb dX8_entry_23 (by decide) (fun hc4 => ?_) (fun hc4 => ?_)
      · replace h := it_e hc4 h
        refine lv_bipush (v := (26 : Int32)) hx hb dX8_entry_31 (by decide) ?_
        refine wx_iald hx hb hK hP 1 0 rfl rfl 26 (by decide) (by unfold vp_in; decide) dX8_entry_33 ?_
        refine lv_icmp_lt (tgt := 40) hx hb dX8_entry_34 (by decide) (fun hc5 => ?_) (fun hc5 => ?_)
        · replace h := it_e hc5 h
          refine lv_aload_n hx hb dX8_entry_40 rfl (lv_at hl 0 rfl) ?_
          refine va_get (D := D) (ci := 8) (v := .ref a_h_d) (C := RX8) (T := TX8) (N := 14) hx hb hts in_X8_entry_X8 hown hK hP 0 rfl rfl 0 (by decide) (hts _ q_X8_entry_2) (fun _ h9 => h9) rfl dX8_entry_41 ?_
          refine lv_iload_n hx hb dX8_entry_44 rfl (lv_at hl 1 rfl) ?_
          refine lv_if_ne (tgt := 53) hx hb dX8_entry_45 (by decide) (fun hc6 => ?_) (fun hc6 => ?_)
          · replace h := it_e hc6 h
            refine lv_iload_n hx hb dX8_entry_53 rfl (lv_at hl 1 rfl) ?_
            refine lv_iconst (v := (1 : Int32)) hx hb dX8_entry_54 (by decide) ?_
            refine lv_icmp_ne (tgt := 63) hx hb dX8_entry_55 (by decide) (fun hc7 => ?_) (fun hc7 => ?_)
            · replace h := it_e hc7 h
              refine lv_iload_n hx hb dX8_entry_63 rfl (lv_at hl 1 rfl) ?_
              refine lv_iconst (v := (2 : Int32)) hx hb dX8_entry_64 (by decide) ?_
              refine lv_icmp_ne (tgt := 73) hx hb dX8_entry_65 (by decide) (fun hc8 => ?_) (fun hc8 => ?_)
              · replace h := it_e hc8 h
                refine lv_bipush (v := (34 : Int32)) hx hb dX8_entry_73 (by decide) ?_
                refine lv_iload_n hx hb dX8_entry_75 rfl (lv_at hl 2 rfl) ?_
                refine lv_iadd hx hb dX8_entry_76 ?_
                obtain ⟨hi9, h⟩ := gA_e h
                refine wx_iald hx hb hK hP 1 0 rfl rfl (Int32.toNatClampNeg ((34 : Int32) + p1)) rfl hi9 dX8_entry_77 ?_
                obtain rfl := sm_e h
                exact rx_i hx hb hr  hP hK hD hS dX8_entry_78 hlocks
              · replace h := in_e hc8 h
                refine lv_bipush (v := (27 : Int32)) hx hb dX8_entry_68 (by decide) ?_
                refine lv_goto (tgt := 75) hx hb dX8_entry_70 (by decide) ?_
                refine lv_iload_n hx hb dX8_entry_75 rfl (lv_at hl 2 rfl) ?_
                refine lv_iadd hx hb dX8_entry_76 ?_
                obtain ⟨hi10, h⟩ := gA_e h
                refine wx_iald hx hb hK hP 1 0 rfl rfl (Int32.toNatClampNeg ((27 : Int32) + p1)) rfl hi10 dX8_entry_77 ?_
                obtain rfl := sm_e h
                exact rx_i hx hb hr  hP hK hD hS dX8_entry_78 hlocks
            · replace h := in_e hc7 h
              refine lv_bipush (v := (18 : Int32)) hx hb dX8_entry_58 (by decide) ?_
              refine lv_goto (tgt := 75) hx hb dX8_entry_60 (by decide) ?_
              refine lv_iload_n hx hb dX8_entry_75 rfl (lv_at hl 2 rfl) ?_
              refine lv_iadd hx hb dX8_entry_76 ?_
              obtain ⟨hi11, h⟩ := gA_e h
              refine wx_iald hx hb hK hP 1 0 rfl rfl (Int32.toNatClampNeg ((18 : Int32) + p1)) rfl hi11 dX8_entry_77 ?_
              obtain rfl := sm_e h
              exact rx_i hx hb hr  hP hK hD hS dX8_entry_78 hlocks
          · replace h := in_e hc6 h
            refine lv_bipush (v := (10 : Int32)) hx hb dX8_entry_48 (by decide) ?_
            refine lv_goto (tgt := 75) hx hb dX8_entry_50 (by decide) ?_
            refine lv_iload_n hx hb dX8_entry_75 rfl (lv_at hl 2 rfl) ?_
            refine lv_iadd hx hb dX8_entry_76 ?_
            obtain ⟨hi12, h⟩ := gA_e h
            refine wx_iald hx hb hK hP 1 0 rfl rfl (Int32.toNatClampNeg ((10 : Int32) + p1)) rfl hi12 dX8_entry_77 ?_
            obtain rfl := sm_e h
            exact rx_i hx hb hr  hP hK hD hS dX8_entry_78 hlocks
        · replace h := if_e hc5 h
          refine lv_ldc (v := (-2000000004 : Int32)) hx hb hown (hts _ q_X8_entry_3) dX8_entry_37 ?_
          obtain rfl := sm_e h
          exact rx_i hx hb hr  hP hK hD hS dX8_entry_39 hlocks
      · replace h := if_e hc4 h
        refine lv_bipush (v := (9 : Int32)) hx hb dX8_entry_26 (by decide) ?_
        refine lv_goto (tgt := 33) hx hb dX8_entry_28 (by decide) ?_
        refine wx_iald hx hb hK hP 1 0 rfl rfl 9 (by decide) (by unfold vp_in; decide) dX8_entry_33 ?_
        refine lv_icmp_lt (tgt := 40) hx hb dX8_entry_34 (by decide) (fun hc13 => ?_) (fun hc13 => ?_)
        · replace h := it_e hc13 h
          refine lv_aload_n hx hb dX8_entry_40 rfl (lv_at hl 0 rfl) ?_
          refine va_get (D := D) (ci := 8) (v := .ref a_h_d) (C := RX8) (T := TX8) (N := 14) hx hb hts in_X8_entry_X8 hown hK hP 0 rfl rfl 0 (by decide) (hts _ q_X8_entry_2) (fun _ h9 => h9) rfl dX8_entry_41 ?_
          refine lv_iload_n hx hb dX8_entry_44 rfl (lv_at hl 1 rfl) ?_
          refine lv_if_ne (tgt := 53) hx hb dX8_entry_45 (by decide) (fun hc14 => ?_) (fun hc14 => ?_)
          · replace h := it_e hc14 h
            refine lv_iload_n hx hb dX8_entry_53 rfl (lv_at hl 1 rfl) ?_
            refine lv_iconst (v := (1 : Int32)) hx hb dX8_entry_54 (by decide) ?_
            refine lv_icmp_ne (tgt := 63) hx hb dX8_entry_55 (by decide) (fun hc15 => ?_) (fun hc15 => ?_)
            · replace h := it_e hc15 h
              refine lv_iload_n hx hb dX8_entry_63 rfl (lv_at hl 1 rfl) ?_
              refine lv_iconst (v := (2 : Int32)) hx hb dX8_entry_64 (by decide) ?_
              refine lv_icmp_ne (tgt := 73) hx hb dX8_entry_65 (by decide) (fun hc16 => ?_) (fun hc16 => ?_)
              · replace h := it_e hc16 h
                refine lv_bipush (v := (34 : Int32)) hx hb dX8_entry_73 (by decide) ?_
                refine lv_iload_n hx hb dX8_entry_75 rfl (lv_at hl 2 rfl) ?_
                refine lv_iadd hx hb dX8_entry_76 ?_
                obtain ⟨hi17, h⟩ := gA_e h
                refine wx_iald hx hb hK hP 1 0 rfl rfl (Int32.toNatClampNeg ((34 : Int32) + p1)) rfl hi17 dX8_entry_77 ?_
                obtain rfl := sm_e h
                exact rx_i hx hb hr  hP hK hD hS dX8_entry_78 hlocks
              · replace h := in_e hc16 h
                refine lv_bipush (v := (27 : Int32)) hx hb dX8_entry_68 (by decide) ?_
                refine lv_goto (tgt := 75) hx hb dX8_entry_70 (by decide) ?_
                refine lv_iload_n hx hb dX8_entry_75 rfl (lv_at hl 2 rfl) ?_
                refine lv_iadd hx hb dX8_entry_76 ?_
                obtain ⟨hi18, h⟩ := gA_e h
                refine wx_iald hx hb hK hP 1 0 rfl rfl (Int32.toNatClampNeg ((27 : Int32) + p1)) rfl hi18 dX8_entry_77 ?_
                obtain rfl := sm_e h
                exact rx_i hx hb hr  hP hK hD hS dX8_entry_78 hlocks
            · replace h := in_e hc15 h
              refine lv_bipush (v := (18 : Int32)) hx hb dX8_entry_58 (by decide) ?_
              refine lv_goto (tgt := 75) hx hb dX8_entry_60 (by decide) ?_
              refine lv_iload_n hx hb dX8_entry_75 rfl (lv_at hl 2 rfl) ?_
              refine lv_iadd hx hb dX8_entry_76 ?_
              obtain ⟨hi19, h⟩ := gA_e h
              refine wx_iald hx hb hK hP 1 0 rfl rfl (Int32.toNatClampNeg ((18 : Int32) + p1)) rfl hi19 dX8_entry_77 ?_
              obtain rfl := sm_e h
              exact rx_i hx hb hr  hP hK hD hS dX8_entry_78 hlocks
          · replace h := in_e hc14 h
            refine lv_bipush (v := (10 : Int32)) hx hb dX8_entry_48 (by decide) ?_
            refine lv_goto (tgt := 75) hx hb dX8_entry_50 (by decide) ?_
            refine lv_iload_n hx hb dX8_entry_75 rfl (lv_at hl 2 rfl) ?_
            refine lv_iadd hx hb dX8_entry_76 ?_
            obtain ⟨hi20, h⟩ := gA_e h
            refine wx_iald hx hb hK hP 1 0 rfl rfl (Int32.toNatClampNeg ((10 : Int32) + p1)) rfl hi20 dX8_entry_77 ?_
            obtain rfl := sm_e h
            exact rx_i hx hb hr  hP hK hD hS dX8_entry_78 hlocks
        · replace h := if_e hc13 h
          refine lv_ldc (v := (-2000000004 : Int32)) hx hb hown (hts _ q_X8_entry_3) dX8_entry_37 ?_
          obtain rfl := sm_e h
          exact rx_i hx hb hr  hP hK hD hS dX8_entry_39 hlocks
    · replace h := if_e hc3 h
      refine lv_ldc (v := (-2000000001 : Int32)) hx hb hown (hts _ q_X8_entry_1) dX8_entry_13 ?_
      obtain rfl := sm_e h
      exact rx_i hx hb hr  hP hK hD hS dX8_entry_15 hlocks
-- X8_readingAt
def f_X8_readingAt (N : Nat) (v_d_A : Nat → Int32) (p0 : Int32) : Option (Int32) :=
  Option.bind (f_X8_in p0 (-1000 : Int32) (30000 : Int32)) (fun u1 => (if u1 = 0 then some (-2000000001 : Int32)
    else Option.bind (f_X8_readingOf N v_d_A p0) (fun u3 => some u3)))
theorem q_X8_readingAt_1 : (.constant RX8 64 (-2000000001) : Cond) ∈ wsX8_readingAt := List.mem_of_getElem? (i := 1) (by decide +kernel)
set_option maxHeartbeats 8000000 in
set_option maxRecDepth 100000 in
theorem k_X8_readingAt (l : Launch) (D : va_G) (cI cC cJ cB : ClassId) (a_h a_h_d a_h_was a_h_accounts a_h_text a_h_aside a_h_places a_h_told : Nat) (v_account : Int64) (v_states : Int32) (v_refused : Int32) (v_typed : Int32) (v_at : Int32) (v_sign : Int32) (v_number : Int32) (v_d_A : Nat → Int32) (N : Nat) (p0 : Int32) (sz : Nat) (u : Int32) (hu : f_X8_readingAt N v_d_A p0 = some u) :
    Met l yX8_readingAt wsX8_readingAt ({ frames := 2, cells := 0, slots := 0, locals := 50 } : Room) (va_Pc [.ref a_h, .int p0] (PreW D (ty4 cI cC cJ cB) sz [(a_h, .inr (8, [.ref a_h_d, .long v_account, .ref a_h_was, .ref a_h_accounts, .int v_states, .int v_refused, .ref a_h_text, .int v_typed, .int v_at, .int v_sign, .int v_number, .ref a_h_aside, .ref a_h_places, .ref a_h_told])), (a_h_d, .inl (cI, 2086, .inl v_d_A))]))
      (QI D (ty4 cI cC cJ cB) (va_A [(a_h, .inr (8, [.ref a_h_d, .long v_account, .ref a_h_was, .ref a_h_accounts, .int v_states, .int v_refused, .ref a_h_text, .int v_typed, .int v_at, .int v_sign, .int v_number, .ref a_h_aside, .ref a_h_places, .ref a_h_told])), (a_h_d, .inl (cI, 2086, .inl v_d_A))] sz) [(a_h, .inr (8, [.ref a_h_d, .long v_account, .ref a_h_was, .ref a_h_accounts, .int v_states, .int v_refused, .ref a_h_text, .int v_typed, .int v_at, .int v_sign, .int v_number, .ref a_h_aside, .ref a_h_places, .ref a_h_told])), (a_h_d, .inl (cI, 2086, .inl v_d_A))] u) 0 0 (va_A [(a_h, .inr (8, [.ref a_h_d, .long v_account, .ref a_h_was, .ref a_h_accounts, .int v_states, .int v_refused, .ref a_h_text, .int v_typed, .int v_at, .int v_sign, .int v_number, .ref a_h_aside, .ref a_h_places, .ref a_h_told])), (a_h_d, .inl (cI, 2086, .inl v_d_A))] sz) := by
  refine met_go (y := yX8_readingAt) (wsy := wsX8_readingAt) (cc := cX8_readingAt) (maxL := 2) (ret := (some .int)) (av := [.ref a_h, .int p0]) (Qc := fun A => QI D (ty4 cI cC cJ cB) A [(a_h, .inr (8, [.ref a_h_d, .long v_account, .ref a_h_was, .ref a_h_accounts, .int v_states, .int v_refused, .ref a_h_text, .int v_typed, .int v_at, .int v_sign, .int v_number, .ref a_h_aside, .ref a_h_places, .ref a_h_told])), (a_h_d, .inl (cI, 2086, .inl v_d_A))] u) (by decide) rfl (Nat.le_of_ble_eq_true rfl) ?_
  intro p e s m below meth c A ls hx hb hr hml hown hts hlocks hnm hN hK hP hD hS hA hl
  have h := hu
  clear hu
  unfold f_X8_readingAt at h
  have hl : lv_has ls 2 [(0, .ref a_h), (1, .int p0)] := hl
  refine lv_iload_n hx hb dX8_readingAt_0 rfl (lv_at hl 1 rfl) ?_
  refine lv_sipush (v := (-1000 : Int32)) hx hb dX8_readingAt_1 (by decide) ?_
  refine lv_sipush (v := (30000 : Int32)) hx hb dX8_readingAt_4 (by decide) ?_
  obtain ⟨u1, hu1, h⟩ := bd_e h
  refine kx_i (mc := 0) (ms := 0) (wr := [(a_h, .inr (8, [.ref a_h_d, .long v_account, .ref a_h_was, .ref a_h_accounts, .int v_states, .int v_refused, .ref a_h_text, .int v_typed, .int v_at, .int v_sign, .int v_number, .ref a_h_aside, .ref a_h_places, .ref a_h_told])), (a_h_d, .inl (cI, 2086, .inl v_d_A))]) (ws2 := [(a_h, .inr (8, [.ref a_h_d, .long v_account, .ref a_h_was, .ref a_h_accounts, .int v_states, .int v_refused, .ref a_h_text, .int v_typed, .int v_at, .int v_sign, .int v_number, .ref a_h_aside, .ref a_h_places, .ref a_h_told])), (a_h_d, .inl (cI, 2086, .inl v_d_A))]) (va_runS (As := [.int p0, .int (-1000 : Int32), .int (30000 : Int32)]) (rest := []) ⟨hx, hb, hml, hown, hts⟩ (k_X8_in l D cI cC cJ cB N p0 (-1000 : Int32) (30000 : Int32) s.heap.size _ hu1) (va_cwS 3 hts gX8_readingAt_X8_in rfl rfl rfl (by decide +kernel) ⟨Nat.le_of_ble_eq_true rfl, Nat.le_of_ble_eq_true rfl⟩) (pv_S hP hD hK hN [] rfl rfl) rfl rfl hl.1 rfl (lv_room (Nat.le_of_ble_eq_true rfl)) dX8_readingAt_7 ⟨Nat.zero_le _, Nat.zero_le _⟩) hP hD hS hA [] [0, 1] [0, 1] rfl rfl rfl rfl rfl rfl (fun H locs hP hD hS => ?_)
  refine lv_if_eq (tgt := 21) hx hb dX8_readingAt_10 (by decide) (fun hc2 => ?_) (fun hc2 => ?_)
  · replace h := it_e hc2 h
    refine lv_ldc (v := (-2000000001 : Int32)) hx hb hown (hts _ q_X8_readingAt_1) dX8_readingAt_21 ?_
    obtain rfl := sm_e h
    exact rx_i hx hb hr  hP hK hD hS dX8_readingAt_23 hlocks
  · replace h := if_e hc2 h
    refine lv_aload_n hx hb dX8_readingAt_13 rfl (lv_at hl 0 rfl) ?_
    refine lv_iload_n hx hb dX8_readingAt_14 rfl (lv_at hl 1 rfl) ?_
    obtain ⟨u3, hu3, h⟩ := bd_e h
    refine kx_i (mc := 0) (ms := 0) (wr := []) (ws2 := [(a_h, .inr (8, [.ref a_h_d, .long v_account, .ref a_h_was, .ref a_h_accounts, .int v_states, .int v_refused, .ref a_h_text, .int v_typed, .int v_at, .int v_sign, .int v_number, .ref a_h_aside, .ref a_h_places, .ref a_h_told])), (a_h_d, .inl (cI, 2086, .inl v_d_A))]) (va_runV (As := [.int p0]) (rest := []) ⟨hx, hb, hml, hown, hts⟩ (k_X8_readingOf l D cI cC cJ cB a_h a_h_d a_h_was a_h_accounts a_h_text a_h_aside a_h_places a_h_told v_account v_states v_refused v_typed v_at v_sign v_number v_d_A N p0 H.size _ hu3) (cwV 1 hts gX8_readingAt_X8_readingOf rfl rfl rfl (by decide +kernel) ⟨Nat.le_of_ble_eq_true rfl, Nat.le_of_ble_eq_true rfl⟩) (pv_V hP hD hK hN [0, 1] rfl rfl (ci := 8) rfl 0 rfl) rfl rfl hl.1 rfl (lv_room (Nat.le_of_ble_eq_true rfl)) dX8_readingAt_15 ⟨Nat.zero_le _, Nat.zero_le _⟩) hP hD hS hA [0, 1] [] [0, 1] rfl rfl rfl rfl rfl rfl (fun H locs hP hD hS => ?_)
    refine lv_goto (tgt := 23) hx hb dX8_readingAt_18 (by decide) ?_
    obtain rfl := sm_e h
    exact rx_i hx hb hr  hP hK hD hS dX8_readingAt_23 hlocks
-- Jxf58ca_isNaN_12338
def f_Jxf58ca_isNaN_12338 (p0 : UInt32) : Option (Int32) :=
  (if (Op.cmpValue (FP.fcmp p0 p0) .l) = 0 then some (0 : Int32)
    else some (1 : Int32))

set_option maxHeartbeats 8000000 in
set_option maxRecDepth 100000 in
theorem k_Jxf58ca_isNaN_12338 (l : Launch) (D : va_G) (cI cC cJ cB : ClassId) (N : Nat) (p0 : UInt32) (sz : Nat) (u : Int32) (hu : f_Jxf58ca_isNaN_12338 p0 = some u) :
    Met l yJxf58ca_isNaN_12338 wsJxf58ca_isNaN_12338 ({ frames := 0, cells := 0, slots := 0, locals := 0 } : Room) (va_Pc [.float p0] (PreW D (ty4 cI cC cJ cB) sz []))
      (QI D (ty4 cI cC cJ cB) (va_A [] sz) [] u) 0 0 (va_A [] sz) := by
  refine met_goF (y := yJxf58ca_isNaN_12338) (wsy := wsJxf58ca_isNaN_12338) (cc := cJxf58ca_isNaN_12338) (maxL := 1) (ret := (some .boolean)) (av := [.float p0]) (Qc := fun A => QI D (ty4 cI cC cJ cB) A [] u) (by decide +kernel) rfl (Nat.le_of_ble_eq_true rfl) ?_
  intro p e s m below meth c A ls hx hb hr hml hown hts hlocks hnm hN hK hP hD hS hA hl
  have h := hu
  clear hu
  unfold f_Jxf58ca_isNaN_12338 at h
  have hl : lv_has ls 1 [(0, .float p0)] := hl
  refine lv_fload_n hx hb dJxf58ca_isNaN_12338_0 rfl (lv_at hl 0 rfl) ?_
  refine lv_fload_n hx hb dJxf58ca_isNaN_12338_1 rfl (lv_at hl 0 rfl) ?_
  refine lv_fcmp hx hb dJxf58ca_isNaN_12338_2 ?_
  refine lv_if_eq (tgt := 10) hx hb dJxf58ca_isNaN_12338_3 (by decide) (fun hc1 => ?_) (fun hc1 => ?_)
  · replace h := it_e hc1 h
    refine lv_iconst (v := (0 : Int32)) hx hb dJxf58ca_isNaN_12338_10 (by decide) ?_
    obtain rfl := sm_e h
    exact rx_z hx hb hr rfl hP hK hD hS dJxf58ca_isNaN_12338_11 hlocks
  · replace h := if_e hc1 h
    refine lv_iconst (v := (1 : Int32)) hx hb dJxf58ca_isNaN_12338_6 (by decide) ?_
    refine lv_goto (tgt := 11) hx hb dJxf58ca_isNaN_12338_7 (by decide) ?_
    obtain rfl := sm_e h
    exact rx_z hx hb hr rfl hP hK hD hS dJxf58ca_isNaN_12338_11 hlocks
-- Jxf58ca_floatToIntBits_5c35a
def f_Jxf58ca_floatToIntBits_5c35a (p0 : UInt32) : Option (Int32) :=
  Option.bind (f_Jxf58ca_isNaN_12338 p0) (fun u1 => (if ¬ u1 = 0 then some (2143289344 : Int32)
    else some (UInt32.toInt32 p0)))
theorem q_Jxf58ca_floatToIntBits_5c35a_5 : (.constant RJxf58ca 77 (2143289344) : Cond) ∈ wsJxf58ca_floatToIntBits_5c35a := List.mem_of_getElem? (i := 5) (by decide +kernel)
theorem q_Jxf58ca_floatToIntBits_5c35a_1 : (.methodLink RJxf58ca 74 ⟨"java/lang/Float", "floatToRawIntBits", "(F)I"⟩ : Cond) ∈ wsJxf58ca_floatToIntBits_5c35a := List.mem_of_getElem? (i := 1) (by decide +kernel)
theorem q_Jxf58ca_floatToIntBits_5c35a_2 : (.native ⟨"java/lang/Float", "floatToRawIntBits", "(F)I"⟩ : Cond) ∈ wsJxf58ca_floatToIntBits_5c35a := List.mem_of_getElem? (i := 2) (by decide +kernel)
theorem q_Jxf58ca_floatToIntBits_5c35a_3 : (.static ⟨"java/lang/Float", "floatToRawIntBits", "(F)I"⟩ : Cond) ∈ wsJxf58ca_floatToIntBits_5c35a := List.mem_of_getElem? (i := 3) (by decide +kernel)
theorem q_Jxf58ca_floatToIntBits_5c35a_4 : (.initialized "java/lang/Float" : Cond) ∈ wsJxf58ca_floatToIntBits_5c35a := List.mem_of_getElem? (i := 4) (by decide +kernel)
set_option maxHeartbeats 8000000 in
set_option maxRecDepth 100000 in
theorem k_Jxf58ca_floatToIntBits_5c35a (l : Launch) (D : va_G) (cI cC cJ cB : ClassId) (N : Nat) (p0 : UInt32) (sz : Nat) (u : Int32) (hu : f_Jxf58ca_floatToIntBits_5c35a p0 = some u) :
    Met l yJxf58ca_floatToIntBits_5c35a wsJxf58ca_floatToIntBits_5c35a ({ frames := 1, cells := 0, slots := 0, locals := 23 } : Room) (va_Pc [.float p0] (PreW D (ty4 cI cC cJ cB) sz []))
      (QI D (ty4 cI cC cJ cB) (va_A [] sz) [] u) 0 0 (va_A [] sz) := by
  refine met_goF (y := yJxf58ca_floatToIntBits_5c35a) (wsy := wsJxf58ca_floatToIntBits_5c35a) (cc := cJxf58ca_floatToIntBits_5c35a) (maxL := 1) (ret := (some .int)) (av := [.float p0]) (Qc := fun A => QI D (ty4 cI cC cJ cB) A [] u) (by decide +kernel) rfl (Nat.le_of_ble_eq_true rfl) ?_
  intro p e s m below meth c A ls hx hb hr hml hown hts hlocks hnm hN hK hP hD hS hA hl
  have h := hu
  clear hu
  unfold f_Jxf58ca_floatToIntBits_5c35a at h
  have hl : lv_has ls 1 [(0, .float p0)] := hl
  refine lv_fload_n hx hb dJxf58ca_floatToIntBits_5c35a_0 rfl (lv_at hl 0 rfl) ?_
  obtain ⟨u1, hu1, h⟩ := bd_e h
  refine kx_i (mc := 0) (ms := 0) (wr := []) (ws2 := []) (va_runS (As := [.float p0]) (rest := []) ⟨hx, hb, hml, hown, hts⟩ (k_Jxf58ca_isNaN_12338 l D cI cC cJ cB N p0 s.heap.size _ hu1) (va_cwS 1 hts gJxf58ca_floatToIntBits_5c35a_Jxf58ca_isNaN_12338 rfl rfl rfl (by decide +kernel) ⟨Nat.le_of_ble_eq_true rfl, Nat.le_of_ble_eq_true rfl⟩) (pv_S hP hD hK hN [] rfl rfl) rfl rfl hl.1 rfl (lv_room (Nat.le_of_ble_eq_true rfl)) dJxf58ca_floatToIntBits_5c35a_1 ⟨Nat.zero_le _, Nat.zero_le _⟩) hP hD hS hA [] [] [] rfl rfl rfl rfl rfl rfl (fun H locs hP hD hS => ?_)
  refine lv_if_ne (tgt := 12) hx hb dJxf58ca_floatToIntBits_5c35a_4 (by decide) (fun hc2 => ?_) (fun hc2 => ?_)
  · replace h := it_e hc2 h
    refine lv_ldc (v := (2143289344 : Int32)) hx hb hown (hts _ q_Jxf58ca_floatToIntBits_5c35a_5) dJxf58ca_floatToIntBits_5c35a_12 ?_
    obtain rfl := sm_e h
    exact rx_i hx hb hr  hP hK hD hS dJxf58ca_floatToIntBits_5c35a_14 hlocks
  · replace h := in_e hc2 h
    refine lv_fload_n hx hb dJxf58ca_floatToIntBits_5c35a_7 rfl (lv_at hl 0 rfl) ?_
    refine vn_f2i hx hb (hml.trans hl.1.symm) hown (hts _ q_Jxf58ca_floatToIntBits_5c35a_1) (hts _ q_Jxf58ca_floatToIntBits_5c35a_2) (hts _ q_Jxf58ca_floatToIntBits_5c35a_3) (hts _ q_Jxf58ca_floatToIntBits_5c35a_4) (by decide) (Nat.le_of_ble_eq_true rfl) dJxf58ca_floatToIntBits_5c35a_8 ?_
    obtain rfl := sm_e h
    exact rx_i hx hb hr  hP hK hD hS dJxf58ca_floatToIntBits_5c35a_11 hlocks
-- X8_slopeBits
def f_X8_slopeBits (v_d_A : Nat → Int32) (p0 : Int32) : Option (Int32) :=
  (if 0 ≤ p0 then (if p0 < ((v_d_A 26) - (1 : Int32)) then gA (((34 : Int32) + p0) + (1 : Int32)) 2086 (gA ((34 : Int32) + p0) 2086 (nm ((v_d_A (Int32.toNatClampNeg (((34 : Int32) + p0) + (1 : Int32)))) - (v_d_A (Int32.toNatClampNeg ((34 : Int32) + p0)))) (fun t5 => gA (((27 : Int32) + p0) + (1 : Int32)) 2086 (gA ((27 : Int32) + p0) 2086 (nm ((v_d_A (Int32.toNatClampNeg (((27 : Int32) + p0) + (1 : Int32)))) - (v_d_A (Int32.toNatClampNeg ((27 : Int32) + p0)))) (fun t8 => gT ((FP.fdiv (FP.i2f t5) (FP.i2f t8)) &&& 0x7fffffff ≤ 0x7f800000) (Option.bind (f_Jxf58ca_floatToIntBits_5c35a (FP.fdiv (FP.i2f t5) (FP.i2f t8))) (fun u10 => some u10))))))))
    else some (-2000000004 : Int32))
    else some (-2000000001 : Int32))
theorem q_X8_slopeBits_2 : (.fieldLink RX8 7 "SpringBalanceModel" "d" "[I" : Cond) ∈ wsX8_slopeBits := List.mem_of_getElem? (i := 2) (by decide +kernel)
set_option maxRecDepth 20000 in
theorem in_X8_slopeBits_X8 : ∀ w ∈ u_ws RX8 TX8 14, w ∈ wsX8_slopeBits := by decide +kernel
theorem q_X8_slopeBits_3 : (.constant RX8 96 (-2000000004) : Cond) ∈ wsX8_slopeBits := List.mem_of_getElem? (i := 3) (by decide +kernel)
theorem q_X8_slopeBits_1 : (.constant RX8 64 (-2000000001) : Cond) ∈ wsX8_slopeBits := List.mem_of_getElem? (i := 1) (by decide +kernel)
set_option maxHeartbeats 8000000 in
set_option maxRecDepth 100000 in
theorem k_X8_slopeBits (l : Launch) (D : va_G) (cI cC cJ cB : ClassId) (a_h a_h_d a_h_was a_h_accounts a_h_text a_h_aside a_h_places a_h_told : Nat) (v_account : Int64) (v_states : Int32) (v_refused : Int32) (v_typed : Int32) (v_at : Int32) (v_sign : Int32) (v_number : Int32) (v_d_A : Nat → Int32) (N : Nat) (p0 : Int32) (sz : Nat) (u : Int32) (hu : f_X8_slopeBits v_d_A p0 = some u) :
    Met l yX8_slopeBits wsX8_slopeBits ({ frames := 2, cells := 0, slots := 0, locals := 43 } : Room) (va_Pc [.ref a_h, .int p0] (PreW D (ty4 cI cC cJ cB) sz [(a_h, .inr (8, [.ref a_h_d, .long v_account, .ref a_h_was, .ref a_h_accounts, .int v_states, .int v_refused, .ref a_h_text, .int v_typed, .int v_at, .int v_sign, .int v_number, .ref a_h_aside, .ref a_h_places, .ref a_h_told])), (a_h_d, .inl (cI, 2086, .inl v_d_A))]))
      (QI D (ty4 cI cC cJ cB) (va_A [(a_h, .inr (8, [.ref a_h_d, .long v_account, .ref a_h_was, .ref a_h_accounts, .int v_states, .int v_refused, .ref a_h_text, .int v_typed, .int v_at, .int v_sign, .int v_number, .ref a_h_aside, .ref a_h_places, .ref a_h_told])), (a_h_d, .inl (cI, 2086, .inl v_d_A))] sz) [(a_h, .inr (8, [.ref a_h_d, .long v_account, .ref a_h_was, .ref a_h_accounts, .int v_states, .int v_refused, .ref a_h_text, .int v_typed, .int v_at, .int v_sign, .int v_number, .ref a_h_aside, .ref a_h_places, .ref a_h_told])), (a_h_d, .inl (cI, 2086, .inl v_d_A))] u) 0 0 (va_A [(a_h, .inr (8, [.ref a_h_d, .long v_account, .ref a_h_was, .ref a_h_accounts, .int v_states, .int v_refused, .ref a_h_text, .int v_typed, .int v_at, .int v_sign, .int v_number, .ref a_h_aside, .ref a_h_places, .ref a_h_told])), (a_h_d, .inl (cI, 2086, .inl v_d_A))] sz) := by
  refine met_go (y := yX8_slopeBits) (wsy := wsX8_slopeBits) (cc := cX8_slopeBits) (maxL := 4) (ret := (some .int)) (av := [.ref a_h, .int p0]) (Qc := fun A => QI D (ty4 cI cC cJ cB) A [(a_h, .inr (8, [.ref a_h_d, .long v_account, .ref a_h_was, .ref a_h_accounts, .int v_states, .int v_refused, .ref a_h_text, .int v_typed, .int v_at, .int v_sign, .int v_number, .ref a_h_aside, .ref a_h_places, .ref a_h_told])), (a_h_d, .inl (cI, 2086, .inl v_d_A))] u) (by decide) rfl (Nat.le_of_ble_eq_true rfl) ?_
  intro p e s m below meth c A ls hx hb hr hml hown hts hlocks hnm hN hK hP hD hS hA hl
  have h := hu
  clear hu
  unfold f_X8_slopeBits at h
  have hl : lv_has ls 4 [(0, .ref a_h), (1, .int p0)] := hl
  refine lv_iload_n hx hb dX8_slopeBits_0 rfl (lv_at hl 1 rfl) ?_
  refine lv_if_ge (tgt := 7) hx hb dX8_slopeBits_1 (by decide) (fun hc1 => ?_) (fun hc1 => ?_)
  · replace h := it_e hc1 h
    refine lv_iload_n hx hb dX8_slopeBits_7 rfl (lv_at hl 1 rfl) ?_
    refine lv_aload_n hx hb dX8_slopeBits_8 rfl (lv_at hl 0 rfl) ?_
    refine va_get (D := D) (ci := 8) (v := .ref a_h_d) (C := RX8) (T := TX8) (N := 14) hx hb hts in_X8_slopeBits_X8 hown hK hP 0 rfl rfl 0 (by decide) (hts _ q_X8_slopeBits_2) (fun _ h9 => h9) rfl dX8_slopeBits_9 ?_
    refine lv_bipush (v := (26 : Int32)) hx hb dX8_slopeBits_12 (by decide) ?_
    refine wx_iald hx hb hK hP 1 0 rfl rfl 26 (by decide) (by unfold vp_in; decide) dX8_slopeBits_14 ?_
    refine lv_iconst (v := (1 : Int32)) hx hb dX8_slopeBits_15 (by decide) ?_
    refine lv_isub hx hb dX8_slopeBits_16 ?_
    refine lv_icmp_lt (tgt := 23) hx hb dX8_slopeBits_17 (by decide) (fun hc2 => ?_) (fun hc2 => ?_)
    · replace h := it_e hc2 h
      refine lv_aload_n hx hb dX8_slopeBits_23 rfl (lv_at hl 0 rfl) ?_
      refine va_get (D := D) (ci := 8) (v := .ref a_h_d) (C := RX8) (T := TX8) (N := 14) hx hb hts in_X8_slopeBits_X8 hown hK hP 0 rfl rfl 0 (by decide) (hts _ q_X8_slopeBits_2) (fun _ h9 => h9) rfl dX8_slopeBits_24 ?_
      refine lv_bipush (v := (34 : Int32)) hx hb dX8_slopeBits_27 (by decide) ?_
      refine lv_iload_n hx hb dX8_slopeBits_29 rfl (lv_at hl 1 rfl) ?_
      refine lv_iadd hx hb dX8_slopeBits_30 ?_
      refine lv_iconst (v := (1 : Int32)) hx hb dX8_slopeBits_31 (by decide) ?_
      refine lv_iadd hx hb dX8_slopeBits_32 ?_
      obtain ⟨hi3, h⟩ := gA_e h
      refine wx_iald hx hb hK hP 1 0 rfl rfl (Int32.toNatClampNeg (((34 : Int32) + p0) + (1 : Int32))) rfl hi3 dX8_slopeBits_33 ?_
      refine lv_aload_n hx hb dX8_slopeBits_34 rfl (lv_at hl 0 rfl) ?_
      refine va_get (D := D) (ci := 8) (v := .ref a_h_d) (C := RX8) (T := TX8) (N := 14) hx hb hts in_X8_slopeBits_X8 hown hK hP 0 rfl rfl 0 (by decide) (hts _ q_X8_slopeBits_2) (fun _ h9 => h9) rfl dX8_slopeBits_35 ?_
      refine lv_bipush (v := (34 : Int32)) hx hb dX8_slopeBits_38 (by decide) ?_
      refine lv_iload_n hx hb dX8_slopeBits_40 rfl (lv_at hl 1 rfl) ?_
      refine lv_iadd hx hb dX8_slopeBits_41 ?_
      obtain ⟨hi4, h⟩ := gA_e h
      refine wx_iald hx hb hK hP 1 0 rfl rfl (Int32.toNatClampNeg ((34 : Int32) + p0)) rfl hi4 dX8_slopeBits_42 ?_
      refine lv_isub hx hb dX8_slopeBits_43 ?_
      refine lv_topi (fun t5 et5 => ?_)
      replace h := nm_at h et5
      refine lv_istore_n (lv' := [(2, .int t5), (0, .ref a_h), (1, .int p0)]) hx hb dX8_slopeBits_44 rfl hl (by decide) rfl (fun ls hl => ?_)
      refine lv_aload_n hx hb dX8_slopeBits_45 rfl (lv_at hl 1 rfl) ?_
      refine va_get (D := D) (ci := 8) (v := .ref a_h_d) (C := RX8) (T := TX8) (N := 14) hx hb hts in_X8_slopeBits_X8 hown hK hP 0 rfl rfl 0 (by decide) (hts _ q_X8_slopeBits_2) (fun _ h9 => h9) rfl dX8_slopeBits_46 ?_
      refine lv_bipush (v := (27 : Int32)) hx hb dX8_slopeBits_49 (by decide) ?_
      refine lv_iload_n hx hb dX8_slopeBits_51 rfl (lv_at hl 2 rfl) ?_
      refine lv_iadd hx hb dX8_slopeBits_52 ?_
      refine lv_iconst (v := (1 : Int32)) hx hb dX8_slopeBits_53 (by decide) ?_
      refine lv_iadd hx hb dX8_slopeBits_54 ?_
      obtain ⟨hi6, h⟩ := gA_e h
      refine wx_iald hx hb hK hP 1 0 rfl rfl (Int32.toNatClampNeg (((27 : Int32) + p0) + (1 : Int32))) rfl hi6 dX8_slopeBits_55 ?_
      refine lv_aload_n hx hb dX8_slopeBits_56 rfl (lv_at hl 1 rfl) ?_
      refine va_get (D := D) (ci := 8) (v := .ref a_h_d) (C := RX8) (T := TX8) (N := 14) hx hb hts in_X8_slopeBits_X8 hown hK hP 0 rfl rfl 0 (by decide) (hts _ q_X8_slopeBits_2) (fun _ h9 => h9) rfl dX8_slopeBits_57 ?_
      refine lv_bipush (v := (27 : Int32)) hx hb dX8_slopeBits_60 (by decide) ?_
      refine lv_iload_n hx hb dX8_slopeBits_62 rfl (lv_at hl 2 rfl) ?_
      refine lv_iadd hx hb dX8_slopeBits_63 ?_
      obtain ⟨hi7, h⟩ := gA_e h
      refine wx_iald hx hb hK hP 1 0 rfl rfl (Int32.toNatClampNeg ((27 : Int32) + p0)) rfl hi7 dX8_slopeBits_64 ?_
      refine lv_isub hx hb dX8_slopeBits_65 ?_
      refine lv_topi (fun t8 et8 => ?_)
      replace h := nm_at h et8
      refine lv_istore_n (lv' := [(3, .int t8), (2, .int t5), (0, .ref a_h), (1, .int p0)]) hx hb dX8_slopeBits_66 rfl hl (by decide) rfl (fun ls hl => ?_)
      refine lv_iload_n hx hb dX8_slopeBits_67 rfl (lv_at hl 1 rfl) ?_
      refine lv_i2f hx hb dX8_slopeBits_68 ?_
      refine lv_iload_n hx hb dX8_slopeBits_69 rfl (lv_at hl 0 rfl) ?_
      refine lv_i2f hx hb dX8_slopeBits_70 ?_
      obtain ⟨hz9, h⟩ := gT_e h
      refine lv_fdiv hx hb dX8_slopeBits_71 hz9 ?_
      obtain ⟨u10, hu10, h⟩ := bd_e h
      refine kx_i (mc := 0) (ms := 0) (wr := [(a_h, .inr (8, [.ref a_h_d, .long v_account, .ref a_h_was, .ref a_h_accounts, .int v_states, .int v_refused, .ref a_h_text, .int v_typed, .int v_at, .int v_sign, .int v_number, .ref a_h_aside, .ref a_h_places, .ref a_h_told])), (a_h_d, .inl (cI, 2086, .inl v_d_A))]) (ws2 := [(a_h, .inr (8, [.ref a_h_d, .long v_account, .ref a_h_was, .ref a_h_accounts, .int v_states, .int v_refused, .ref a_h_text, .int v_typed, .int v_at, .int v_sign, .int v_number, .ref a_h_aside, .ref a_h_places, .ref a_h_told])), (a_h_d, .inl (cI, 2086, .inl v_d_A))]) (va_runS (As := [.float (FP.fdiv (FP.i2f t5) (FP.i2f t8))]) (rest := []) ⟨hx, hb, hml, hown, hts⟩ (k_Jxf58ca_floatToIntBits_5c35a l D cI cC cJ cB N (FP.fdiv (FP.i2f t5) (FP.i2f t8)) s.heap.size _ hu10) (va_cwS 1 hts gX8_slopeBits_Jxf58ca_floatToIntBits_5c35a rfl rfl rfl (by decide +kernel) ⟨Nat.le_of_ble_eq_true rfl, Nat.le_of_ble_eq_true rfl⟩) (pv_S hP hD hK hN [] rfl rfl) rfl rfl hl.1 rfl (lv_room (Nat.le_of_ble_eq_true rfl)) dX8_slopeBits_72 ⟨Nat.zero_le _, Nat.zero_le _⟩) hP hD hS hA [] [0, 1] [0, 1] rfl rfl rfl rfl rfl rfl (fun H locs hP hD hS => ?_)
      obtain rfl := sm_e h
      exact rx_i hx hb hr  hP hK hD hS dX8_slopeBits_75 hlocks
    · replace h := if_e hc2 h
      refine lv_ldc (v := (-2000000004 : Int32)) hx hb hown (hts _ q_X8_slopeBits_3) dX8_slopeBits_20 ?_
      obtain rfl := sm_e h
      exact rx_i hx hb hr  hP hK hD hS dX8_slopeBits_22 hlocks
  · replace h := if_e hc1 h
    refine lv_ldc (v := (-2000000001 : Int32)) hx hb hown (hts _ q_X8_slopeBits_1) dX8_slopeBits_4 ?_
    obtain rfl := sm_e h
    exact rx_i hx hb hr  hP hK hD hS dX8_slopeBits_6 hlocks
-- X8_set
def f_X8_set (N : Nat) (v_account : Int64) (v_states : Int32) (v_d_A : Nat → Int32) (v_was_A : Nat → Int32) (v_accounts_A : Nat → Int64) (p0 : Int32) (p1 : Int32) : Option (Int32 × Int32 × (Nat → Int32) × (Nat → Int32) × (Nat → Int64)) :=
  Option.bind (f_X8_in p0 (0 : Int32) (2 : Int32)) (fun u1 => (if u1 = 0 then some ((-2000000001 : Int32), v_states, v_d_A, v_was_A, v_accounts_A)
    else (if ¬ p0 = 0 then (if ¬ p0 = (1 : Int32) then Option.bind (f_X8_in p1 (0 : Int32) (50 : Int32)) (fun u5 => (if ¬ u5 = 0 then Option.bind (f_X8_records N v_account v_states v_d_A v_was_A v_accounts_A) (fun u7 => gA ((6 : Int32) + p0) 2086 (nm (v_d_A (Int32.toNatClampNeg ((6 : Int32) + p0))) (fun t9 => gA ((6 : Int32) + p0) 2086 (nm (upd v_d_A (Int32.toNatClampNeg ((6 : Int32) + p0)) p1) (fun g11 => some (t9, u7.1, g11, u7.2.1, u7.2.2))))))
    else some ((-2000000001 : Int32), v_states, v_d_A, v_was_A, v_accounts_A)))
    else Option.bind (f_X8_in p1 (0 : Int32) (100 : Int32)) (fun u12 => (if ¬ u12 = 0 then Option.bind (f_X8_records N v_account v_states v_d_A v_was_A v_accounts_A) (fun u14 => gA ((6 : Int32) + p0) 2086 (nm (v_d_A (Int32.toNatClampNeg ((6 : Int32) + p0))) (fun t16 => gA ((6 : Int32) + p0) 2086 (nm (upd v_d_A (Int32.toNatClampNeg ((6 : Int32) + p0)) p1) (fun g18 => some (t16, u14.1, g18, u14.2.1, u14.2.2))))))
    else some ((-2000000001 : Int32), v_states, v_d_A, v_was_A, v_accounts_A))))
    else Option.bind (f_X8_in p1 (0 : Int32) (200 : Int32)) (fun u19 => (if ¬ u19 = 0 then Option.bind (f_X8_records N v_account v_states v_d_A v_was_A v_accounts_A) (fun u21 => gA ((6 : Int32) + p0) 2086 (nm (v_d_A (Int32.toNatClampNeg ((6 : Int32) + p0))) (fun t23 => gA ((6 : Int32) + p0) 2086 (nm (upd v_d_A (Int32.toNatClampNeg ((6 : Int32) + p0)) p1) (fun g25 => some (t23, u21.1, g25, u21.2.1, u21.2.2))))))
    else some ((-2000000001 : Int32), v_states, v_d_A, v_was_A, v_accounts_A))))))
theorem q_X8_set_1 : (.constant RX8 64 (-2000000001) : Cond) ∈ wsX8_set := List.mem_of_getElem? (i := 1) (by decide +kernel)
theorem q_X8_set_2 : (.fieldLink RX8 7 "SpringBalanceModel" "d" "[I" : Cond) ∈ wsX8_set := List.mem_of_getElem? (i := 2) (by decide +kernel)
set_option maxRecDepth 20000 in
theorem in_X8_set_X8 : ∀ w ∈ u_ws RX8 TX8 14, w ∈ wsX8_set := by decide +kernel
set_option maxHeartbeats 8000000 in
set_option maxRecDepth 100000 in
theorem k_X8_set (l : Launch) (D : va_G) (cI cC cJ cB : ClassId) (a_h a_h_d a_h_was a_h_accounts a_h_text a_h_aside a_h_places a_h_told : Nat) (v_account : Int64) (v_states : Int32) (v_refused : Int32) (v_typed : Int32) (v_at : Int32) (v_sign : Int32) (v_number : Int32) (v_d_A : Nat → Int32) (v_was_A : Nat → Int32) (v_accounts_A : Nat → Int64) (N : Nat) (p0 : Int32) (p1 : Int32) (sz : Nat) (u : Int32 × Int32 × (Nat → Int32) × (Nat → Int32) × (Nat → Int64)) (hu : f_X8_set N v_account v_states v_d_A v_was_A v_accounts_A p0 p1 = some u) :
    Met l yX8_set wsX8_set ({ frames := 1, cells := 0, slots := 0, locals := 22 } : Room) (va_Pc [.ref a_h, .int p0, .int p1] (PreW D (ty4 cI cC cJ cB) sz [(a_h, .inr (8, [.ref a_h_d, .long v_account, .ref a_h_was, .ref a_h_accounts, .int v_states, .int v_refused, .ref a_h_text, .int v_typed, .int v_at, .int v_sign, .int v_number, .ref a_h_aside, .ref a_h_places, .ref a_h_told])), (a_h_d, .inl (cI, 2086, .inl v_d_A)), (a_h_was, .inl (cI, 10430, .inl v_was_A)), (a_h_accounts, .inl (cJ, 5, .inr (.inl v_accounts_A)))]))
      (QI D (ty4 cI cC cJ cB) (va_A [(a_h, .inr (8, [.ref a_h_d, .long v_account, .ref a_h_was, .ref a_h_accounts, .int v_states, .int v_refused, .ref a_h_text, .int v_typed, .int v_at, .int v_sign, .int v_number, .ref a_h_aside, .ref a_h_places, .ref a_h_told])), (a_h_d, .inl (cI, 2086, .inl v_d_A)), (a_h_was, .inl (cI, 10430, .inl v_was_A)), (a_h_accounts, .inl (cJ, 5, .inr (.inl v_accounts_A)))] sz) [(a_h, .inr (8, [.ref a_h_d, .long v_account, .ref a_h_was, .ref a_h_accounts, .int u.2.1, .int v_refused, .ref a_h_text, .int v_typed, .int v_at, .int v_sign, .int v_number, .ref a_h_aside, .ref a_h_places, .ref a_h_told])), (a_h_d, .inl (cI, 2086, .inl u.2.2.1)), (a_h_was, .inl (cI, 10430, .inl u.2.2.2.1)), (a_h_accounts, .inl (cJ, 5, .inr (.inl u.2.2.2.2)))] u.1) 0 0 (va_A [(a_h, .inr (8, [.ref a_h_d, .long v_account, .ref a_h_was, .ref a_h_accounts, .int v_states, .int v_refused, .ref a_h_text, .int v_typed, .int v_at, .int v_sign, .int v_number, .ref a_h_aside, .ref a_h_places, .ref a_h_told])), (a_h_d, .inl (cI, 2086, .inl v_d_A)), (a_h_was, .inl (cI, 10430, .inl v_was_A)), (a_h_accounts, .inl (cJ, 5, .inr (.inl v_accounts_A)))] sz) := by
  refine met_go (y := yX8_set) (wsy := wsX8_set) (cc := cX8_set) (maxL := 4) (ret := (some .int)) (av := [.ref a_h, .int p0, .int p1]) (Qc := fun A => QI D (ty4 cI cC cJ cB) A [(a_h, .inr (8, [.ref a_h_d, .long v_account, .ref a_h_was, .ref a_h_accounts, .int u.2.1, .int v_refused, .ref a_h_text, .int v_typed, .int v_at, .int v_sign, .int v_number, .ref a_h_aside, .ref a_h_places, .ref a_h_told])), (a_h_d, .inl (cI, 2086, .inl u.2.2.1)), (a_h_was, .inl (cI, 10430, .inl u.2.2.2.1)), (a_h_accounts, .inl (cJ, 5, .inr (.inl u.2.2.2.2)))] u.1) (by decide) rfl (Nat.le_of_ble_eq_true rfl) ?_
  intro p e s m below meth c A ls hx hb hr hml hown hts hlocks hnm hN hK hP hD hS hA hl
  have h := hu
  clear hu
  unfold f_X8_set at h
  have hl : lv_has ls 4 [(0, .ref a_h), (1, .int p0), (2, .int p1)] := hl
  refine lv_iload_n hx hb dX8_set_0 rfl (lv_at hl 1 rfl) ?_
  refine lv_iconst (v := (0 : Int32)) hx hb dX8_set_1 (by decide) ?_
  refine lv_iconst (v := (2 : Int32)) hx hb dX8_set_2 (by decide) ?_
  obtain ⟨u1, hu1, h⟩ := bd_e h
  refine kx_i (mc := 0) (ms := 0) (wr := [(a_h, .inr (8, [.ref a_h_d, .long v_account, .ref a_h_was, .ref a_h_accounts, .int v_states, .int v_refused, .ref a_h_text, .int v_typed, .int v_at, .int v_sign, .int v_number, .ref a_h_aside, .ref a_h_places, .ref a_h_told])), (a_h_d, .inl (cI, 2086, .inl v_d_A)), (a_h_was, .inl (cI, 10430, .inl v_was_A)), (a_h_accounts, .inl (cJ, 5, .inr (.inl v_accounts_A)))]) (ws2 := [(a_h, .inr (8, [.ref a_h_d, .long v_account, .ref a_h_was, .ref a_h_accounts, .int v_states, .int v_refused, .ref a_h_text, .int v_typed, .int v_at, .int v_sign, .int v_number, .ref a_h_aside, .ref a_h_places, .ref a_h_told])), (a_h_d, .inl (cI, 2086, .inl v_d_A)), (a_h_was, .inl (cI, 10430, .inl v_was_A)), (a_h_accounts, .inl (cJ, 5, .inr (.inl v_accounts_A)))]) (va_runS (As := [.int p0, .int (0 : Int32), .int (2 : Int32)]) (rest := []) ⟨hx, hb, hml, hown, hts⟩ (k_X8_in l D cI cC cJ cB N p0 (0 : Int32) (2 : Int32) s.heap.size _ hu1) (va_cwS 3 hts gX8_set_X8_in rfl rfl rfl (by decide +kernel) ⟨Nat.le_of_ble_eq_true rfl, Nat.le_of_ble_eq_true rfl⟩) (pv_S hP hD hK hN [] rfl rfl) rfl rfl hl.1 rfl (lv_room (Nat.le_of_ble_eq_true rfl)) dX8_set_3 ⟨Nat.zero_le _, Nat.zero_le _⟩) hP hD hS hA [] [0, 1, 2, 3] [0, 1, 2, 3] rfl rfl rfl rfl rfl rfl (fun H locs hP hD hS => ?_)
  refine lv_if_eq (tgt := 39) hx hb dX8_set_6 (by decide) (fun hc2 => ?_) (fun hc2 => ?_)
  · replace h := it_e hc2 h
    refine lv_ldc (v := (-2000000001 : Int32)) hx hb hown (hts _ q_X8_set_1) dX8_set_39 ?_
    obtain rfl := sm_e h
    exact rx_i hx hb hr  hP hK hD hS dX8_set_41 hlocks
  · replace h := if_e hc2 h
    refine lv_iload_n hx hb dX8_set_9 rfl (lv_at hl 2 rfl) ?_
    refine lv_iconst (v := (0 : Int32)) hx hb dX8_set_10 (by decide) ?_
    refine lv_iload_n hx hb dX8_set_11 rfl (lv_at hl 1 rfl) ?_
    refine lv_if_ne (tgt := 21) hx hb dX8_set_12 (by decide) (fun hc3 => ?_) (fun hc3 => ?_)
    · replace h := it_e hc3 h
      refine lv_iload_n hx hb dX8_set_21 rfl (lv_at hl 1 rfl) ?_
      refine lv_iconst (v := (1 : Int32)) hx hb dX8_set_22 (by decide) ?_
      refine lv_icmp_ne (tgt := 31) hx hb dX8_set_23 (by decide) (fun hc4 => ?_) (fun hc4 => ?_)
      · replace h := it_e hc4 h
        refine lv_bipush (v := (50 : Int32)) hx hb dX8_set_31 (by decide) ?_
        obtain ⟨u5, hu5, h⟩ := bd_e h
        refine kx_i (mc := 0) (ms := 0) (wr := [(a_h, .inr (8, [.ref a_h_d, .long v_account, .ref a_h_was, .ref a_h_accounts, .int v_states, .int v_refused, .ref a_h_text, .int v_typed, .int v_at, .int v_sign, .int v_number, .ref a_h_aside, .ref a_h_places, .ref a_h_told])), (a_h_d, .inl (cI, 2086, .inl v_d_A)), (a_h_was, .inl (cI, 10430, .inl v_was_A)), (a_h_accounts, .inl (cJ, 5, .inr (.inl v_accounts_A)))]) (ws2 := [(a_h, .inr (8, [.ref a_h_d, .long v_account, .ref a_h_was, .ref a_h_accounts, .int v_states, .int v_refused, .ref a_h_text, .int v_typed, .int v_at, .int v_sign, .int v_number, .ref a_h_aside, .ref a_h_places, .ref a_h_told])), (a_h_d, .inl (cI, 2086, .inl v_d_A)), (a_h_was, .inl (cI, 10430, .inl v_was_A)), (a_h_accounts, .inl (cJ, 5, .inr (.inl v_accounts_A)))]) (va_runS (As := [.int p1, .int (0 : Int32), .int (50 : Int32)]) (rest := []) ⟨hx, hb, hml, hown, hts⟩ (k_X8_in l D cI cC cJ cB N p1 (0 : Int32) (50 : Int32) H.size _ hu5) (va_cwS 3 hts gX8_set_X8_in rfl rfl rfl (by decide +kernel) ⟨Nat.le_of_ble_eq_true rfl, Nat.le_of_ble_eq_true rfl⟩) (pv_S hP hD hK hN [] rfl rfl) rfl rfl hl.1 rfl (lv_room (Nat.le_of_ble_eq_true rfl)) dX8_set_33 ⟨Nat.zero_le _, Nat.zero_le _⟩) hP hD hS hA [] [0, 1, 2, 3] [0, 1, 2, 3] rfl rfl rfl rfl rfl rfl (fun H locs hP hD hS => ?_)
        refine lv_if_ne (tgt := 42) hx hb dX8_set_36 (by decide) (fun hc6 => ?_) (fun hc6 => ?_)
        · replace h := it_e hc6 h
          refine lv_aload_n hx hb dX8_set_42 rfl (lv_at hl 0 rfl) ?_
          obtain ⟨u7, hu7, h⟩ := bd_e h
          refine kx_v (mc := 0) (ms := 0) (wr := []) (ws2 := [(a_h, .inr (8, [.ref a_h_d, .long v_account, .ref a_h_was, .ref a_h_accounts, .int u7.1, .int v_refused, .ref a_h_text, .int v_typed, .int v_at, .int v_sign, .int v_number, .ref a_h_aside, .ref a_h_places, .ref a_h_told])), (a_h_d, .inl (cI, 2086, .inl v_d_A)), (a_h_was, .inl (cI, 10430, .inl u7.2.1)), (a_h_accounts, .inl (cJ, 5, .inr (.inl u7.2.2)))]) (va_runV (As := []) (rest := []) ⟨hx, hb, hml, hown, hts⟩ (k_X8_records l D cI cC cJ cB a_h a_h_d a_h_was a_h_accounts a_h_text a_h_aside a_h_places a_h_told v_account v_states v_refused v_typed v_at v_sign v_number v_d_A v_was_A v_accounts_A N H.size _ hu7) (cwV 0 hts gX8_set_X8_records rfl rfl rfl (by decide +kernel) ⟨Nat.le_of_ble_eq_true rfl, Nat.le_of_ble_eq_true rfl⟩) (pv_V hP hD hK hN [0, 1, 2, 3] rfl rfl (ci := 8) rfl 0 rfl) rfl rfl hl.1 rfl (lv_room (Nat.le_of_ble_eq_true rfl)) dX8_set_43 ⟨Nat.zero_le _, Nat.zero_le _⟩) hP hD hS hA [0, 1, 2, 3] [] [0, 1, 2, 3] rfl rfl rfl rfl rfl rfl (fun H locs hP hD hS => ?_)
          refine lv_aload_n hx hb dX8_set_46 rfl (lv_at hl 0 rfl) ?_
          refine va_get (D := D) (ci := 8) (v := .ref a_h_d) (C := RX8) (T := TX8) (N := 14) hx hb hts in_X8_set_X8 hown hK hP 0 rfl rfl 0 (by decide) (hts _ q_X8_set_2) (fun _ h9 => h9) rfl dX8_set_47 ?_
          refine lv_bipush (v := (6 : Int32)) hx hb dX8_set_50 (by decide) ?_
          refine lv_iload_n hx hb dX8_set_52 rfl (lv_at hl 1 rfl) ?_
          refine lv_iadd hx hb dX8_set_53 ?_
          obtain ⟨hi8, h⟩ := gA_e h
          refine wx_iald hx hb hK hP 1 0 rfl rfl (Int32.toNatClampNeg ((6 : Int32) + p0)) rfl hi8 dX8_set_54 ?_
          refine lv_topi (fun t9 et9 => ?_)
          replace h := nm_at h et9
          refine lv_istore_n (lv' := [(3, .int t9), (0, .ref a_h), (1, .int p0), (2, .int p1)]) hx hb dX8_set_55 rfl hl (by decide) rfl (fun ls hl => ?_)
          refine lv_aload_n hx hb dX8_set_56 rfl (lv_at hl 1 rfl) ?_
          refine va_get (D := D) (ci := 8) (v := .ref a_h_d) (C := RX8) (T := TX8) (N := 14) hx hb hts in_X8_set_X8 hown hK hP 0 rfl rfl 0 (by decide) (hts _ q_X8_set_2) (fun _ h9 => h9) rfl dX8_set_57 ?_
          refine lv_bipush (v := (6 : Int32)) hx hb dX8_set_60 (by decide) ?_
          refine lv_iload_n hx hb dX8_set_62 rfl (lv_at hl 2 rfl) ?_
          refine lv_iadd hx hb dX8_set_63 ?_
          refine lv_iload_n hx hb dX8_set_64 rfl (lv_at hl 3 rfl) ?_
          obtain ⟨hi10, h⟩ := gA_e h
          refine wx_iast hx hb hK hP hD hS 1 0 rfl rfl (Int32.toNatClampNeg ((6 : Int32) + p0)) rfl hi10 dX8_set_65 rfl (fun H locs hP hD hS => ?_)
          obtain ⟨g11, eg11, h⟩ := nm_x h
          have hP : va_P D vwCl [(a_h, .inr (8, [.ref a_h_d, .long v_account, .ref a_h_was, .ref a_h_accounts, .int u7.1, .int v_refused, .ref a_h_text, .int v_typed, .int v_at, .int v_sign, .int v_number, .ref a_h_aside, .ref a_h_places, .ref a_h_told])), (a_h_d, .inl (cI, 2086, .inl g11)), (a_h_was, .inl (cI, 10430, .inl u7.2.1)), (a_h_accounts, .inl (cJ, 5, .inr (.inl u7.2.2)))] H := by rw [eg11]; exact hP
          have hD : va_D A [(a_h, .inr (8, [.ref a_h_d, .long v_account, .ref a_h_was, .ref a_h_accounts, .int u7.1, .int v_refused, .ref a_h_text, .int v_typed, .int v_at, .int v_sign, .int v_number, .ref a_h_aside, .ref a_h_places, .ref a_h_told])), (a_h_d, .inl (cI, 2086, .inl g11)), (a_h_was, .inl (cI, 10430, .inl u7.2.1)), (a_h_accounts, .inl (cJ, 5, .inr (.inl u7.2.2)))] := by rw [eg11]; exact hD
          refine lv_iload_n hx hb dX8_set_66 rfl (lv_at hl 0 rfl) ?_
          obtain rfl := sm_e h
          exact rx_i hx hb hr  hP hK hD hS dX8_set_67 hlocks
        · replace h := in_e hc6 h
          refine lv_ldc (v := (-2000000001 : Int32)) hx hb hown (hts _ q_X8_set_1) dX8_set_39 ?_
          obtain rfl := sm_e h
          exact rx_i hx hb hr  hP hK hD hS dX8_set_41 hlocks
      · replace h := in_e hc4 h
        refine lv_bipush (v := (100 : Int32)) hx hb dX8_set_26 (by decide) ?_
        refine lv_goto (tgt := 33) hx hb dX8_set_28 (by decide) ?_
        obtain ⟨u12, hu12, h⟩ := bd_e h
        refine kx_i (mc := 0) (ms := 0) (wr := [(a_h, .inr (8, [.ref a_h_d, .long v_account, .ref a_h_was, .ref a_h_accounts, .int v_states, .int v_refused, .ref a_h_text, .int v_typed, .int v_at, .int v_sign, .int v_number, .ref a_h_aside, .ref a_h_places, .ref a_h_told])), (a_h_d, .inl (cI, 2086, .inl v_d_A)), (a_h_was, .inl (cI, 10430, .inl v_was_A)), (a_h_accounts, .inl (cJ, 5, .inr (.inl v_accounts_A)))]) (ws2 := [(a_h, .inr (8, [.ref a_h_d, .long v_account, .ref a_h_was, .ref a_h_accounts, .int v_states, .int v_refused, .ref a_h_text, .int v_typed, .int v_at, .int v_sign, .int v_number, .ref a_h_aside, .ref a_h_places, .ref a_h_told])), (a_h_d, .inl (cI, 2086, .inl v_d_A)), (a_h_was, .inl (cI, 10430, .inl v_was_A)), (a_h_accounts, .inl (cJ, 5, .inr (.inl v_accounts_A)))]) (va_runS (As := [.int p1, .int (0 : Int32), .int (100 : Int32)]) (rest := []) ⟨hx, hb, hml, hown, hts⟩ (k_X8_in l D cI cC cJ cB N p1 (0 : Int32) (100 : Int32) H.size _ hu12) (va_cwS 3 hts gX8_set_X8_in rfl rfl rfl (by decide +kernel) ⟨Nat.le_of_ble_eq_true rfl, Nat.le_of_ble_eq_true rfl⟩) (pv_S hP hD hK hN [] rfl rfl) rfl rfl hl.1 rfl (lv_room (Nat.le_of_ble_eq_true rfl)) dX8_set_33 ⟨Nat.zero_le _, Nat.zero_le _⟩) hP hD hS hA [] [0, 1, 2, 3] [0, 1, 2, 3] rfl rfl rfl rfl rfl rfl (fun H locs hP hD hS => ?_)
        refine lv_if_ne (tgt := 42) hx hb dX8_set_36 (by decide) (fun hc13 => ?_) (fun hc13 => ?_)
        · replace h := it_e hc13 h
          refine lv_aload_n hx hb dX8_set_42 rfl (lv_at hl 0 rfl) ?_
          obtain ⟨u14, hu14, h⟩ := bd_e h
          refine kx_v (mc := 0) (ms := 0) (wr := []) (ws2 := [(a_h, .inr (8, [.ref a_h_d, .long v_account, .ref a_h_was, .ref a_h_accounts, .int u14.1, .int v_refused, .ref a_h_text, .int v_typed, .int v_at, .int v_sign, .int v_number, .ref a_h_aside, .ref a_h_places, .ref a_h_told])), (a_h_d, .inl (cI, 2086, .inl v_d_A)), (a_h_was, .inl (cI, 10430, .inl u14.2.1)), (a_h_accounts, .inl (cJ, 5, .inr (.inl u14.2.2)))]) (va_runV (As := []) (rest := []) ⟨hx, hb, hml, hown, hts⟩ (k_X8_records l D cI cC cJ cB a_h a_h_d a_h_was a_h_accounts a_h_text a_h_aside a_h_places a_h_told v_account v_states v_refused v_typed v_at v_sign v_number v_d_A v_was_A v_accounts_A N H.size _ hu14) (cwV 0 hts gX8_set_X8_records rfl rfl rfl (by decide +kernel) ⟨Nat.le_of_ble_eq_true rfl, Nat.le_of_ble_eq_true rfl⟩) (pv_V hP hD hK hN [0, 1, 2, 3] rfl rfl (ci := 8) rfl 0 rfl) rfl rfl hl.1 rfl (lv_room (Nat.le_of_ble_eq_true rfl)) dX8_set_43 ⟨Nat.zero_le _, Nat.zero_le _⟩) hP hD hS hA [0, 1, 2, 3] [] [0, 1, 2, 3] rfl rfl rfl rfl rfl rfl (fun H locs hP hD hS => ?_)
          refine lv_aload_n hx hb dX8_set_46 rfl (lv_at hl 0 rfl) ?_
          refine va_get (D := D) (ci := 8) (v := .ref a_h_d) (C := RX8) (T := TX8) (N := 14) hx hb hts in_X8_set_X8 hown hK hP 0 rfl rfl 0 (by decide) (hts _ q_X8_set_2) (fun _ h9 => h9) rfl dX8_set_47 ?_
          refine lv_bipush (v := (6 : Int32)) hx hb dX8_set_50 (by decide) ?_
          refine lv_iload_n hx hb dX8_set_52 rfl (lv_at hl 1 rfl) ?_
          refine lv_iadd hx hb dX8_set_53 ?_
          obtain ⟨hi15, h⟩ := gA_e h
          refine wx_iald hx hb hK hP 1 0 rfl rfl (Int32.toNatClampNeg ((6 : Int32) + p0)) rfl hi15 dX8_set_54 ?_
          refine lv_topi (fun t16 et16 => ?_)
          replace h := nm_at h et16
          refine lv_istore_n (lv' := [(3, .int t16), (0, .ref a_h), (1, .int p0), (2, .int p1)]) hx hb dX8_set_55 rfl hl (by decide) rfl (fun ls hl => ?_)
          refine lv_aload_n hx hb dX8_set_56 rfl (lv_at hl 1 rfl) ?_
          refine va_get (D := D) (ci := 8) (v := .ref a_h_d) (C := RX8) (T := TX8) (N := 14) hx hb hts in_X8_set_X8 hown hK hP 0 rfl rfl 0 (by decide) (hts _ q_X8_set_2) (fun _ h9 => h9) rfl dX8_set_57 ?_
          refine lv_bipush (v := (6 : Int32)) hx hb dX8_set_60 (by decide) ?_
          refine lv_iload_n hx hb dX8_set_62 rfl (lv_at hl 2 rfl) ?_
          refine lv_iadd hx hb dX8_set_63 ?_
          refine lv_iload_n hx hb dX8_set_64 rfl (lv_at hl 3 rfl) ?_
          obtain ⟨hi17, h⟩ := gA_e h
          refine wx_iast hx hb hK hP hD hS 1 0 rfl rfl (Int32.toNatClampNeg ((6 : Int32) + p0)) rfl hi17 dX8_set_65 rfl (fun H locs hP hD hS => ?_)
          obtain ⟨g18, eg18, h⟩ := nm_x h
          have hP : va_P D vwCl [(a_h, .inr (8, [.ref a_h_d, .long v_account, .ref a_h_was, .ref a_h_accounts, .int u14.1, .int v_refused, .ref a_h_text, .int v_typed, .int v_at, .int v_sign, .int v_number, .ref a_h_aside, .ref a_h_places, .ref a_h_told])), (a_h_d, .inl (cI, 2086, .inl g18)), (a_h_was, .inl (cI, 10430, .inl u14.2.1)), (a_h_accounts, .inl (cJ, 5, .inr (.inl u14.2.2)))] H := by rw [eg18]; exact hP
          have hD : va_D A [(a_h, .inr (8, [.ref a_h_d, .long v_account, .ref a_h_was, .ref a_h_accounts, .int u14.1, .int v_refused, .ref a_h_text, .int v_typed, .int v_at, .int v_sign, .int v_number, .ref a_h_aside, .ref a_h_places, .ref a_h_told])), (a_h_d, .inl (cI, 2086, .inl g18)), (a_h_was, .inl (cI, 10430, .inl u14.2.1)), (a_h_accounts, .inl (cJ, 5, .inr (.inl u14.2.2)))] := by rw [eg18]; exact hD
          refine lv_iload_n hx hb dX8_set_66 rfl (lv_at hl 0 rfl) ?_
          obtain rfl := sm_e h
          exact rx_i hx hb hr  hP hK hD hS dX8_set_67 hlocks
        · replace h := in_e hc13 h
          refine lv_ldc (v := (-2000000001 : Int32)) hx hb hown (hts _ q_X8_set_1) dX8_set_39 ?_
          obtain rfl := sm_e h
          exact rx_i hx hb hr  hP hK hD hS dX8_set_41 hlocks
    · replace h := in_e hc3 h
      refine lv_sipush (v := (200 : Int32)) hx hb dX8_set_15 (by decide) ?_
      refine lv_goto (tgt := 33) hx hb dX8_set_18 (by decide) ?_
      obtain ⟨u19, hu19, h⟩ := bd_e h
      refine kx_i (mc := 0) (ms := 0) (wr := [(a_h, .inr (8, [.ref a_h_d, .long v_account, .ref a_h_was, .ref a_h_accounts, .int v_states, .int v_refused, .ref a_h_text, .int v_typed, .int v_at, .int v_sign, .int v_number, .ref a_h_aside, .ref a_h_places, .ref a_h_told])), (a_h_d, .inl (cI, 2086, .inl v_d_A)), (a_h_was, .inl (cI, 10430, .inl v_was_A)), (a_h_accounts, .inl (cJ, 5, .inr (.inl v_accounts_A)))]) (ws2 := [(a_h, .inr (8, [.ref a_h_d, .long v_account, .ref a_h_was, .ref a_h_accounts, .int v_states, .int v_refused, .ref a_h_text, .int v_typed, .int v_at, .int v_sign, .int v_number, .ref a_h_aside, .ref a_h_places, .ref a_h_told])), (a_h_d, .inl (cI, 2086, .inl v_d_A)), (a_h_was, .inl (cI, 10430, .inl v_was_A)), (a_h_accounts, .inl (cJ, 5, .inr (.inl v_accounts_A)))]) (va_runS (As := [.int p1, .int (0 : Int32), .int (200 : Int32)]) (rest := []) ⟨hx, hb, hml, hown, hts⟩ (k_X8_in l D cI cC cJ cB N p1 (0 : Int32) (200 : Int32) H.size _ hu19) (va_cwS 3 hts gX8_set_X8_in rfl rfl rfl (by decide +kernel) ⟨Nat.le_of_ble_eq_true rfl, Nat.le_of_ble_eq_true rfl⟩) (pv_S hP hD hK hN [] rfl rfl) rfl rfl hl.1 rfl (lv_room (Nat.le_of_ble_eq_true rfl)) dX8_set_33 ⟨Nat.zero_le _, Nat.zero_le _⟩) hP hD hS hA [] [0, 1, 2, 3] [0, 1, 2, 3] rfl rfl rfl rfl rfl rfl (fun H locs hP hD hS => ?_)
      refine lv_if_ne (tgt := 42) hx hb dX8_set_36 (by decide) (fun hc20 => ?_) (fun hc20 => ?_)
      · replace h := it_e hc20 h
        refine lv_aload_n hx hb dX8_set_42 rfl (lv_at hl 0 rfl) ?_
        obtain ⟨u21, hu21, h⟩ := bd_e h
        refine kx_v (mc := 0) (ms := 0) (wr := []) (ws2 := [(a_h, .inr (8, [.ref a_h_d, .long v_account, .ref a_h_was, .ref a_h_accounts, .int u21.1, .int v_refused, .ref a_h_text, .int v_typed, .int v_at, .int v_sign, .int v_number, .ref a_h_aside, .ref a_h_places, .ref a_h_told])), (a_h_d, .inl (cI, 2086, .inl v_d_A)), (a_h_was, .inl (cI, 10430, .inl u21.2.1)), (a_h_accounts, .inl (cJ, 5, .inr (.inl u21.2.2)))]) (va_runV (As := []) (rest := []) ⟨hx, hb, hml, hown, hts⟩ (k_X8_records l D cI cC cJ cB a_h a_h_d a_h_was a_h_accounts a_h_text a_h_aside a_h_places a_h_told v_account v_states v_refused v_typed v_at v_sign v_number v_d_A v_was_A v_accounts_A N H.size _ hu21) (cwV 0 hts gX8_set_X8_records rfl rfl rfl (by decide +kernel) ⟨Nat.le_of_ble_eq_true rfl, Nat.le_of_ble_eq_true rfl⟩) (pv_V hP hD hK hN [0, 1, 2, 3] rfl rfl (ci := 8) rfl 0 rfl) rfl rfl hl.1 rfl (lv_room (Nat.le_of_ble_eq_true rfl)) dX8_set_43 ⟨Nat.zero_le _, Nat.zero_le _⟩) hP hD hS hA [0, 1, 2, 3] [] [0, 1, 2, 3] rfl rfl rfl rfl rfl rfl (fun H locs hP hD hS => ?_)
        refine lv_aload_n hx hb dX8_set_46 rfl (lv_at hl 0 rfl) ?_
        refine va_get (D := D) (ci := 8) (v := .ref a_h_d) (C := RX8) (T := TX8) (N := 14) hx hb hts in_X8_set_X8 hown hK hP 0 rfl rfl 0 (by decide) (hts _ q_X8_set_2) (fun _ h9 => h9) rfl dX8_set_47 ?_
        refine lv_bipush (v := (6 : Int32)) hx hb dX8_set_50 (by decide) ?_
        refine lv_iload_n hx hb dX8_set_52 rfl (lv_at hl 1 rfl) ?_
        refine lv_iadd hx hb dX8_set_53 ?_
        obtain ⟨hi22, h⟩ := gA_e h
        refine wx_iald hx hb hK hP 1 0 rfl rfl (Int32.toNatClampNeg ((6 : Int32) + p0)) rfl hi22 dX8_set_54 ?_
        refine lv_topi (fun t23 et23 => ?_)
        replace h := nm_at h et23
        refine lv_istore_n (lv' := [(3, .int t23), (0, .ref a_h), (1, .int p0), (2, .int p1)]) hx hb dX8_set_55 rfl hl (by decide) rfl (fun ls hl => ?_)
        refine lv_aload_n hx hb dX8_set_56 rfl (lv_at hl 1 rfl) ?_
        refine va_get (D := D) (ci := 8) (v := .ref a_h_d) (C := RX8) (T := TX8) (N := 14) hx hb hts in_X8_set_X8 hown hK hP 0 rfl rfl 0 (by decide) (hts _ q_X8_set_2) (fun _ h9 => h9) rfl dX8_set_57 ?_
        refine lv_bipush (v := (6 : Int32)) hx hb dX8_set_60 (by decide) ?_
        refine lv_iload_n hx hb dX8_set_62 rfl (lv_at hl 2 rfl) ?_
        refine lv_iadd hx hb dX8_set_63 ?_
        refine lv_iload_n hx hb dX8_set_64 rfl (lv_at hl 3 rfl) ?_
        obtain ⟨hi24, h⟩ := gA_e h
        refine wx_iast hx hb hK hP hD hS 1 0 rfl rfl (Int32.toNatClampNeg ((6 : Int32) + p0)) rfl hi24 dX8_set_65 rfl (fun H locs hP hD hS => ?_)
        obtain ⟨g25, eg25, h⟩ := nm_x h
        have hP : va_P D vwCl [(a_h, .inr (8, [.ref a_h_d, .long v_account, .ref a_h_was, .ref a_h_accounts, .int u21.1, .int v_refused, .ref a_h_text, .int v_typed, .int v_at, .int v_sign, .int v_number, .ref a_h_aside, .ref a_h_places, .ref a_h_told])), (a_h_d, .inl (cI, 2086, .inl g25)), (a_h_was, .inl (cI, 10430, .inl u21.2.1)), (a_h_accounts, .inl (cJ, 5, .inr (.inl u21.2.2)))] H := by rw [eg25]; exact hP
        have hD : va_D A [(a_h, .inr (8, [.ref a_h_d, .long v_account, .ref a_h_was, .ref a_h_accounts, .int u21.1, .int v_refused, .ref a_h_text, .int v_typed, .int v_at, .int v_sign, .int v_number, .ref a_h_aside, .ref a_h_places, .ref a_h_told])), (a_h_d, .inl (cI, 2086, .inl g25)), (a_h_was, .inl (cI, 10430, .inl u21.2.1)), (a_h_accounts, .inl (cJ, 5, .inr (.inl u21.2.2)))] := by rw [eg25]; exact hD
        refine lv_iload_n hx hb dX8_set_66 rfl (lv_at hl 0 rfl) ?_
        obtain rfl := sm_e h
        exact rx_i hx hb hr  hP hK hD hS dX8_set_67 hlocks
      · replace h := in_e hc20 h
        refine lv_ldc (v := (-2000000001 : Int32)) hx hb hown (hts _ q_X8_set_1) dX8_set_39 ?_
        obtain rfl := sm_e h
        exact rx_i hx hb hr  hP hK hD hS dX8_set_41 hlocks
-- X8_addWeight
def f_X8_addWeight (N : Nat) (v_account : Int64) (v_states : Int32) (v_d_A : Nat → Int32) (v_was_A : Nat → Int32) (v_accounts_A : Nat → Int64) (p0 : Int32) (p1 : Int32) (p2 : Int32) (p3 : Int32) : Option (Int32 × Int32 × (Nat → Int32) × (Nat → Int32) × (Nat → Int64)) :=
  Option.bind (f_X8_in p0 (1 : Int32) (500 : Int32)) (fun u1 => (if u1 = 0 then some ((-2000000001 : Int32), v_states, v_d_A, v_was_A, v_accounts_A)
    else Option.bind (f_X8_in p1 (-9 : Int32) (9 : Int32)) (fun u3 => (if u3 = 0 then some ((-2000000001 : Int32), v_states, v_d_A, v_was_A, v_accounts_A)
    else Option.bind (f_X8_in p2 (0 : Int32) (1000 : Int32)) (fun u5 => (if u5 = 0 then some ((-2000000001 : Int32), v_states, v_d_A, v_was_A, v_accounts_A)
    else Option.bind (f_X8_in p3 (-1 : Int32) ((v_d_A 41) - (1 : Int32))) (fun u7 => (if ¬ u7 = 0 then nm (v_d_A 41) (fun t9 => (if ¬ t9 = (8 : Int32) then Option.bind (f_X8_records N v_account v_states v_d_A v_was_A v_accounts_A) (fun u11 => gA ((42 : Int32) + t9) 2086 (nm (upd v_d_A (Int32.toNatClampNeg ((42 : Int32) + t9)) p0) (fun g13 => gA ((50 : Int32) + t9) 2086 (nm (upd g13 (Int32.toNatClampNeg ((50 : Int32) + t9)) p1) (fun g15 => gA ((58 : Int32) + t9) 2086 (nm (upd g15 (Int32.toNatClampNeg ((58 : Int32) + t9)) p2) (fun g17 => gA ((66 : Int32) + t9) 2086 (nm (upd g17 (Int32.toNatClampNeg ((66 : Int32) + t9)) p3) (fun g19 => gA ((74 : Int32) + t9) 2086 (nm (upd g19 (Int32.toNatClampNeg ((74 : Int32) + t9)) (0 : Int32)) (fun g21 => nm ((g21 41) + (1 : Int32)) (fun t22 => nm (upd g21 41 t22) (fun g23 => some (t9, u11.1, g23, u11.2.1, u11.2.2))))))))))))))
    else some ((-2000000003 : Int32), v_states, v_d_A, v_was_A, v_accounts_A)))
    else some ((-2000000001 : Int32), v_states, v_d_A, v_was_A, v_accounts_A)))))))))
theorem q_X8_addWeight_2 : (.constant RX8 64 (-2000000001) : Cond) ∈ wsX8_addWeight := List.mem_of_getElem? (i := 2) (by decide +kernel)
theorem q_X8_addWeight_1 : (.fieldLink RX8 7 "SpringBalanceModel" "d" "[I" : Cond) ∈ wsX8_addWeight := List.mem_of_getElem? (i := 1) (by decide +kernel)
set_option maxRecDepth 20000 in
theorem in_X8_addWeight_X8 : ∀ w ∈ u_ws RX8 TX8 14, w ∈ wsX8_addWeight := by decide +kernel
theorem q_X8_addWeight_3 : (.constant RX8 104 (-2000000003) : Cond) ∈ wsX8_addWeight := List.mem_of_getElem? (i := 3) (by decide +kernel)
set_option maxHeartbeats 8000000 in
set_option maxRecDepth 100000 in
theorem k_X8_addWeight (l : Launch) (D : va_G) (cI cC cJ cB : ClassId) (a_h a_h_d a_h_was a_h_accounts a_h_text a_h_aside a_h_places a_h_told : Nat) (v_account : Int64) (v_states : Int32) (v_refused : Int32) (v_typed : Int32) (v_at : Int32) (v_sign : Int32) (v_number : Int32) (v_d_A : Nat → Int32) (v_was_A : Nat → Int32) (v_accounts_A : Nat → Int64) (N : Nat) (p0 : Int32) (p1 : Int32) (p2 : Int32) (p3 : Int32) (sz : Nat) (u : Int32 × Int32 × (Nat → Int32) × (Nat → Int32) × (Nat → Int64)) (hu : f_X8_addWeight N v_account v_states v_d_A v_was_A v_accounts_A p0 p1 p2 p3 = some u) :
    Met l yX8_addWeight wsX8_addWeight ({ frames := 1, cells := 0, slots := 0, locals := 22 } : Room) (va_Pc [.ref a_h, .int p0, .int p1, .int p2, .int p3] (PreW D (ty4 cI cC cJ cB) sz [(a_h, .inr (8, [.ref a_h_d, .long v_account, .ref a_h_was, .ref a_h_accounts, .int v_states, .int v_refused, .ref a_h_text, .int v_typed, .int v_at, .int v_sign, .int v_number, .ref a_h_aside, .ref a_h_places, .ref a_h_told])), (a_h_d, .inl (cI, 2086, .inl v_d_A)), (a_h_was, .inl (cI, 10430, .inl v_was_A)), (a_h_accounts, .inl (cJ, 5, .inr (.inl v_accounts_A)))]))
      (QI D (ty4 cI cC cJ cB) (va_A [(a_h, .inr (8, [.ref a_h_d, .long v_account, .ref a_h_was, .ref a_h_accounts, .int v_states, .int v_refused, .ref a_h_text, .int v_typed, .int v_at, .int v_sign, .int v_number, .ref a_h_aside, .ref a_h_places, .ref a_h_told])), (a_h_d, .inl (cI, 2086, .inl v_d_A)), (a_h_was, .inl (cI, 10430, .inl v_was_A)), (a_h_accounts, .inl (cJ, 5, .inr (.inl v_accounts_A)))] sz) [(a_h, .inr (8, [.ref a_h_d, .long v_account, .ref a_h_was, .ref a_h_accounts, .int u.2.1, .int v_refused, .ref a_h_text, .int v_typed, .int v_at, .int v_sign, .int v_number, .ref a_h_aside, .ref a_h_places, .ref a_h_told])), (a_h_d, .inl (cI, 2086, .inl u.2.2.1)), (a_h_was, .inl (cI, 10430, .inl u.2.2.2.1)), (a_h_accounts, .inl (cJ, 5, .inr (.inl u.2.2.2.2)))] u.1) 0 0 (va_A [(a_h, .inr (8, [.ref a_h_d, .long v_account, .ref a_h_was, .ref a_h_accounts, .int v_states, .int v_refused, .ref a_h_text, .int v_typed, .int v_at, .int v_sign, .int v_number, .ref a_h_aside, .ref a_h_places, .ref a_h_told])), (a_h_d, .inl (cI, 2086, .inl v_d_A)), (a_h_was, .inl (cI, 10430, .inl v_was_A)), (a_h_accounts, .inl (cJ, 5, .inr (.inl v_accounts_A)))] sz) := by
  refine met_go (y := yX8_addWeight) (wsy := wsX8_addWeight) (cc := cX8_addWeight) (maxL := 6) (ret := (some .int)) (av := [.ref a_h, .int p0, .int p1, .int p2, .int p3]) (Qc := fun A => QI D (ty4 cI cC cJ cB) A [(a_h, .inr (8, [.ref a_h_d, .long v_account, .ref a_h_was, .ref a_h_accounts, .int u.2.1, .int v_refused, .ref a_h_text, .int v_typed, .int v_at, .int v_sign, .int v_number, .ref a_h_aside, .ref a_h_places, .ref a_h_told])), (a_h_d, .inl (cI, 2086, .inl u.2.2.1)), (a_h_was, .inl (cI, 10430, .inl u.2.2.2.1)), (a_h_accounts, .inl (cJ, 5, .inr (.inl u.2.2.2.2)))] u.1) (by decide) rfl (Nat.le_of_ble_eq_true rfl) ?_
  intro p e s m below meth c A ls hx hb hr hml hown hts hlocks hnm hN hK hP hD hS hA hl
  have h := hu
  clear hu
  unfold f_X8_addWeight at h
  have hl : lv_has ls 6 [(0, .ref a_h), (1, .int p0), (2, .int p1), (3, .int p2), (4, .int p3)] := hl
  refine lv_iload_n hx hb dX8_addWeight_0 rfl (lv_at hl 1 rfl) ?_
  refine lv_iconst (v := (1 : Int32)) hx hb dX8_addWeight_1 (by decide) ?_
  refine lv_sipush (v := (500 : Int32)) hx hb dX8_addWeight_2 (by decide) ?_
  obtain ⟨u1, hu1, h⟩ := bd_e h
  refine kx_i (mc := 0) (ms := 0) (wr := [(a_h, .inr (8, [.ref a_h_d, .long v_account, .ref a_h_was, .ref a_h_accounts, .int v_states, .int v_refused, .ref a_h_text, .int v_typed, .int v_at, .int v_sign, .int v_number, .ref a_h_aside, .ref a_h_places, .ref a_h_told])), (a_h_d, .inl (cI, 2086, .inl v_d_A)), (a_h_was, .inl (cI, 10430, .inl v_was_A)), (a_h_accounts, .inl (cJ, 5, .inr (.inl v_accounts_A)))]) (ws2 := [(a_h, .inr (8, [.ref a_h_d, .long v_account, .ref a_h_was, .ref a_h_accounts, .int v_states, .int v_refused, .ref a_h_text, .int v_typed, .int v_at, .int v_sign, .int v_number, .ref a_h_aside, .ref a_h_places, .ref a_h_told])), (a_h_d, .inl (cI, 2086, .inl v_d_A)), (a_h_was, .inl (cI, 10430, .inl v_was_A)), (a_h_accounts, .inl (cJ, 5, .inr (.inl v_accounts_A)))]) (va_runS (As := [.int p0, .int (1 : Int32), .int (500 : Int32)]) (rest := []) ⟨hx, hb, hml, hown, hts⟩ (k_X8_in l D cI cC cJ cB N p0 (1 : Int32) (500 : Int32) s.heap.size _ hu1) (va_cwS 3 hts gX8_addWeight_X8_in rfl rfl rfl (by decide +kernel) ⟨Nat.le_of_ble_eq_true rfl, Nat.le_of_ble_eq_true rfl⟩) (pv_S hP hD hK hN [] rfl rfl) rfl rfl hl.1 rfl (lv_room (Nat.le_of_ble_eq_true rfl)) dX8_addWeight_5 ⟨Nat.zero_le _, Nat.zero_le _⟩) hP hD hS hA [] [0, 1, 2, 3] [0, 1, 2, 3] rfl rfl rfl rfl rfl rfl (fun H locs hP hD hS => ?_)
  refine lv_if_eq (tgt := 51) hx hb dX8_addWeight_8 (by decide) (fun hc2 => ?_) (fun hc2 => ?_)
  · replace h := it_e hc2 h
    refine lv_ldc (v := (-2000000001 : Int32)) hx hb hown (hts _ q_X8_addWeight_2) dX8_addWeight_51 ?_
    obtain rfl := sm_e h
    exact rx_i hx hb hr  hP hK hD hS dX8_addWeight_53 hlocks
  · replace h := if_e hc2 h
    refine lv_iload_n hx hb dX8_addWeight_11 rfl (lv_at hl 2 rfl) ?_
    refine lv_bipush (v := (-9 : Int32)) hx hb dX8_addWeight_12 (by decide) ?_
    refine lv_bipush (v := (9 : Int32)) hx hb dX8_addWeight_14 (by decide) ?_
    obtain ⟨u3, hu3, h⟩ := bd_e h
    refine kx_i (mc := 0) (ms := 0) (wr := [(a_h, .inr (8, [.ref a_h_d, .long v_account, .ref a_h_was, .ref a_h_accounts, .int v_states, .int v_refused, .ref a_h_text, .int v_typed, .int v_at, .int v_sign, .int v_number, .ref a_h_aside, .ref a_h_places, .ref a_h_told])), (a_h_d, .inl (cI, 2086, .inl v_d_A)), (a_h_was, .inl (cI, 10430, .inl v_was_A)), (a_h_accounts, .inl (cJ, 5, .inr (.inl v_accounts_A)))]) (ws2 := [(a_h, .inr (8, [.ref a_h_d, .long v_account, .ref a_h_was, .ref a_h_accounts, .int v_states, .int v_refused, .ref a_h_text, .int v_typed, .int v_at, .int v_sign, .int v_number, .ref a_h_aside, .ref a_h_places, .ref a_h_told])), (a_h_d, .inl (cI, 2086, .inl v_d_A)), (a_h_was, .inl (cI, 10430, .inl v_was_A)), (a_h_accounts, .inl (cJ, 5, .inr (.inl v_accounts_A)))]) (va_runS (As := [.int p1, .int (-9 : Int32), .int (9 : Int32)]) (rest := []) ⟨hx, hb, hml, hown, hts⟩ (k_X8_in l D cI cC cJ cB N p1 (-9 : Int32) (9 : Int32) H.size _ hu3) (va_cwS 3 hts gX8_addWeight_X8_in rfl rfl rfl (by decide +kernel) ⟨Nat.le_of_ble_eq_true rfl, Nat.le_of_ble_eq_true rfl⟩) (pv_S hP hD hK hN [] rfl rfl) rfl rfl hl.1 rfl (lv_room (Nat.le_of_ble_eq_true rfl)) dX8_addWeight_16 ⟨Nat.zero_le _, Nat.zero_le _⟩) hP hD hS hA [] [0, 1, 2, 3] [0, 1, 2, 3] rfl rfl rfl rfl rfl rfl (fun H locs hP hD hS => ?_)
    refine lv_if_eq (tgt := 51) hx hb dX8_addWeight_19 (by decide) (fun hc4 => ?_) (fun hc4 => ?_)
    · replace h := it_e hc4 h
      refine lv_ldc (v := (-2000000001 : Int32)) hx hb hown (hts _ q_X8_addWeight_2) dX8_addWeight_51 ?_
      obtain rfl := sm_e h
      exact rx_i hx hb hr  hP hK hD hS dX8_addWeight_53 hlocks
    · replace h := if_e hc4 h
      refine lv_iload_n hx hb dX8_addWeight_22 rfl (lv_at hl 3 rfl) ?_
      refine lv_iconst (v := (0 : Int32)) hx hb dX8_addWeight_23 (by decide) ?_
      refine lv_sipush (v := (1000 : Int32)) hx hb dX8_addWeight_24 (by decide) ?_
      obtain ⟨u5, hu5, h⟩ := bd_e h
      refine kx_i (mc := 0) (ms := 0) (wr := [(a_h, .inr (8, [.ref a_h_d, .long v_account, .ref a_h_was, .ref a_h_accounts, .int v_states, .int v_refused, .ref a_h_text, .int v_typed, .int v_at, .int v_sign, .int v_number, .ref a_h_aside, .ref a_h_places, .ref a_h_told])), (a_h_d, .inl (cI, 2086, .inl v_d_A)), (a_h_was, .inl (cI, 10430, .inl v_was_A)), (a_h_accounts, .inl (cJ, 5, .inr (.inl v_accounts_A)))]) (ws2 := [(a_h, .inr (8, [.ref a_h_d, .long v_account, .ref a_h_was, .ref a_h_accounts, .int v_states, .int v_refused, .ref a_h_text, .int v_typed, .int v_at, .int v_sign, .int v_number, .ref a_h_aside, .ref a_h_places, .ref a_h_told])), (a_h_d, .inl (cI, 2086, .inl v_d_A)), (a_h_was, .inl (cI, 10430, .inl v_was_A)), (a_h_accounts, .inl (cJ, 5, .inr (.inl v_accounts_A)))]) (va_runS (As := [.int p2, .int (0 : Int32), .int (1000 : Int32)]) (rest := []) ⟨hx, hb, hml, hown, hts⟩ (k_X8_in l D cI cC cJ cB N p2 (0 : Int32) (1000 : Int32) H.size _ hu5) (va_cwS 3 hts gX8_addWeight_X8_in rfl rfl rfl (by decide +kernel) ⟨Nat.le_of_ble_eq_true rfl, Nat.le_of_ble_eq_true rfl⟩) (pv_S hP hD hK hN [] rfl rfl) rfl rfl hl.1 rfl (lv_room (Nat.le_of_ble_eq_true rfl)) dX8_addWeight_27 ⟨Nat.zero_le _, Nat.zero_le _⟩) hP hD hS hA [] [0, 1, 2, 3] [0, 1, 2, 3] rfl rfl rfl rfl rfl rfl (fun H locs hP hD hS => ?_)
      refine lv_if_eq (tgt := 51) hx hb dX8_addWeight_30 (by decide) (fun hc6 => ?_) (fun hc6 => ?_)
      · replace h := it_e hc6 h
        refine lv_ldc (v := (-2000000001 : Int32)) hx hb hown (hts _ q_X8_addWeight_2) dX8_addWeight_51 ?_
        obtain rfl := sm_e h
        exact rx_i hx hb hr  hP hK hD hS dX8_addWeight_53 hlocks
      · replace h := if_e hc6 h
        refine lv_iload hx hb dX8_addWeight_33 (lv_at hl 4 rfl) ?_
        refine lv_iconst (v := (-1 : Int32)) hx hb dX8_addWeight_35 (by decide) ?_
        refine lv_aload_n hx hb dX8_addWeight_36 rfl (lv_at hl 0 rfl) ?_
        refine va_get (D := D) (ci := 8) (v := .ref a_h_d) (C := RX8) (T := TX8) (N := 14) hx hb hts in_X8_addWeight_X8 hown hK hP 0 rfl rfl 0 (by decide) (hts _ q_X8_addWeight_1) (fun _ h9 => h9) rfl dX8_addWeight_37 ?_
        refine lv_bipush (v := (41 : Int32)) hx hb dX8_addWeight_40 (by decide) ?_
        refine wx_iald hx hb hK hP 1 0 rfl rfl 41 (by decide) (by unfold vp_in; decide) dX8_addWeight_42 ?_
        refine lv_iconst (v := (1 : Int32)) hx hb dX8_addWeight_43 (by decide) ?_
        refine lv_isub hx hb dX8_addWeight_44 ?_
        obtain ⟨u7, hu7, h⟩ := bd_e h
        refine kx_i (mc := 0) (ms := 0) (wr := [(a_h, .inr (8, [.ref a_h_d, .long v_account, .ref a_h_was, .ref a_h_accounts, .int v_states, .int v_refused, .ref a_h_text, .int v_typed, .int v_at, .int v_sign, .int v_number, .ref a_h_aside, .ref a_h_places, .ref a_h_told])), (a_h_d, .inl (cI, 2086, .inl v_d_A)), (a_h_was, .inl (cI, 10430, .inl v_was_A)), (a_h_accounts, .inl (cJ, 5, .inr (.inl v_accounts_A)))]) (ws2 := [(a_h, .inr (8, [.ref a_h_d, .long v_account, .ref a_h_was, .ref a_h_accounts, .int v_states, .int v_refused, .ref a_h_text, .int v_typed, .int v_at, .int v_sign, .int v_number, .ref a_h_aside, .ref a_h_places, .ref a_h_told])), (a_h_d, .inl (cI, 2086, .inl v_d_A)), (a_h_was, .inl (cI, 10430, .inl v_was_A)), (a_h_accounts, .inl (cJ, 5, .inr (.inl v_accounts_A)))]) (va_runS (As := [.int p3, .int (-1 : Int32), .int ((v_d_A 41) - (1 : Int32))]) (rest := []) ⟨hx, hb, hml, hown, hts⟩ (k_X8_in l D cI cC cJ cB N p3 (-1 : Int32) ((v_d_A 41) - (1 : Int32)) H.size _ hu7) (va_cwS 3 hts gX8_addWeight_X8_in rfl rfl rfl (by decide +kernel) ⟨Nat.le_of_ble_eq_true rfl, Nat.le_of_ble_eq_true rfl⟩) (pv_S hP hD hK hN [] rfl rfl) rfl rfl hl.1 rfl (lv_room (Nat.le_of_ble_eq_true rfl)) dX8_addWeight_45 ⟨Nat.zero_le _, Nat.zero_le _⟩) hP hD hS hA [] [0, 1, 2, 3] [0, 1, 2, 3] rfl rfl rfl rfl rfl rfl (fun H locs hP hD hS => ?_)
        refine lv_if_ne (tgt := 54) hx hb dX8_addWeight_48 (by decide) (fun hc8 => ?_) (fun hc8 => ?_)
        · replace h := it_e hc8 h
          refine lv_aload_n hx hb dX8_addWeight_54 rfl (lv_at hl 0 rfl) ?_
          refine va_get (D := D) (ci := 8) (v := .ref a_h_d) (C := RX8) (T := TX8) (N := 14) hx hb hts in_X8_addWeight_X8 hown hK hP 0 rfl rfl 0 (by decide) (hts _ q_X8_addWeight_1) (fun _ h9 => h9) rfl dX8_addWeight_55 ?_
          refine lv_bipush (v := (41 : Int32)) hx hb dX8_addWeight_58 (by decide) ?_
          refine wx_iald hx hb hK hP 1 0 rfl rfl 41 (by decide) (by unfold vp_in; decide) dX8_addWeight_60 ?_
          refine lv_topi (fun t9 et9 => ?_)
          replace h := nm_at h et9
          refine lv_istore (lv' := [(5, .int t9), (0, .ref a_h), (1, .int p0), (2, .int p1), (3, .int p2), (4, .int p3)]) hx hb dX8_addWeight_61 hl (by decide) rfl (fun ls hl => ?_)
          refine lv_iload hx hb dX8_addWeight_63 (lv_at hl 0 rfl) ?_
          refine lv_bipush (v := (8 : Int32)) hx hb dX8_addWeight_65 (by decide) ?_
          refine lv_icmp_ne (tgt := 73) hx hb dX8_addWeight_67 (by decide) (fun hc10 => ?_) (fun hc10 => ?_)
          · replace h := it_e hc10 h
            refine lv_aload_n hx hb dX8_addWeight_73 rfl (lv_at hl 1 rfl) ?_
            obtain ⟨u11, hu11, h⟩ := bd_e h
            refine kx_v (mc := 0) (ms := 0) (wr := []) (ws2 := [(a_h, .inr (8, [.ref a_h_d, .long v_account, .ref a_h_was, .ref a_h_accounts, .int u11.1, .int v_refused, .ref a_h_text, .int v_typed, .int v_at, .int v_sign, .int v_number, .ref a_h_aside, .ref a_h_places, .ref a_h_told])), (a_h_d, .inl (cI, 2086, .inl v_d_A)), (a_h_was, .inl (cI, 10430, .inl u11.2.1)), (a_h_accounts, .inl (cJ, 5, .inr (.inl u11.2.2)))]) (va_runV (As := []) (rest := []) ⟨hx, hb, hml, hown, hts⟩ (k_X8_records l D cI cC cJ cB a_h a_h_d a_h_was a_h_accounts a_h_text a_h_aside a_h_places a_h_told v_account v_states v_refused v_typed v_at v_sign v_number v_d_A v_was_A v_accounts_A N H.size _ hu11) (cwV 0 hts gX8_addWeight_X8_records rfl rfl rfl (by decide +kernel) ⟨Nat.le_of_ble_eq_true rfl, Nat.le_of_ble_eq_true rfl⟩) (pv_V hP hD hK hN [0, 1, 2, 3] rfl rfl (ci := 8) rfl 0 rfl) rfl rfl hl.1 rfl (lv_room (Nat.le_of_ble_eq_true rfl)) dX8_addWeight_74 ⟨Nat.zero_le _, Nat.zero_le _⟩) hP hD hS hA [0, 1, 2, 3] [] [0, 1, 2, 3] rfl rfl rfl rfl rfl rfl (fun H locs hP hD hS => ?_)
            refine lv_aload_n hx hb dX8_addWeight_77 rfl (lv_at hl 1 rfl) ?_
            refine va_get (D := D) (ci := 8) (v := .ref a_h_d) (C := RX8) (T := TX8) (N := 14) hx hb hts in_X8_addWeight_X8 hown hK hP 0 rfl rfl 0 (by decide) (hts _ q_X8_addWeight_1) (fun _ h9 => h9) rfl dX8_addWeight_78 ?_
            refine lv_bipush (v := (42 : Int32)) hx hb dX8_addWeight_81 (by decide) ?_
            refine lv_iload hx hb dX8_addWeight_83 (lv_at hl 0 rfl) ?_
            refine lv_iadd hx hb dX8_addWeight_85 ?_
            refine lv_iload_n hx hb dX8_addWeight_86 rfl (lv_at hl 2 rfl) ?_
            obtain ⟨hi12, h⟩ := gA_e h
            refine wx_iast hx hb hK hP hD hS 1 0 rfl rfl (Int32.toNatClampNeg ((42 : Int32) + t9)) rfl hi12 dX8_addWeight_87 rfl (fun H locs hP hD hS => ?_)
            obtain ⟨g13, eg13, h⟩ := nm_x h
            have hP : va_P D vwCl [(a_h, .inr (8, [.ref a_h_d, .long v_account, .ref a_h_was, .ref a_h_accounts, .int u11.1, .int v_refused, .ref a_h_text, .int v_typed, .int v_at, .int v_sign, .int v_number, .ref a_h_aside, .ref a_h_places, .ref a_h_told])), (a_h_d, .inl (cI, 2086, .inl g13)), (a_h_was, .inl (cI, 10430, .inl u11.2.1)), (a_h_accounts, .inl (cJ, 5, .inr (.inl u11.2.2)))] H := by rw [eg13]; exact hP
            have hD : va_D A [(a_h, .inr (8, [.ref a_h_d, .long v_account, .ref a_h_was, .ref a_h_accounts, .int u11.1, .int v_refused, .ref a_h_text, .int v_typed, .int v_at, .int v_sign, .int v_number, .ref a_h_aside, .ref a_h_places, .ref a_h_told])), (a_h_d, .inl (cI, 2086, .inl g13)), (a_h_was, .inl (cI, 10430, .inl u11.2.1)), (a_h_accounts, .inl (cJ, 5, .inr (.inl u11.2.2)))] := by rw [eg13]; exact hD
            refine lv_aload_n hx hb dX8_addWeight_88 rfl (lv_at hl 1 rfl) ?_
            refine va_get (D := D) (ci := 8) (v := .ref a_h_d) (C := RX8) (T := TX8) (N := 14) hx hb hts in_X8_addWeight_X8 hown hK hP 0 rfl rfl 0 (by decide) (hts _ q_X8_addWeight_1) (fun _ h9 => h9) rfl dX8_addWeight_89 ?_
            refine lv_bipush (v := (50 : Int32)) hx hb dX8_addWeight_92 (by decide) ?_
            refine lv_iload hx hb dX8_addWeight_94 (lv_at hl 0 rfl) ?_
            refine lv_iadd hx hb dX8_addWeight_96 ?_
            refine lv_iload_n hx hb dX8_addWeight_97 rfl (lv_at hl 3 rfl) ?_
            obtain ⟨hi14, h⟩ := gA_e h
            refine wx_iast hx hb hK hP hD hS 1 0 rfl rfl (Int32.toNatClampNeg ((50 : Int32) + t9)) rfl hi14 dX8_addWeight_98 rfl (fun H locs hP hD hS => ?_)
            obtain ⟨g15, eg15, h⟩ := nm_x h
            have hP : va_P D vwCl [(a_h, .inr (8, [.ref a_h_d, .long v_account, .ref a_h_was, .ref a_h_accounts, .int u11.1, .int v_refused, .ref a_h_text, .int v_typed, .int v_at, .int v_sign, .int v_number, .ref a_h_aside, .ref a_h_places, .ref a_h_told])), (a_h_d, .inl (cI, 2086, .inl g15)), (a_h_was, .inl (cI, 10430, .inl u11.2.1)), (a_h_accounts, .inl (cJ, 5, .inr (.inl u11.2.2)))] H := by rw [eg15]; exact hP
            have hD : va_D A [(a_h, .inr (8, [.ref a_h_d, .long v_account, .ref a_h_was, .ref a_h_accounts, .int u11.1, .int v_refused, .ref a_h_text, .int v_typed, .int v_at, .int v_sign, .int v_number, .ref a_h_aside, .ref a_h_places, .ref a_h_told])), (a_h_d, .inl (cI, 2086, .inl g15)), (a_h_was, .inl (cI, 10430, .inl u11.2.1)), (a_h_accounts, .inl (cJ, 5, .inr (.inl u11.2.2)))] := by rw [eg15]; exact hD
            refine lv_aload_n hx hb dX8_addWeight_99 rfl (lv_at hl 1 rfl) ?_
            refine va_get (D := D) (ci := 8) (v := .ref a_h_d) (C := RX8) (T := TX8) (N := 14) hx hb hts in_X8_addWeight_X8 hown hK hP 0 rfl rfl 0 (by decide) (hts _ q_X8_addWeight_1) (fun _ h9 => h9) rfl dX8_addWeight_100 ?_
            refine lv_bipush (v := (58 : Int32)) hx hb dX8_addWeight_103 (by decide) ?_
            refine lv_iload hx hb dX8_addWeight_105 (lv_at hl 0 rfl) ?_
            refine lv_iadd hx hb dX8_addWeight_107 ?_
            refine lv_iload_n hx hb dX8_addWeight_108 rfl (lv_at hl 4 rfl) ?_
            obtain ⟨hi16, h⟩ := gA_e h
            refine wx_iast hx hb hK hP hD hS 1 0 rfl rfl (Int32.toNatClampNeg ((58 : Int32) + t9)) rfl hi16 dX8_addWeight_109 rfl (fun H locs hP hD hS => ?_)
            obtain ⟨g17, eg17, h⟩ := nm_x h
            have hP : va_P D vwCl [(a_h, .inr (8, [.ref a_h_d, .long v_account, .ref a_h_was, .ref a_h_accounts, .int u11.1, .int v_refused, .ref a_h_text, .int v_typed, .int v_at, .int v_sign, .int v_number, .ref a_h_aside, .ref a_h_places, .ref a_h_told])), (a_h_d, .inl (cI, 2086, .inl g17)), (a_h_was, .inl (cI, 10430, .inl u11.2.1)), (a_h_accounts, .inl (cJ, 5, .inr (.inl u11.2.2)))] H := by rw [eg17]; exact hP
            have hD : va_D A [(a_h, .inr (8, [.ref a_h_d, .long v_account, .ref a_h_was, .ref a_h_accounts, .int u11.1, .int v_refused, .ref a_h_text, .int v_typed, .int v_at, .int v_sign, .int v_number, .ref a_h_aside, .ref a_h_places, .ref a_h_told])), (a_h_d, .inl (cI, 2086, .inl g17)), (a_h_was, .inl (cI, 10430, .inl u11.2.1)), (a_h_accounts, .inl (cJ, 5, .inr (.inl u11.2.2)))] := by rw [eg17]; exact hD
            refine lv_aload_n hx hb dX8_addWeight_110 rfl (lv_at hl 1 rfl) ?_
            refine va_get (D := D) (ci := 8) (v := .ref a_h_d) (C := RX8) (T := TX8) (N := 14) hx hb hts in_X8_addWeight_X8 hown hK hP 0 rfl rfl 0 (by decide) (hts _ q_X8_addWeight_1) (fun _ h9 => h9) rfl dX8_addWeight_111 ?_
            refine lv_bipush (v := (66 : Int32)) hx hb dX8_addWeight_114 (by decide) ?_
            refine lv_iload hx hb dX8_addWeight_116 (lv_at hl 0 rfl) ?_
            refine lv_iadd hx hb dX8_addWeight_118 ?_
            refine lv_iload hx hb dX8_addWeight_119 (lv_at hl 5 rfl) ?_
            obtain ⟨hi18, h⟩ := gA_e h
            refine wx_iast hx hb hK hP hD hS 1 0 rfl rfl (Int32.toNatClampNeg ((66 : Int32) + t9)) rfl hi18 dX8_addWeight_121 rfl (fun H locs hP hD hS => ?_)
            obtain ⟨g19, eg19, h⟩ := nm_x h
            have hP : va_P D vwCl [(a_h, .inr (8, [.ref a_h_d, .long v_account, .ref a_h_was, .ref a_h_accounts, .int u11.1, .int v_refused, .ref a_h_text, .int v_typed, .int v_at, .int v_sign, .int v_number, .ref a_h_aside, .ref a_h_places, .ref a_h_told])), (a_h_d, .inl (cI, 2086, .inl g19)), (a_h_was, .inl (cI, 10430, .inl u11.2.1)), (a_h_accounts, .inl (cJ, 5, .inr (.inl u11.2.2)))] H := by rw [eg19]; exact hP
            have hD : va_D A [(a_h, .inr (8, [.ref a_h_d, .long v_account, .ref a_h_was, .ref a_h_accounts, .int u11.1, .int v_refused, .ref a_h_text, .int v_typed, .int v_at, .int v_sign, .int v_number, .ref a_h_aside, .ref a_h_places, .ref a_h_told])), (a_h_d, .inl (cI, 2086, .inl g19)), (a_h_was, .inl (cI, 10430, .inl u11.2.1)), (a_h_accounts, .inl (cJ, 5, .inr (.inl u11.2.2)))] := by rw [eg19]; exact hD
            refine lv_aload_n hx hb dX8_addWeight_122 rfl (lv_at hl 1 rfl) ?_
            refine va_get (D := D) (ci := 8) (v := .ref a_h_d) (C := RX8) (T := TX8) (N := 14) hx hb hts in_X8_addWeight_X8 hown hK hP 0 rfl rfl 0 (by decide) (hts _ q_X8_addWeight_1) (fun _ h9 => h9) rfl dX8_addWeight_123 ?_
            refine lv_bipush (v := (74 : Int32)) hx hb dX8_addWeight_126 (by decide) ?_
            refine lv_iload hx hb dX8_addWeight_128 (lv_at hl 0 rfl) ?_
            refine lv_iadd hx hb dX8_addWeight_130 ?_
            refine lv_iconst (v := (0 : Int32)) hx hb dX8_addWeight_131 (by decide) ?_
            obtain ⟨hi20, h⟩ := gA_e h
            refine wx_iast hx hb hK hP hD hS 1 0 rfl rfl (Int32.toNatClampNeg ((74 : Int32) + t9)) rfl hi20 dX8_addWeight_132 rfl (fun H locs hP hD hS => ?_)
            obtain ⟨g21, eg21, h⟩ := nm_x h
            have hP : va_P D vwCl [(a_h, .inr (8, [.ref a_h_d, .long v_account, .ref a_h_was, .ref a_h_accounts, .int u11.1, .int v_refused, .ref a_h_text, .int v_typed, .int v_at, .int v_sign, .int v_number, .ref a_h_aside, .ref a_h_places, .ref a_h_told])), (a_h_d, .inl (cI, 2086, .inl g21)), (a_h_was, .inl (cI, 10430, .inl u11.2.1)), (a_h_accounts, .inl (cJ, 5, .inr (.inl u11.2.2)))] H := by rw [eg21]; exact hP
            have hD : va_D A [(a_h, .inr (8, [.ref a_h_d, .long v_account, .ref a_h_was, .ref a_h_accounts, .int u11.1, .int v_refused, .ref a_h_text, .int v_typed, .int v_at, .int v_sign, .int v_number, .ref a_h_aside, .ref a_h_places, .ref a_h_told])), (a_h_d, .inl (cI, 2086, .inl g21)), (a_h_was, .inl (cI, 10430, .inl u11.2.1)), (a_h_accounts, .inl (cJ, 5, .inr (.inl u11.2.2)))] := by rw [eg21]; exact hD
            refine lv_aload_n hx hb dX8_addWeight_133 rfl (lv_at hl 1 rfl) ?_
            refine va_get (D := D) (ci := 8) (v := .ref a_h_d) (C := RX8) (T := TX8) (N := 14) hx hb hts in_X8_addWeight_X8 hown hK hP 0 rfl rfl 0 (by decide) (hts _ q_X8_addWeight_1) (fun _ h9 => h9) rfl dX8_addWeight_134 ?_
            refine lv_bipush (v := (41 : Int32)) hx hb dX8_addWeight_137 (by decide) ?_
            refine lv_dup2_11 hx hb dX8_addWeight_139 rfl rfl ?_
            refine wx_iald hx hb hK hP 1 0 rfl rfl 41 (by decide) (by unfold vp_in; decide) dX8_addWeight_140 ?_
            refine lv_iconst (v := (1 : Int32)) hx hb dX8_addWeight_141 (by decide) ?_
            refine lv_iadd hx hb dX8_addWeight_142 ?_
            refine lv_topi (fun t22 et22 => ?_)
            replace h := nm_at h et22
            refine wx_iast hx hb hK hP hD hS 1 0 rfl rfl 41 (by decide) (by unfold vp_in; decide) dX8_addWeight_143 rfl (fun H locs hP hD hS => ?_)
            obtain ⟨g23, eg23, h⟩ := nm_x h
            have hP : va_P D vwCl [(a_h, .inr (8, [.ref a_h_d, .long v_account, .ref a_h_was, .ref a_h_accounts, .int u11.1, .int v_refused, .ref a_h_text, .int v_typed, .int v_at, .int v_sign, .int v_number, .ref a_h_aside, .ref a_h_places, .ref a_h_told])), (a_h_d, .inl (cI, 2086, .inl g23)), (a_h_was, .inl (cI, 10430, .inl u11.2.1)), (a_h_accounts, .inl (cJ, 5, .inr (.inl u11.2.2)))] H := by rw [eg23]; exact hP
            have hD : va_D A [(a_h, .inr (8, [.ref a_h_d, .long v_account, .ref a_h_was, .ref a_h_accounts, .int u11.1, .int v_refused, .ref a_h_text, .int v_typed, .int v_at, .int v_sign, .int v_number, .ref a_h_aside, .ref a_h_places, .ref a_h_told])), (a_h_d, .inl (cI, 2086, .inl g23)), (a_h_was, .inl (cI, 10430, .inl u11.2.1)), (a_h_accounts, .inl (cJ, 5, .inr (.inl u11.2.2)))] := by rw [eg23]; exact hD
            refine lv_iload hx hb dX8_addWeight_144 (lv_at hl 0 rfl) ?_
            obtain rfl := sm_e h
            exact rx_i hx hb hr  hP hK hD hS dX8_addWeight_146 hlocks
          · replace h := in_e hc10 h
            refine lv_ldc (v := (-2000000003 : Int32)) hx hb hown (hts _ q_X8_addWeight_3) dX8_addWeight_70 ?_
            obtain rfl := sm_e h
            exact rx_i hx hb hr  hP hK hD hS dX8_addWeight_72 hlocks
        · replace h := in_e hc8 h
          refine lv_ldc (v := (-2000000001 : Int32)) hx hb hown (hts _ q_X8_addWeight_2) dX8_addWeight_51 ?_
          obtain rfl := sm_e h
          exact rx_i hx hb hr  hP hK hD hS dX8_addWeight_53 hlocks
-- X8_isWeight
def f_X8_isWeight (v_d_A : Nat → Int32) (p0 : Int32) : Option (Int32) :=
  Option.bind (f_X8_in p0 (0 : Int32) ((v_d_A 41) - (1 : Int32))) (fun u1 => gT (u1 = 0 ∨ u1 = 1) (some u1))
theorem q_X8_isWeight_1 : (.fieldLink RX8 7 "SpringBalanceModel" "d" "[I" : Cond) ∈ wsX8_isWeight := List.mem_of_getElem? (i := 1) (by decide +kernel)
set_option maxRecDepth 20000 in
theorem in_X8_isWeight_X8 : ∀ w ∈ u_ws RX8 TX8 14, w ∈ wsX8_isWeight := by decide +kernel
set_option maxHeartbeats 8000000 in
set_option maxRecDepth 100000 in
theorem k_X8_isWeight (l : Launch) (D : va_G) (cI cC cJ cB : ClassId) (a_h a_h_d a_h_was a_h_accounts a_h_text a_h_aside a_h_places a_h_told : Nat) (v_account : Int64) (v_states : Int32) (v_refused : Int32) (v_typed : Int32) (v_at : Int32) (v_sign : Int32) (v_number : Int32) (v_d_A : Nat → Int32) (N : Nat) (p0 : Int32) (sz : Nat) (u : Int32) (hu : f_X8_isWeight v_d_A p0 = some u) :
    Met l yX8_isWeight wsX8_isWeight ({ frames := 1, cells := 0, slots := 0, locals := 22 } : Room) (va_Pc [.ref a_h, .int p0] (PreW D (ty4 cI cC cJ cB) sz [(a_h, .inr (8, [.ref a_h_d, .long v_account, .ref a_h_was, .ref a_h_accounts, .int v_states, .int v_refused, .ref a_h_text, .int v_typed, .int v_at, .int v_sign, .int v_number, .ref a_h_aside, .ref a_h_places, .ref a_h_told])), (a_h_d, .inl (cI, 2086, .inl v_d_A))]))
      (QI D (ty4 cI cC cJ cB) (va_A [(a_h, .inr (8, [.ref a_h_d, .long v_account, .ref a_h_was, .ref a_h_accounts, .int v_states, .int v_refused, .ref a_h_text, .int v_typed, .int v_at, .int v_sign, .int v_number, .ref a_h_aside, .ref a_h_places, .ref a_h_told])), (a_h_d, .inl (cI, 2086, .inl v_d_A))] sz) [(a_h, .inr (8, [.ref a_h_d, .long v_account, .ref a_h_was, .ref a_h_accounts, .int v_states, .int v_refused, .ref a_h_text, .int v_typed, .int v_at, .int v_sign, .int v_number, .ref a_h_aside, .ref a_h_places, .ref a_h_told])), (a_h_d, .inl (cI, 2086, .inl v_d_A))] u) 0 0 (va_A [(a_h, .inr (8, [.ref a_h_d, .long v_account, .ref a_h_was, .ref a_h_accounts, .int v_states, .int v_refused, .ref a_h_text, .int v_typed, .int v_at, .int v_sign, .int v_number, .ref a_h_aside, .ref a_h_places, .ref a_h_told])), (a_h_d, .inl (cI, 2086, .inl v_d_A))] sz) := by
  refine met_go (y := yX8_isWeight) (wsy := wsX8_isWeight) (cc := cX8_isWeight) (maxL := 2) (ret := (some .boolean)) (av := [.ref a_h, .int p0]) (Qc := fun A => QI D (ty4 cI cC cJ cB) A [(a_h, .inr (8, [.ref a_h_d, .long v_account, .ref a_h_was, .ref a_h_accounts, .int v_states, .int v_refused, .ref a_h_text, .int v_typed, .int v_at, .int v_sign, .int v_number, .ref a_h_aside, .ref a_h_places, .ref a_h_told])), (a_h_d, .inl (cI, 2086, .inl v_d_A))] u) (by decide) rfl (Nat.le_of_ble_eq_true rfl) ?_
  intro p e s m below meth c A ls hx hb hr hml hown hts hlocks hnm hN hK hP hD hS hA hl
  have h := hu
  clear hu
  unfold f_X8_isWeight at h
  have hl : lv_has ls 2 [(0, .ref a_h), (1, .int p0)] := hl
  refine lv_iload_n hx hb dX8_isWeight_0 rfl (lv_at hl 1 rfl) ?_
  refine lv_iconst (v := (0 : Int32)) hx hb dX8_isWeight_1 (by decide) ?_
  refine lv_aload_n hx hb dX8_isWeight_2 rfl (lv_at hl 0 rfl) ?_
  refine va_get (D := D) (ci := 8) (v := .ref a_h_d) (C := RX8) (T := TX8) (N := 14) hx hb hts in_X8_isWeight_X8 hown hK hP 0 rfl rfl 0 (by decide) (hts _ q_X8_isWeight_1) (fun _ h9 => h9) rfl dX8_isWeight_3 ?_
  refine lv_bipush (v := (41 : Int32)) hx hb dX8_isWeight_6 (by decide) ?_
  refine wx_iald hx hb hK hP 1 0 rfl rfl 41 (by decide) (by unfold vp_in; decide) dX8_isWeight_8 ?_
  refine lv_iconst (v := (1 : Int32)) hx hb dX8_isWeight_9 (by decide) ?_
  refine lv_isub hx hb dX8_isWeight_10 ?_
  obtain ⟨u1, hu1, h⟩ := bd_e h
  refine kx_i (mc := 0) (ms := 0) (wr := [(a_h, .inr (8, [.ref a_h_d, .long v_account, .ref a_h_was, .ref a_h_accounts, .int v_states, .int v_refused, .ref a_h_text, .int v_typed, .int v_at, .int v_sign, .int v_number, .ref a_h_aside, .ref a_h_places, .ref a_h_told])), (a_h_d, .inl (cI, 2086, .inl v_d_A))]) (ws2 := [(a_h, .inr (8, [.ref a_h_d, .long v_account, .ref a_h_was, .ref a_h_accounts, .int v_states, .int v_refused, .ref a_h_text, .int v_typed, .int v_at, .int v_sign, .int v_number, .ref a_h_aside, .ref a_h_places, .ref a_h_told])), (a_h_d, .inl (cI, 2086, .inl v_d_A))]) (va_runS (As := [.int p0, .int (0 : Int32), .int ((v_d_A 41) - (1 : Int32))]) (rest := []) ⟨hx, hb, hml, hown, hts⟩ (k_X8_in l D cI cC cJ cB N p0 (0 : Int32) ((v_d_A 41) - (1 : Int32)) s.heap.size _ hu1) (va_cwS 3 hts gX8_isWeight_X8_in rfl rfl rfl (by decide +kernel) ⟨Nat.le_of_ble_eq_true rfl, Nat.le_of_ble_eq_true rfl⟩) (pv_S hP hD hK hN [] rfl rfl) rfl rfl hl.1 rfl (lv_room (Nat.le_of_ble_eq_true rfl)) dX8_isWeight_11 ⟨Nat.zero_le _, Nat.zero_le _⟩) hP hD hS hA [] [0, 1] [0, 1] rfl rfl rfl rfl rfl rfl (fun H locs hP hD hS => ?_)
  obtain ⟨hz2, h⟩ := gT_e h
  obtain rfl := sm_e h
  exact rx_z hx hb hr (nar_z hz2) hP hK hD hS dX8_isWeight_14 hlocks
-- X8_removeWeight
def f_X8_removeWeight_b151 (p0 : Int32) (m_states : Int32) (m_was_A : Nat → Int32) (m_accounts_A : Nat → Int64) : Nat → Int32 → (Nat → Int32) → Option (Int32 × Int32 × (Nat → Int32) × (Nat → Int32) × (Nat → Int64))
  | 0, _, _ => none
  | k + 1, x3, m_d_A =>
    (if (m_d_A 41) ≤ x3 then some ((m_d_A 41), m_states, m_d_A, m_was_A, m_accounts_A)
    else gA ((66 : Int32) + x3) 2086 (gA ((66 : Int32) + x3) 2086 ((if (m_d_A (Int32.toNatClampNeg ((66 : Int32) + x3))) ≤ p0 then nm ((m_d_A (Int32.toNatClampNeg ((66 : Int32) + x3))) - (0 : Int32)) (fun t15 => gA ((66 : Int32) + x3) 2086 (nm (upd m_d_A (Int32.toNatClampNeg ((66 : Int32) + x3)) t15) (fun g17 => nm (x3 + (1 : Int32)) (fun t18 => (f_X8_removeWeight_b151 p0 m_states m_was_A m_accounts_A k t18 g17)))))
    else nm ((m_d_A (Int32.toNatClampNeg ((66 : Int32) + x3))) - (1 : Int32)) (fun t19 => gA ((66 : Int32) + x3) 2086 (nm (upd m_d_A (Int32.toNatClampNeg ((66 : Int32) + x3)) t19) (fun g21 => nm (x3 + (1 : Int32)) (fun t22 => (f_X8_removeWeight_b151 p0 m_states m_was_A m_accounts_A k t22 g21)))))))))
def f_X8_removeWeight_b110 (rc : Int32 → Int32 → Int32 → (Nat → Int32) → (Nat → Int32) → (Nat → Int64) → Option (Int32 × Int32 × (Nat → Int32) × (Nat → Int32) × (Nat → Int64))) (x2 : Int32) (x3 : Int32) (m_states : Int32) (m_was_A : Nat → Int32) (m_accounts_A : Nat → Int64) : Nat → Int32 → (Nat → Int32) → Option (Int32 × Int32 × (Nat → Int32) × (Nat → Int32) × (Nat → Int64))
  | 0, _, _ => none
  | k + 1, x4, m_d_A =>
    (if (74 : Int32) < x4 then nm (x3 + (1 : Int32)) (fun t24 => (rc x2 t24 m_states m_d_A m_was_A m_accounts_A))
    else gA ((x4 + x3) + (1 : Int32)) 2086 (nm (m_d_A (Int32.toNatClampNeg ((x4 + x3) + (1 : Int32)))) (fun t26 => gA (x4 + x3) 2086 (nm (upd m_d_A (Int32.toNatClampNeg (x4 + x3)) t26) (fun g28 => nm (x4 + (8 : Int32)) (fun t29 => (f_X8_removeWeight_b110 rc x2 x3 m_states m_was_A m_accounts_A k t29 g28)))))))
def f_X8_removeWeight_b95 (N : Nat) (p0 : Int32) : Nat → Int32 → Int32 → Int32 → (Nat → Int32) → (Nat → Int32) → (Nat → Int64) → Option (Int32 × Int32 × (Nat → Int32) × (Nat → Int32) × (Nat → Int64))
  | 0, _, _, _, _, _, _ => none
  | k + 1, x2, x3, m_states, m_d_A, m_was_A, m_accounts_A =>
    (if (m_d_A 41) ≤ x3 then (f_X8_removeWeight_b151 p0 m_states m_was_A m_accounts_A N (0 : Int32) m_d_A)
    else (f_X8_removeWeight_b110 (f_X8_removeWeight_b95 N p0 k) x2 x3 m_states m_was_A m_accounts_A N (42 : Int32) m_d_A))
def f_X8_removeWeight_b31 (N : Nat) (v_account : Int64) (p0 : Int32) (m_states : Int32) (m_d_A : Nat → Int32) (m_was_A : Nat → Int32) (m_accounts_A : Nat → Int64) : Nat → Int32 → Int32 → Option (Int32 × Int32 × (Nat → Int32) × (Nat → Int32) × (Nat → Int64))
  | 0, _, _ => none
  | k + 1, x2, x3 =>
    (if (m_d_A 41) ≤ x3 then (if ¬ x2 = 0 then Option.bind (f_X8_records N v_account m_states m_d_A m_was_A m_accounts_A) (fun u7 => nm ((m_d_A 41) - (1 : Int32)) (fun t8 => nm (upd m_d_A 41 t8) (fun g9 => (f_X8_removeWeight_b95 N p0 N x2 p0 u7.1 g9 u7.2.1 u7.2.2))))
    else some ((-2000000002 : Int32), m_states, m_d_A, m_was_A, m_accounts_A))
    else (if x2 = 0 then nm (x3 + (1 : Int32)) (fun t31 => (f_X8_removeWeight_b31 N v_account p0 m_states m_d_A m_was_A m_accounts_A k (0 : Int32) t31))
    else gA ((66 : Int32) + x3) 2086 ((if (m_d_A (Int32.toNatClampNeg ((66 : Int32) + x3))) = p0 then nm (x3 + (1 : Int32)) (fun t34 => (f_X8_removeWeight_b31 N v_account p0 m_states m_d_A m_was_A m_accounts_A k (0 : Int32) t34))
    else nm (x3 + (1 : Int32)) (fun t35 => (f_X8_removeWeight_b31 N v_account p0 m_states m_d_A m_was_A m_accounts_A k (1 : Int32) t35))))))
def f_X8_removeWeight (N : Nat) (v_account : Int64) (v_states : Int32) (v_d_A : Nat → Int32) (v_was_A : Nat → Int32) (v_accounts_A : Nat → Int64) (p0 : Int32) : Option (Int32 × Int32 × (Nat → Int32) × (Nat → Int32) × (Nat → Int64)) :=
  Option.bind (f_X8_isWeight v_d_A p0) (fun u1 => (if ¬ u1 = 0 then gA ((74 : Int32) + p0) 2086 ((if ¬ (v_d_A (Int32.toNatClampNeg ((74 : Int32) + p0))) = 0 then (f_X8_removeWeight_b31 N v_account p0 v_states v_d_A v_was_A v_accounts_A N (0 : Int32) (0 : Int32))
    else (f_X8_removeWeight_b31 N v_account p0 v_states v_d_A v_was_A v_accounts_A N (1 : Int32) (0 : Int32))))
    else some ((-2000000001 : Int32), v_states, v_d_A, v_was_A, v_accounts_A)))
theorem q_X8_removeWeight_2 : (.fieldLink RX8 7 "SpringBalanceModel" "d" "[I" : Cond) ∈ wsX8_removeWeight := List.mem_of_getElem? (i := 2) (by decide +kernel)
set_option maxRecDepth 20000 in
theorem in_X8_removeWeight_X8 : ∀ w ∈ u_ws RX8 TX8 14, w ∈ wsX8_removeWeight := by decide +kernel
theorem q_X8_removeWeight_3 : (.constant RX8 69 (-2000000002) : Cond) ∈ wsX8_removeWeight := List.mem_of_getElem? (i := 3) (by decide +kernel)
theorem q_X8_removeWeight_1 : (.constant RX8 64 (-2000000001) : Cond) ∈ wsX8_removeWeight := List.mem_of_getElem? (i := 1) (by decide +kernel)
set_option maxHeartbeats 8000000 in
set_option maxRecDepth 100000 in
theorem k_X8_removeWeight (l : Launch) (D : va_G) (cI cC cJ cB : ClassId) (a_h a_h_d a_h_was a_h_accounts a_h_text a_h_aside a_h_places a_h_told : Nat) (v_account : Int64) (v_states : Int32) (v_refused : Int32) (v_typed : Int32) (v_at : Int32) (v_sign : Int32) (v_number : Int32) (v_d_A : Nat → Int32) (v_was_A : Nat → Int32) (v_accounts_A : Nat → Int64) (N : Nat) (p0 : Int32) (sz : Nat) (u : Int32 × Int32 × (Nat → Int32) × (Nat → Int32) × (Nat → Int64)) (hu : f_X8_removeWeight N v_account v_states v_d_A v_was_A v_accounts_A p0 = some u) :
    Met l yX8_removeWeight wsX8_removeWeight ({ frames := 2, cells := 0, slots := 0, locals := 43 } : Room) (va_Pc [.ref a_h, .int p0] (PreW D (ty4 cI cC cJ cB) sz [(a_h, .inr (8, [.ref a_h_d, .long v_account, .ref a_h_was, .ref a_h_accounts, .int v_states, .int v_refused, .ref a_h_text, .int v_typed, .int v_at, .int v_sign, .int v_number, .ref a_h_aside, .ref a_h_places, .ref a_h_told])), (a_h_d, .inl (cI, 2086, .inl v_d_A)), (a_h_was, .inl (cI, 10430, .inl v_was_A)), (a_h_accounts, .inl (cJ, 5, .inr (.inl v_accounts_A)))]))
      (QI D (ty4 cI cC cJ cB) (va_A [(a_h, .inr (8, [.ref a_h_d, .long v_account, .ref a_h_was, .ref a_h_accounts, .int v_states, .int v_refused, .ref a_h_text, .int v_typed, .int v_at, .int v_sign, .int v_number, .ref a_h_aside, .ref a_h_places, .ref a_h_told])), (a_h_d, .inl (cI, 2086, .inl v_d_A)), (a_h_was, .inl (cI, 10430, .inl v_was_A)), (a_h_accounts, .inl (cJ, 5, .inr (.inl v_accounts_A)))] sz) [(a_h, .inr (8, [.ref a_h_d, .long v_account, .ref a_h_was, .ref a_h_accounts, .int u.2.1, .int v_refused, .ref a_h_text, .int v_typed, .int v_at, .int v_sign, .int v_number, .ref a_h_aside, .ref a_h_places, .ref a_h_told])), (a_h_d, .inl (cI, 2086, .inl u.2.2.1)), (a_h_was, .inl (cI, 10430, .inl u.2.2.2.1)), (a_h_accounts, .inl (cJ, 5, .inr (.inl u.2.2.2.2)))] u.1) 0 0 (va_A [(a_h, .inr (8, [.ref a_h_d, .long v_account, .ref a_h_was, .ref a_h_accounts, .int v_states, .int v_refused, .ref a_h_text, .int v_typed, .int v_at, .int v_sign, .int v_number, .ref a_h_aside, .ref a_h_places, .ref a_h_told])), (a_h_d, .inl (cI, 2086, .inl v_d_A)), (a_h_was, .inl (cI, 10430, .inl v_was_A)), (a_h_accounts, .inl (cJ, 5, .inr (.inl v_accounts_A)))] sz) := by
  refine met_go (y := yX8_removeWeight) (wsy := wsX8_removeWeight) (cc := cX8_removeWeight) (maxL := 5) (ret := (some .int)) (av := [.ref a_h, .int p0]) (Qc := fun A => QI D (ty4 cI cC cJ cB) A [(a_h, .inr (8, [.ref a_h_d, .long v_account, .ref a_h_was, .ref a_h_accounts, .int u.2.1, .int v_refused, .ref a_h_text, .int v_typed, .int v_at, .int v_sign, .int v_number, .ref a_h_aside, .ref a_h_places, .ref a_h_told])), (a_h_d, .inl (cI, 2086, .inl u.2.2.1)), (a_h_was, .inl (cI, 10430, .inl u.2.2.2.1)), (a_h_accounts, .inl (cJ, 5, .inr (.inl u.2.2.2.2)))] u.1) (by decide) rfl (Nat.le_of_ble_eq_true rfl) ?_
  intro p e s m below meth c A ls hx hb hr hml hown hts hlocks hnm hN hK hP hD hS hA hl
  have h := hu
  clear hu
  unfold f_X8_removeWeight at h
  have hl : lv_has ls 5 [(0, .ref a_h), (1, .int p0)] := hl
  have B151 : ∀ (k : Nat) (x2 : Int32) (x3 : Int32) (m_states : Int32) (m_d_A : Nat → Int32) (m_was_A : Nat → Int32) (m_accounts_A : Nat → Int64) (H : Heap) (locs : List Loc) (ls : Array Slot), f_X8_removeWeight_b151 p0 m_states m_was_A m_accounts_A k x3 m_d_A = some u → va_P D vwCl [(a_h, .inr (8, [.ref a_h_d, .long v_account, .ref a_h_was, .ref a_h_accounts, .int m_states, .int v_refused, .ref a_h_text, .int v_typed, .int v_at, .int v_sign, .int v_number, .ref a_h_aside, .ref a_h_places, .ref a_h_told])), (a_h_d, .inl (cI, 2086, .inl m_d_A)), (a_h_was, .inl (cI, 10430, .inl m_was_A)), (a_h_accounts, .inl (cJ, 5, .inr (.inl m_accounts_A)))] H → va_D A [(a_h, .inr (8, [.ref a_h_d, .long v_account, .ref a_h_was, .ref a_h_accounts, .int m_states, .int v_refused, .ref a_h_text, .int v_typed, .int v_at, .int v_sign, .int v_number, .ref a_h_aside, .ref a_h_places, .ref a_h_told])), (a_h_d, .inl (cI, 2086, .inl m_d_A)), (a_h_was, .inl (cI, 10430, .inl m_was_A)), (a_h_accounts, .inl (cJ, 5, .inr (.inl m_accounts_A)))] → va_S A s.heap H locs → lv_has ls 5 [(0, .ref a_h), (1, .int p0), (2, .int x2), (3, .int x3)] → W p l e ({ frames := 2, cells := 0, slots := 0, locals := 43 } : Room) s m ([.ref a_h, .int p0] : List Value).toArray below meth c H locs 0 0 (MQ below (QI D (ty4 cI cC cJ cB) A [(a_h, .inr (8, [.ref a_h_d, .long v_account, .ref a_h_was, .ref a_h_accounts, .int u.2.1, .int v_refused, .ref a_h_text, .int v_typed, .int v_at, .int v_sign, .int v_number, .ref a_h_aside, .ref a_h_places, .ref a_h_told])), (a_h_d, .inl (cI, 2086, .inl u.2.2.1)), (a_h_was, .inl (cI, 10430, .inl u.2.2.2.1)), (a_h_accounts, .inl (cJ, 5, .inr (.inl u.2.2.2.2)))] u.1) ([.ref a_h, .int p0] : List Value).toArray s 0 0 A) (F0 m 151 ls []) := by
    intro k
    induction k with
    | zero =>
      intro x2 x3 m_states m_d_A m_was_A m_accounts_A H locs ls h
      exact nomatch (show (none : Option (Int32 × Int32 × (Nat → Int32) × (Nat → Int32) × (Nat → Int64))) = some u from h)
    | succ k ih =>
      intro x2 x3 m_states m_d_A m_was_A m_accounts_A H locs ls h hP hD hS hl
      rw [f_X8_removeWeight_b151.eq_2] at h
      refine lv_iload_n hx hb dX8_removeWeight_151 rfl (lv_at hl 3 rfl) ?_
      refine lv_aload_n hx hb dX8_removeWeight_152 rfl (lv_at hl 0 rfl) ?_
      refine va_get (D := D) (ci := 8) (v := .ref a_h_d) (C := RX8) (T := TX8) (N := 14) hx hb hts in_X8_removeWeight_X8 hown hK hP 0 rfl rfl 0 (by decide) (hts _ q_X8_removeWeight_2) (fun _ h9 => h9) rfl dX8_removeWeight_153 ?_
      refine lv_bipush (v := (41 : Int32)) hx hb dX8_removeWeight_156 (by decide) ?_
      refine wx_iald hx hb hK hP 1 0 rfl rfl 41 (by decide) (by unfold vp_in; decide) dX8_removeWeight_158 ?_
      refine lv_icmp_ge (tgt := 198) hx hb dX8_removeWeight_159 (by decide) (fun hc11 => ?_) (fun hc11 => ?_)
      · replace h := it_e hc11 h
        refine lv_aload_n hx hb dX8_removeWeight_198 rfl (lv_at hl 0 rfl) ?_
        refine va_get (D := D) (ci := 8) (v := .ref a_h_d) (C := RX8) (T := TX8) (N := 14) hx hb hts in_X8_removeWeight_X8 hown hK hP 0 rfl rfl 0 (by decide) (hts _ q_X8_removeWeight_2) (fun _ h9 => h9) rfl dX8_removeWeight_199 ?_
        refine lv_bipush (v := (41 : Int32)) hx hb dX8_removeWeight_202 (by decide) ?_
        refine wx_iald hx hb hK hP 1 0 rfl rfl 41 (by decide) (by unfold vp_in; decide) dX8_removeWeight_204 ?_
        obtain rfl := sm_e h
        exact rx_i hx hb hr  hP hK hD hS dX8_removeWeight_205 hlocks
      · replace h := if_e hc11 h
        refine lv_aload_n hx hb dX8_removeWeight_162 rfl (lv_at hl 0 rfl) ?_
        refine va_get (D := D) (ci := 8) (v := .ref a_h_d) (C := RX8) (T := TX8) (N := 14) hx hb hts in_X8_removeWeight_X8 hown hK hP 0 rfl rfl 0 (by decide) (hts _ q_X8_removeWeight_2) (fun _ h9 => h9) rfl dX8_removeWeight_163 ?_
        refine lv_bipush (v := (66 : Int32)) hx hb dX8_removeWeight_166 (by decide) ?_
        refine lv_iload_n hx hb dX8_removeWeight_168 rfl (lv_at hl 3 rfl) ?_
        refine lv_iadd hx hb dX8_removeWeight_169 ?_
        refine lv_dup2_11 hx hb dX8_removeWeight_170 rfl rfl ?_
        obtain ⟨hi12, h⟩ := gA_e h
        refine wx_iald hx hb hK hP 1 0 rfl rfl (Int32.toNatClampNeg ((66 : Int32) + x3)) rfl hi12 dX8_removeWeight_171 ?_
        refine lv_aload_n hx hb dX8_removeWeight_172 rfl (lv_at hl 0 rfl) ?_
        refine va_get (D := D) (ci := 8) (v := .ref a_h_d) (C := RX8) (T := TX8) (N := 14) hx hb hts in_X8_removeWeight_X8 hown hK hP 0 rfl rfl 0 (by decide) (hts _ q_X8_removeWeight_2) (fun _ h9 => h9) rfl dX8_removeWeight_173 ?_
        refine lv_bipush (v := (66 : Int32)) hx hb dX8_removeWeight_176 (by decide) ?_
        refine lv_iload_n hx hb dX8_removeWeight_178 rfl (lv_at hl 3 rfl) ?_
        refine lv_iadd hx hb dX8_removeWeight_179 ?_
        obtain ⟨hi13, h⟩ := gA_e h
        refine wx_iald hx hb hK hP 1 0 rfl rfl (Int32.toNatClampNeg ((66 : Int32) + x3)) rfl hi13 dX8_removeWeight_180 ?_
        refine lv_iload_n hx hb dX8_removeWeight_181 rfl (lv_at hl 1 rfl) ?_
        refine lv_icmp_le (tgt := 189) hx hb dX8_removeWeight_182 (by decide) (fun hc14 => ?_) (fun hc14 => ?_)
        · replace h := it_e hc14 h
          refine lv_iconst (v := (0 : Int32)) hx hb dX8_removeWeight_189 (by decide) ?_
          refine lv_isub hx hb dX8_removeWeight_190 ?_
          refine lv_topi (fun t15 et15 => ?_)
          replace h := nm_at h et15
          obtain ⟨hi16, h⟩ := gA_e h
          refine wx_iast hx hb hK hP hD hS 1 0 rfl rfl (Int32.toNatClampNeg ((66 : Int32) + x3)) rfl hi16 dX8_removeWeight_191 rfl (fun H locs hP hD hS => ?_)
          obtain ⟨g17, eg17, h⟩ := nm_x h
          have hP : va_P D vwCl [(a_h, .inr (8, [.ref a_h_d, .long v_account, .ref a_h_was, .ref a_h_accounts, .int m_states, .int v_refused, .ref a_h_text, .int v_typed, .int v_at, .int v_sign, .int v_number, .ref a_h_aside, .ref a_h_places, .ref a_h_told])), (a_h_d, .inl (cI, 2086, .inl g17)), (a_h_was, .inl (cI, 10430, .inl m_was_A)), (a_h_accounts, .inl (cJ, 5, .inr (.inl m_accounts_A)))] H := by rw [eg17]; exact hP
          have hD : va_D A [(a_h, .inr (8, [.ref a_h_d, .long v_account, .ref a_h_was, .ref a_h_accounts, .int m_states, .int v_refused, .ref a_h_text, .int v_typed, .int v_at, .int v_sign, .int v_number, .ref a_h_aside, .ref a_h_places, .ref a_h_told])), (a_h_d, .inl (cI, 2086, .inl g17)), (a_h_was, .inl (cI, 10430, .inl m_was_A)), (a_h_accounts, .inl (cJ, 5, .inr (.inl m_accounts_A)))] := by rw [eg17]; exact hD
          obtain ⟨t18, et18, h⟩ := nm_x h
          refine lv_iinc (v := t18) (lv' := [(3, .int t18), (0, .ref a_h), (1, .int p0), (2, .int x2)]) hx hb dX8_removeWeight_192 hl (k := 3) rfl (by rw [et18]; rfl) (by decide) rfl (fun ls hl => ?_)
          refine lv_goto (tgt := 151) hx hb dX8_removeWeight_195 (by decide) ?_
          exact ih x2 t18 m_states g17 m_was_A m_accounts_A _ _ _ h hP hD hS (lv_sub hl [1, 2, 3, 0] rfl)
        · replace h := if_e hc14 h
          refine lv_iconst (v := (1 : Int32)) hx hb dX8_removeWeight_185 (by decide) ?_
          refine lv_goto (tgt := 190) hx hb dX8_removeWeight_186 (by decide) ?_
          refine lv_isub hx hb dX8_removeWeight_190 ?_
          refine lv_topi (fun t19 et19 => ?_)
          replace h := nm_at h et19
          obtain ⟨hi20, h⟩ := gA_e h
          refine wx_iast hx hb hK hP hD hS 1 0 rfl rfl (Int32.toNatClampNeg ((66 : Int32) + x3)) rfl hi20 dX8_removeWeight_191 rfl (fun H locs hP hD hS => ?_)
          obtain ⟨g21, eg21, h⟩ := nm_x h
          have hP : va_P D vwCl [(a_h, .inr (8, [.ref a_h_d, .long v_account, .ref a_h_was, .ref a_h_accounts, .int m_states, .int v_refused, .ref a_h_text, .int v_typed, .int v_at, .int v_sign, .int v_number, .ref a_h_aside, .ref a_h_places, .ref a_h_told])), (a_h_d, .inl (cI, 2086, .inl g21)), (a_h_was, .inl (cI, 10430, .inl m_was_A)), (a_h_accounts, .inl (cJ, 5, .inr (.inl m_accounts_A)))] H := by rw [eg21]; exact hP
          have hD : va_D A [(a_h, .inr (8, [.ref a_h_d, .long v_account, .ref a_h_was, .ref a_h_accounts, .int m_states, .int v_refused, .ref a_h_text, .int v_typed, .int v_at, .int v_sign, .int v_number, .ref a_h_aside, .ref a_h_places, .ref a_h_told])), (a_h_d, .inl (cI, 2086, .inl g21)), (a_h_was, .inl (cI, 10430, .inl m_was_A)), (a_h_accounts, .inl (cJ, 5, .inr (.inl m_accounts_A)))] := by rw [eg21]; exact hD
          obtain ⟨t22, et22, h⟩ := nm_x h
          refine lv_iinc (v := t22) (lv' := [(3, .int t22), (0, .ref a_h), (1, .int p0), (2, .int x2)]) hx hb dX8_removeWeight_192 hl (k := 3) rfl (by rw [et22]; rfl) (by decide) rfl (fun ls hl => ?_)
          refine lv_goto (tgt := 151) hx hb dX8_removeWeight_195 (by decide) ?_
          exact ih x2 t22 m_states g21 m_was_A m_accounts_A _ _ _ h hP hD hS (lv_sub hl [1, 2, 3, 0] rfl)
  have B110 : ∀ (rc : Int32 → Int32 → Int32 → (Nat → Int32) → (Nat → Int32) → (Nat → Int64) → Option (Int32 × Int32 × (Nat → Int32) × (Nat → Int32) × (Nat → Int64))) (hrc : ∀ (x2 : Int32) (x3 : Int32) (m_states : Int32) (m_d_A : Nat → Int32) (m_was_A : Nat → Int32) (m_accounts_A : Nat → Int64) (H : Heap) (locs : List Loc) (ls : Array Slot), rc x2 x3 m_states m_d_A m_was_A m_accounts_A = some u → va_P D vwCl [(a_h, .inr (8, [.ref a_h_d, .long v_account, .ref a_h_was, .ref a_h_accounts, .int m_states, .int v_refused, .ref a_h_text, .int v_typed, .int v_at, .int v_sign, .int v_number, .ref a_h_aside, .ref a_h_places, .ref a_h_told])), (a_h_d, .inl (cI, 2086, .inl m_d_A)), (a_h_was, .inl (cI, 10430, .inl m_was_A)), (a_h_accounts, .inl (cJ, 5, .inr (.inl m_accounts_A)))] H → va_D A [(a_h, .inr (8, [.ref a_h_d, .long v_account, .ref a_h_was, .ref a_h_accounts, .int m_states, .int v_refused, .ref a_h_text, .int v_typed, .int v_at, .int v_sign, .int v_number, .ref a_h_aside, .ref a_h_places, .ref a_h_told])), (a_h_d, .inl (cI, 2086, .inl m_d_A)), (a_h_was, .inl (cI, 10430, .inl m_was_A)), (a_h_accounts, .inl (cJ, 5, .inr (.inl m_accounts_A)))] → va_S A s.heap H locs → lv_has ls 5 [(0, .ref a_h), (1, .int p0), (2, .int x2), (3, .int x3)] → W p l e ({ frames := 2, cells := 0, slots := 0, locals := 43 } : Room) s m ([.ref a_h, .int p0] : List Value).toArray below meth c H locs 0 0 (MQ below (QI D (ty4 cI cC cJ cB) A [(a_h, .inr (8, [.ref a_h_d, .long v_account, .ref a_h_was, .ref a_h_accounts, .int u.2.1, .int v_refused, .ref a_h_text, .int v_typed, .int v_at, .int v_sign, .int v_number, .ref a_h_aside, .ref a_h_places, .ref a_h_told])), (a_h_d, .inl (cI, 2086, .inl u.2.2.1)), (a_h_was, .inl (cI, 10430, .inl u.2.2.2.1)), (a_h_accounts, .inl (cJ, 5, .inr (.inl u.2.2.2.2)))] u.1) ([.ref a_h, .int p0] : List Value).toArray s 0 0 A) (F0 m 95 ls [])) (k : Nat) (x2 : Int32) (x3 : Int32) (x4 : Int32) (m_states : Int32) (m_d_A : Nat → Int32) (m_was_A : Nat → Int32) (m_accounts_A : Nat → Int64) (H : Heap) (locs : List Loc) (ls : Array Slot), f_X8_removeWeight_b110 rc x2 x3 m_states m_was_A m_accounts_A k x4 m_d_A = some u → va_P D vwCl [(a_h, .inr (8, [.ref a_h_d, .long v_account, .ref a_h_was, .ref a_h_accounts, .int m_states, .int v_refused, .ref a_h_text, .int v_typed, .int v_at, .int v_sign, .int v_number, .ref a_h_aside, .ref a_h_places, .ref a_h_told])), (a_h_d, .inl (cI, 2086, .inl m_d_A)), (a_h_was, .inl (cI, 10430, .inl m_was_A)), (a_h_accounts, .inl (cJ, 5, .inr (.inl m_accounts_A)))] H → va_D A [(a_h, .inr (8, [.ref a_h_d, .long v_account, .ref a_h_was, .ref a_h_accounts, .int m_states, .int v_refused, .ref a_h_text, .int v_typed, .int v_at, .int v_sign, .int v_number, .ref a_h_aside, .ref a_h_places, .ref a_h_told])), (a_h_d, .inl (cI, 2086, .inl m_d_A)), (a_h_was, .inl (cI, 10430, .inl m_was_A)), (a_h_accounts, .inl (cJ, 5, .inr (.inl m_accounts_A)))] → va_S A s.heap H locs → lv_has ls 5 [(0, .ref a_h), (1, .int p0), (2, .int x2), (3, .int x3), (4, .int x4)] → W p l e ({ frames := 2, cells := 0, slots := 0, locals := 43 } : Room) s m ([.ref a_h, .int p0] : List Value).toArray below meth c H locs 0 0 (MQ below (QI D (ty4 cI cC cJ cB) A [(a_h, .inr (8, [.ref a_h_d, .long v_account, .ref a_h_was, .ref a_h_accounts, .int u.2.1, .int v_refused, .ref a_h_text, .int v_typed, .int v_at, .int v_sign, .int v_number, .ref a_h_aside, .ref a_h_places, .ref a_h_told])), (a_h_d, .inl (cI, 2086, .inl u.2.2.1)), (a_h_was, .inl (cI, 10430, .inl u.2.2.2.1)), (a_h_accounts, .inl (cJ, 5, .inr (.inl u.2.2.2.2)))] u.1) ([.ref a_h, .int p0] : List Value).toArray s 0 0 A) (F0 m 110 ls []) := by
    intro rc hrc k
    induction k with
    | zero =>
      intro x2 x3 x4 m_states m_d_A m_was_A m_accounts_A H locs ls h
      exact nomatch (show (none : Option (Int32 × Int32 × (Nat → Int32) × (Nat → Int32) × (Nat → Int64))) = some u from h)
    | succ k ih =>
      intro x2 x3 x4 m_states m_d_A m_was_A m_accounts_A H locs ls h hP hD hS hl
      rw [f_X8_removeWeight_b110.eq_2] at h
      refine lv_iload hx hb dX8_removeWeight_110 (lv_at hl 4 rfl) ?_
      refine lv_bipush (v := (74 : Int32)) hx hb dX8_removeWeight_112 (by decide) ?_
      refine lv_icmp_gt (tgt := 143) hx hb dX8_removeWeight_114 (by decide) (fun hc23 => ?_) (fun hc23 => ?_)
      · replace h := it_e hc23 h
        obtain ⟨t24, et24, h⟩ := nm_x h
        refine lv_iinc (v := t24) (lv' := [(3, .int t24), (0, .ref a_h), (1, .int p0), (2, .int x2), (4, .int x4)]) hx hb dX8_removeWeight_143 hl (k := 3) rfl (by rw [et24]; rfl) (by decide) rfl (fun ls hl => ?_)
        refine lv_goto (tgt := 95) hx hb dX8_removeWeight_146 (by decide) ?_
        exact hrc x2 t24 m_states m_d_A m_was_A m_accounts_A _ _ _ h hP hD hS (lv_sub hl [1, 2, 3, 0] rfl)
      · replace h := if_e hc23 h
        refine lv_aload_n hx hb dX8_removeWeight_117 rfl (lv_at hl 0 rfl) ?_
        refine va_get (D := D) (ci := 8) (v := .ref a_h_d) (C := RX8) (T := TX8) (N := 14) hx hb hts in_X8_removeWeight_X8 hown hK hP 0 rfl rfl 0 (by decide) (hts _ q_X8_removeWeight_2) (fun _ h9 => h9) rfl dX8_removeWeight_118 ?_
        refine lv_iload hx hb dX8_removeWeight_121 (lv_at hl 4 rfl) ?_
        refine lv_iload_n hx hb dX8_removeWeight_123 rfl (lv_at hl 3 rfl) ?_
        refine lv_iadd hx hb dX8_removeWeight_124 ?_
        refine lv_aload_n hx hb dX8_removeWeight_125 rfl (lv_at hl 0 rfl) ?_
        refine va_get (D := D) (ci := 8) (v := .ref a_h_d) (C := RX8) (T := TX8) (N := 14) hx hb hts in_X8_removeWeight_X8 hown hK hP 0 rfl rfl 0 (by decide) (hts _ q_X8_removeWeight_2) (fun _ h9 => h9) rfl dX8_removeWeight_126 ?_
        refine lv_iload hx hb dX8_removeWeight_129 (lv_at hl 4 rfl) ?_
        refine lv_iload_n hx hb dX8_removeWeight_131 rfl (lv_at hl 3 rfl) ?_
        refine lv_iadd hx hb dX8_removeWeight_132 ?_
        refine lv_iconst (v := (1 : Int32)) hx hb dX8_removeWeight_133 (by decide) ?_
        refine lv_iadd hx hb dX8_removeWeight_134 ?_
        obtain ⟨hi25, h⟩ := gA_e h
        refine wx_iald hx hb hK hP 1 0 rfl rfl (Int32.toNatClampNeg ((x4 + x3) + (1 : Int32))) rfl hi25 dX8_removeWeight_135 ?_
        refine lv_topi (fun t26 et26 => ?_)
        replace h := nm_at h et26
        obtain ⟨hi27, h⟩ := gA_e h
        refine wx_iast hx hb hK hP hD hS 1 0 rfl rfl (Int32.toNatClampNeg (x4 + x3)) rfl hi27 dX8_removeWeight_136 rfl (fun H locs hP hD hS => ?_)
        obtain ⟨g28, eg28, h⟩ := nm_x h
        have hP : va_P D vwCl [(a_h, .inr (8, [.ref a_h_d, .long v_account, .ref a_h_was, .ref a_h_accounts, .int m_states, .int v_refused, .ref a_h_text, .int v_typed, .int v_at, .int v_sign, .int v_number, .ref a_h_aside, .ref a_h_places, .ref a_h_told])), (a_h_d, .inl (cI, 2086, .inl g28)), (a_h_was, .inl (cI, 10430, .inl m_was_A)), (a_h_accounts, .inl (cJ, 5, .inr (.inl m_accounts_A)))] H := by rw [eg28]; exact hP
        have hD : va_D A [(a_h, .inr (8, [.ref a_h_d, .long v_account, .ref a_h_was, .ref a_h_accounts, .int m_states, .int v_refused, .ref a_h_text, .int v_typed, .int v_at, .int v_sign, .int v_number, .ref a_h_aside, .ref a_h_places, .ref a_h_told])), (a_h_d, .inl (cI, 2086, .inl g28)), (a_h_was, .inl (cI, 10430, .inl m_was_A)), (a_h_accounts, .inl (cJ, 5, .inr (.inl m_accounts_A)))] := by rw [eg28]; exact hD
        obtain ⟨t29, et29, h⟩ := nm_x h
        refine lv_iinc (v := t29) (lv' := [(4, .int t29), (0, .ref a_h), (1, .int p0), (2, .int x2), (3, .int x3)]) hx hb dX8_removeWeight_137 hl (k := 4) rfl (by rw [et29]; rfl) (by decide) rfl (fun ls hl => ?_)
        refine lv_goto (tgt := 110) hx hb dX8_removeWeight_140 (by decide) ?_
        exact ih x2 x3 t29 m_states g28 m_was_A m_accounts_A _ _ _ h hP hD hS (lv_sub hl [1, 2, 3, 4, 0] rfl)
  have B95 : ∀ (k : Nat) (x2 : Int32) (x3 : Int32) (m_states : Int32) (m_d_A : Nat → Int32) (m_was_A : Nat → Int32) (m_accounts_A : Nat → Int64) (H : Heap) (locs : List Loc) (ls : Array Slot), f_X8_removeWeight_b95 N p0 k x2 x3 m_states m_d_A m_was_A m_accounts_A = some u → va_P D vwCl [(a_h, .inr (8, [.ref a_h_d, .long v_account, .ref a_h_was, .ref a_h_accounts, .int m_states, .int v_refused, .ref a_h_text, .int v_typed, .int v_at, .int v_sign, .int v_number, .ref a_h_aside, .ref a_h_places, .ref a_h_told])), (a_h_d, .inl (cI, 2086, .inl m_d_A)), (a_h_was, .inl (cI, 10430, .inl m_was_A)), (a_h_accounts, .inl (cJ, 5, .inr (.inl m_accounts_A)))] H → va_D A [(a_h, .inr (8, [.ref a_h_d, .long v_account, .ref a_h_was, .ref a_h_accounts, .int m_states, .int v_refused, .ref a_h_text, .int v_typed, .int v_at, .int v_sign, .int v_number, .ref a_h_aside, .ref a_h_places, .ref a_h_told])), (a_h_d, .inl (cI, 2086, .inl m_d_A)), (a_h_was, .inl (cI, 10430, .inl m_was_A)), (a_h_accounts, .inl (cJ, 5, .inr (.inl m_accounts_A)))] → va_S A s.heap H locs → lv_has ls 5 [(0, .ref a_h), (1, .int p0), (2, .int x2), (3, .int x3)] → W p l e ({ frames := 2, cells := 0, slots := 0, locals := 43 } : Room) s m ([.ref a_h, .int p0] : List Value).toArray below meth c H locs 0 0 (MQ below (QI D (ty4 cI cC cJ cB) A [(a_h, .inr (8, [.ref a_h_d, .long v_account, .ref a_h_was, .ref a_h_accounts, .int u.2.1, .int v_refused, .ref a_h_text, .int v_typed, .int v_at, .int v_sign, .int v_number, .ref a_h_aside, .ref a_h_places, .ref a_h_told])), (a_h_d, .inl (cI, 2086, .inl u.2.2.1)), (a_h_was, .inl (cI, 10430, .inl u.2.2.2.1)), (a_h_accounts, .inl (cJ, 5, .inr (.inl u.2.2.2.2)))] u.1) ([.ref a_h, .int p0] : List Value).toArray s 0 0 A) (F0 m 95 ls []) := by
    intro k
    induction k with
    | zero =>
      intro x2 x3 m_states m_d_A m_was_A m_accounts_A H locs ls h
      exact nomatch (show (none : Option (Int32 × Int32 × (Nat → Int32) × (Nat → Int32) × (Nat → Int64))) = some u from h)
    | succ k ih =>
      intro x2 x3 m_states m_d_A m_was_A m_accounts_A H locs ls h hP hD hS hl
      rw [f_X8_removeWeight_b95.eq_2] at h
      refine lv_iload_n hx hb dX8_removeWeight_95 rfl (lv_at hl 3 rfl) ?_
      refine lv_aload_n hx hb dX8_removeWeight_96 rfl (lv_at hl 0 rfl) ?_
      refine va_get (D := D) (ci := 8) (v := .ref a_h_d) (C := RX8) (T := TX8) (N := 14) hx hb hts in_X8_removeWeight_X8 hown hK hP 0 rfl rfl 0 (by decide) (hts _ q_X8_removeWeight_2) (fun _ h9 => h9) rfl dX8_removeWeight_97 ?_
      refine lv_bipush (v := (41 : Int32)) hx hb dX8_removeWeight_100 (by decide) ?_
      refine wx_iald hx hb hK hP 1 0 rfl rfl 41 (by decide) (by unfold vp_in; decide) dX8_removeWeight_102 ?_
      refine lv_icmp_ge (tgt := 149) hx hb dX8_removeWeight_103 (by decide) (fun hc10 => ?_) (fun hc10 => ?_)
      · replace h := it_e hc10 h
        refine lv_iconst (v := (0 : Int32)) hx hb dX8_removeWeight_149 (by decide) ?_
        refine lv_istore_n (lv' := [(3, .int (0 : Int32)), (0, .ref a_h), (1, .int p0), (2, .int x2)]) hx hb dX8_removeWeight_150 rfl hl (by decide) rfl (fun ls hl => ?_)
        exact B151 N x2 (0 : Int32) m_states m_d_A m_was_A m_accounts_A _ _ _ h hP hD hS (lv_sub hl [1, 2, 3, 0] rfl)
      · replace h := if_e hc10 h
        refine lv_bipush (v := (42 : Int32)) hx hb dX8_removeWeight_106 (by decide) ?_
        refine lv_istore (lv' := [(4, .int (42 : Int32)), (0, .ref a_h), (1, .int p0), (2, .int x2), (3, .int x3)]) hx hb dX8_removeWeight_108 hl (by decide) rfl (fun ls hl => ?_)
        exact B110 (f_X8_removeWeight_b95 N p0 k) ih N x2 x3 (42 : Int32) m_states m_d_A m_was_A m_accounts_A _ _ _ h hP hD hS (lv_sub hl [1, 2, 3, 4, 0] rfl)
  have B31 : ∀ (k : Nat) (x2 : Int32) (x3 : Int32) (m_states : Int32) (m_d_A : Nat → Int32) (m_was_A : Nat → Int32) (m_accounts_A : Nat → Int64) (H : Heap) (locs : List Loc) (ls : Array Slot), f_X8_removeWeight_b31 N v_account p0 m_states m_d_A m_was_A m_accounts_A k x2 x3 = some u → va_P D vwCl [(a_h, .inr (8, [.ref a_h_d, .long v_account, .ref a_h_was, .ref a_h_accounts, .int m_states, .int v_refused, .ref a_h_text, .int v_typed, .int v_at, .int v_sign, .int v_number, .ref a_h_aside, .ref a_h_places, .ref a_h_told])), (a_h_d, .inl (cI, 2086, .inl m_d_A)), (a_h_was, .inl (cI, 10430, .inl m_was_A)), (a_h_accounts, .inl (cJ, 5, .inr (.inl m_accounts_A)))] H → va_D A [(a_h, .inr (8, [.ref a_h_d, .long v_account, .ref a_h_was, .ref a_h_accounts, .int m_states, .int v_refused, .ref a_h_text, .int v_typed, .int v_at, .int v_sign, .int v_number, .ref a_h_aside, .ref a_h_places, .ref a_h_told])), (a_h_d, .inl (cI, 2086, .inl m_d_A)), (a_h_was, .inl (cI, 10430, .inl m_was_A)), (a_h_accounts, .inl (cJ, 5, .inr (.inl m_accounts_A)))] → va_S A s.heap H locs → lv_has ls 5 [(0, .ref a_h), (1, .int p0), (2, .int x2), (3, .int x3)] → W p l e ({ frames := 2, cells := 0, slots := 0, locals := 43 } : Room) s m ([.ref a_h, .int p0] : List Value).toArray below meth c H locs 0 0 (MQ below (QI D (ty4 cI cC cJ cB) A [(a_h, .inr (8, [.ref a_h_d, .long v_account, .ref a_h_was, .ref a_h_accounts, .int u.2.1, .int v_refused, .ref a_h_text, .int v_typed, .int v_at, .int v_sign, .int v_number, .ref a_h_aside, .ref a_h_places, .ref a_h_told])), (a_h_d, .inl (cI, 2086, .inl u.2.2.1)), (a_h_was, .inl (cI, 10430, .inl u.2.2.2.1)), (a_h_accounts, .inl (cJ, 5, .inr (.inl u.2.2.2.2)))] u.1) ([.ref a_h, .int p0] : List Value).toArray s 0 0 A) (F0 m 31 ls []) := by
    intro k
    induction k with
    | zero =>
      intro x2 x3 m_states m_d_A m_was_A m_accounts_A H locs ls h
      exact nomatch (show (none : Option (Int32 × Int32 × (Nat → Int32) × (Nat → Int32) × (Nat → Int64))) = some u from h)
    | succ k ih =>
      intro x2 x3 m_states m_d_A m_was_A m_accounts_A H locs ls h hP hD hS hl
      rw [f_X8_removeWeight_b31.eq_2] at h
      refine lv_iload_n hx hb dX8_removeWeight_31 rfl (lv_at hl 3 rfl) ?_
      refine lv_aload_n hx hb dX8_removeWeight_32 rfl (lv_at hl 0 rfl) ?_
      refine va_get (D := D) (ci := 8) (v := .ref a_h_d) (C := RX8) (T := TX8) (N := 14) hx hb hts in_X8_removeWeight_X8 hown hK hP 0 rfl rfl 0 (by decide) (hts _ q_X8_removeWeight_2) (fun _ h9 => h9) rfl dX8_removeWeight_33 ?_
      refine lv_bipush (v := (41 : Int32)) hx hb dX8_removeWeight_36 (by decide) ?_
      refine wx_iald hx hb hK hP 1 0 rfl rfl 41 (by decide) (by unfold vp_in; decide) dX8_removeWeight_38 ?_
      refine lv_icmp_ge (tgt := 71) hx hb dX8_removeWeight_39 (by decide) (fun hc5 => ?_) (fun hc5 => ?_)
      · replace h := it_e hc5 h
        refine lv_iload_n hx hb dX8_removeWeight_71 rfl (lv_at hl 2 rfl) ?_
        refine lv_if_ne (tgt := 78) hx hb dX8_removeWeight_72 (by decide) (fun hc6 => ?_) (fun hc6 => ?_)
        · replace h := it_e hc6 h
          refine lv_aload_n hx hb dX8_removeWeight_78 rfl (lv_at hl 0 rfl) ?_
          obtain ⟨u7, hu7, h⟩ := bd_e h
          refine kx_v (mc := 0) (ms := 0) (wr := []) (ws2 := [(a_h, .inr (8, [.ref a_h_d, .long v_account, .ref a_h_was, .ref a_h_accounts, .int u7.1, .int v_refused, .ref a_h_text, .int v_typed, .int v_at, .int v_sign, .int v_number, .ref a_h_aside, .ref a_h_places, .ref a_h_told])), (a_h_d, .inl (cI, 2086, .inl m_d_A)), (a_h_was, .inl (cI, 10430, .inl u7.2.1)), (a_h_accounts, .inl (cJ, 5, .inr (.inl u7.2.2)))]) (va_runV (As := []) (rest := []) ⟨hx, hb, hml, hown, hts⟩ (k_X8_records l D cI cC cJ cB a_h a_h_d a_h_was a_h_accounts a_h_text a_h_aside a_h_places a_h_told v_account m_states v_refused v_typed v_at v_sign v_number m_d_A m_was_A m_accounts_A N H.size _ hu7) (cwV 0 hts gX8_removeWeight_X8_records rfl rfl rfl (by decide +kernel) ⟨Nat.le_of_ble_eq_true rfl, Nat.le_of_ble_eq_true rfl⟩) (pv_V hP hD hK hN [0, 1, 2, 3] rfl rfl (ci := 8) rfl 0 rfl) rfl rfl hl.1 rfl (lv_room (Nat.le_of_ble_eq_true rfl)) dX8_removeWeight_79 ⟨Nat.zero_le _, Nat.zero_le _⟩) hP hD hS hA [0, 1, 2, 3] [] [0, 1, 2, 3] rfl rfl rfl rfl rfl rfl (fun H locs hP hD hS => ?_)
          refine lv_aload_n hx hb dX8_removeWeight_82 rfl (lv_at hl 0 rfl) ?_
          refine va_get (D := D) (ci := 8) (v := .ref a_h_d) (C := RX8) (T := TX8) (N := 14) hx hb hts in_X8_removeWeight_X8 hown hK hP 0 rfl rfl 0 (by decide) (hts _ q_X8_removeWeight_2) (fun _ h9 => h9) rfl dX8_removeWeight_83 ?_
          refine lv_bipush (v := (41 : Int32)) hx hb dX8_removeWeight_86 (by decide) ?_
          refine lv_dup2_11 hx hb dX8_removeWeight_88 rfl rfl ?_
          refine wx_iald hx hb hK hP 1 0 rfl rfl 41 (by decide) (by unfold vp_in; decide) dX8_removeWeight_89 ?_
          refine lv_iconst (v := (1 : Int32)) hx hb dX8_removeWeight_90 (by decide) ?_
          refine lv_isub hx hb dX8_removeWeight_91 ?_
          refine lv_topi (fun t8 et8 => ?_)
          replace h := nm_at h et8
          refine wx_iast hx hb hK hP hD hS 1 0 rfl rfl 41 (by decide) (by unfold vp_in; decide) dX8_removeWeight_92 rfl (fun H locs hP hD hS => ?_)
          obtain ⟨g9, eg9, h⟩ := nm_x h
          have hP : va_P D vwCl [(a_h, .inr (8, [.ref a_h_d, .long v_account, .ref a_h_was, .ref a_h_accounts, .int u7.1, .int v_refused, .ref a_h_text, .int v_typed, .int v_at, .int v_sign, .int v_number, .ref a_h_aside, .ref a_h_places, .ref a_h_told])), (a_h_d, .inl (cI, 2086, .inl g9)), (a_h_was, .inl (cI, 10430, .inl u7.2.1)), (a_h_accounts, .inl (cJ, 5, .inr (.inl u7.2.2)))] H := by rw [eg9]; exact hP
          have hD : va_D A [(a_h, .inr (8, [.ref a_h_d, .long v_account, .ref a_h_was, .ref a_h_accounts, .int u7.1, .int v_refused, .ref a_h_text, .int v_typed, .int v_at, .int v_sign, .int v_number, .ref a_h_aside, .ref a_h_places, .ref a_h_told])), (a_h_d, .inl (cI, 2086, .inl g9)), (a_h_was, .inl (cI, 10430, .inl u7.2.1)), (a_h_accounts, .inl (cJ, 5, .inr (.inl u7.2.2)))] := by rw [eg9]; exact hD
          refine lv_iload_n hx hb dX8_removeWeight_93 rfl (lv_at hl 1 rfl) ?_
          refine lv_istore_n (lv' := [(3, .int p0), (0, .ref a_h), (1, .int p0), (2, .int x2)]) hx hb dX8_removeWeight_94 rfl hl (by decide) rfl (fun ls hl => ?_)
          exact B95 N x2 p0 u7.1 g9 u7.2.1 u7.2.2 _ _ _ h hP hD hS (lv_sub hl [1, 2, 3, 0] rfl)
        · replace h := in_e hc6 h
          refine lv_ldc (v := (-2000000002 : Int32)) hx hb hown (hts _ q_X8_removeWeight_3) dX8_removeWeight_75 ?_
          obtain rfl := sm_e h
          exact rx_i hx hb hr  hP hK hD hS dX8_removeWeight_77 hlocks
      · replace h := if_e hc5 h
        refine lv_iload_n hx hb dX8_removeWeight_42 rfl (lv_at hl 2 rfl) ?_
        refine lv_if_eq (tgt := 63) hx hb dX8_removeWeight_43 (by decide) (fun hc30 => ?_) (fun hc30 => ?_)
        · replace h := it_e hc30 h
          refine lv_iconst (v := (0 : Int32)) hx hb dX8_removeWeight_63 (by decide) ?_
          refine lv_istore_n (lv' := [(2, .int (0 : Int32)), (0, .ref a_h), (1, .int p0), (3, .int x3)]) hx hb dX8_removeWeight_64 rfl hl (by decide) rfl (fun ls hl => ?_)
          obtain ⟨t31, et31, h⟩ := nm_x h
          refine lv_iinc (v := t31) (lv' := [(3, .int t31), (2, .int (0 : Int32)), (0, .ref a_h), (1, .int p0)]) hx hb dX8_removeWeight_65 hl (k := 3) rfl (by rw [et31]; rfl) (by decide) rfl (fun ls hl => ?_)
          refine lv_goto (tgt := 31) hx hb dX8_removeWeight_68 (by decide) ?_
          exact ih (0 : Int32) t31 m_states m_d_A m_was_A m_accounts_A _ _ _ h hP hD hS (lv_sub hl [2, 3, 1, 0] rfl)
        · replace h := if_e hc30 h
          refine lv_aload_n hx hb dX8_removeWeight_46 rfl (lv_at hl 0 rfl) ?_
          refine va_get (D := D) (ci := 8) (v := .ref a_h_d) (C := RX8) (T := TX8) (N := 14) hx hb hts in_X8_removeWeight_X8 hown hK hP 0 rfl rfl 0 (by decide) (hts _ q_X8_removeWeight_2) (fun _ h9 => h9) rfl dX8_removeWeight_47 ?_
          refine lv_bipush (v := (66 : Int32)) hx hb dX8_removeWeight_50 (by decide) ?_
          refine lv_iload_n hx hb dX8_removeWeight_52 rfl (lv_at hl 3 rfl) ?_
          refine lv_iadd hx hb dX8_removeWeight_53 ?_
          obtain ⟨hi32, h⟩ := gA_e h
          refine wx_iald hx hb hK hP 1 0 rfl rfl (Int32.toNatClampNeg ((66 : Int32) + x3)) rfl hi32 dX8_removeWeight_54 ?_
          refine lv_iload_n hx hb dX8_removeWeight_55 rfl (lv_at hl 1 rfl) ?_
          refine lv_icmp_eq (tgt := 63) hx hb dX8_removeWeight_56 (by decide) (fun hc33 => ?_) (fun hc33 => ?_)
          · replace h := it_e hc33 h
            refine lv_iconst (v := (0 : Int32)) hx hb dX8_removeWeight_63 (by decide) ?_
            refine lv_istore_n (lv' := [(2, .int (0 : Int32)), (0, .ref a_h), (1, .int p0), (3, .int x3)]) hx hb dX8_removeWeight_64 rfl hl (by decide) rfl (fun ls hl => ?_)
            obtain ⟨t34, et34, h⟩ := nm_x h
            refine lv_iinc (v := t34) (lv' := [(3, .int t34), (2, .int (0 : Int32)), (0, .ref a_h), (1, .int p0)]) hx hb dX8_removeWeight_65 hl (k := 3) rfl (by rw [et34]; rfl) (by decide) rfl (fun ls hl => ?_)
            refine lv_goto (tgt := 31) hx hb dX8_removeWeight_68 (by decide) ?_
            exact ih (0 : Int32) t34 m_states m_d_A m_was_A m_accounts_A _ _ _ h hP hD hS (lv_sub hl [2, 3, 1, 0] rfl)
          · replace h := if_e hc33 h
            refine lv_iconst (v := (1 : Int32)) hx hb dX8_removeWeight_59 (by decide) ?_
            refine lv_goto (tgt := 64) hx hb dX8_removeWeight_60 (by decide) ?_
            refine lv_istore_n (lv' := [(2, .int (1 : Int32)), (0, .ref a_h), (1, .int p0), (3, .int x3)]) hx hb dX8_removeWeight_64 rfl hl (by decide) rfl (fun ls hl => ?_)
            obtain ⟨t35, et35, h⟩ := nm_x h
            refine lv_iinc (v := t35) (lv' := [(3, .int t35), (2, .int (1 : Int32)), (0, .ref a_h), (1, .int p0)]) hx hb dX8_removeWeight_65 hl (k := 3) rfl (by rw [et35]; rfl) (by decide) rfl (fun ls hl => ?_)
            refine lv_goto (tgt := 31) hx hb dX8_removeWeight_68 (by decide) ?_
            exact ih (1 : Int32) t35 m_states m_d_A m_was_A m_accounts_A _ _ _ h hP hD hS (lv_sub hl [2, 3, 1, 0] rfl)
  refine lv_aload_n hx hb dX8_removeWeight_0 rfl (lv_at hl 0 rfl) ?_
  refine lv_iload_n hx hb dX8_removeWeight_1 rfl (lv_at hl 1 rfl) ?_
  obtain ⟨u1, hu1, h⟩ := bd_e h
  refine kx_i (mc := 0) (ms := 0) (wr := [(a_h_was, .inl (cI, 10430, .inl v_was_A)), (a_h_accounts, .inl (cJ, 5, .inr (.inl v_accounts_A)))]) (ws2 := [(a_h, .inr (8, [.ref a_h_d, .long v_account, .ref a_h_was, .ref a_h_accounts, .int v_states, .int v_refused, .ref a_h_text, .int v_typed, .int v_at, .int v_sign, .int v_number, .ref a_h_aside, .ref a_h_places, .ref a_h_told])), (a_h_d, .inl (cI, 2086, .inl v_d_A)), (a_h_was, .inl (cI, 10430, .inl v_was_A)), (a_h_accounts, .inl (cJ, 5, .inr (.inl v_accounts_A)))]) (va_runV (As := [.int p0]) (rest := []) ⟨hx, hb, hml, hown, hts⟩ (k_X8_isWeight l D cI cC cJ cB a_h a_h_d a_h_was a_h_accounts a_h_text a_h_aside a_h_places a_h_told v_account v_states v_refused v_typed v_at v_sign v_number v_d_A N p0 s.heap.size _ hu1) (cwV 1 hts gX8_removeWeight_X8_isWeight rfl rfl rfl (by decide +kernel) ⟨Nat.le_of_ble_eq_true rfl, Nat.le_of_ble_eq_true rfl⟩) (pv_V hP hD hK hN [0, 1] rfl rfl (ci := 8) rfl 0 rfl) rfl rfl hl.1 rfl (lv_room (Nat.le_of_ble_eq_true rfl)) dX8_removeWeight_2 ⟨Nat.zero_le _, Nat.zero_le _⟩) hP hD hS hA [0, 1] [2, 3] [2, 3, 0, 1] rfl rfl rfl rfl rfl rfl (fun H locs hP hD hS => ?_)
  refine lv_if_ne (tgt := 11) hx hb dX8_removeWeight_5 (by decide) (fun hc2 => ?_) (fun hc2 => ?_)
  · replace h := it_e hc2 h
    refine lv_aload_n hx hb dX8_removeWeight_11 rfl (lv_at hl 0 rfl) ?_
    refine va_get (D := D) (ci := 8) (v := .ref a_h_d) (C := RX8) (T := TX8) (N := 14) hx hb hts in_X8_removeWeight_X8 hown hK hP 0 rfl rfl 0 (by decide) (hts _ q_X8_removeWeight_2) (fun _ h9 => h9) rfl dX8_removeWeight_12 ?_
    refine lv_bipush (v := (74 : Int32)) hx hb dX8_removeWeight_15 (by decide) ?_
    refine lv_iload_n hx hb dX8_removeWeight_17 rfl (lv_at hl 1 rfl) ?_
    refine lv_iadd hx hb dX8_removeWeight_18 ?_
    obtain ⟨hi3, h⟩ := gA_e h
    refine wx_iald hx hb hK hP 1 0 rfl rfl (Int32.toNatClampNeg ((74 : Int32) + p0)) rfl hi3 dX8_removeWeight_19 ?_
    refine lv_if_ne (tgt := 27) hx hb dX8_removeWeight_20 (by decide) (fun hc4 => ?_) (fun hc4 => ?_)
    · replace h := it_e hc4 h
      refine lv_iconst (v := (0 : Int32)) hx hb dX8_removeWeight_27 (by decide) ?_
      refine lv_istore_n (lv' := [(2, .int (0 : Int32)), (0, .ref a_h), (1, .int p0)]) hx hb dX8_removeWeight_28 rfl hl (by decide) rfl (fun ls hl => ?_)
      refine lv_iconst (v := (0 : Int32)) hx hb dX8_removeWeight_29 (by decide) ?_
      refine lv_istore_n (lv' := [(3, .int (0 : Int32)), (2, .int (0 : Int32)), (0, .ref a_h), (1, .int p0)]) hx hb dX8_removeWeight_30 rfl hl (by decide) rfl (fun ls hl => ?_)
      exact B31 N (0 : Int32) (0 : Int32) v_states v_d_A v_was_A v_accounts_A _ _ _ h hP hD hS (lv_sub hl [2, 3, 1, 0] rfl)
    · replace h := in_e hc4 h
      refine lv_iconst (v := (1 : Int32)) hx hb dX8_removeWeight_23 (by decide) ?_
      refine lv_goto (tgt := 28) hx hb dX8_removeWeight_24 (by decide) ?_
      refine lv_istore_n (lv' := [(2, .int (1 : Int32)), (0, .ref a_h), (1, .int p0)]) hx hb dX8_removeWeight_28 rfl hl (by decide) rfl (fun ls hl => ?_)
      refine lv_iconst (v := (0 : Int32)) hx hb dX8_removeWeight_29 (by decide) ?_
      refine lv_istore_n (lv' := [(3, .int (0 : Int32)), (2, .int (1 : Int32)), (0, .ref a_h), (1, .int p0)]) hx hb dX8_removeWeight_30 rfl hl (by decide) rfl (fun ls hl => ?_)
      exact B31 N (1 : Int32) (0 : Int32) v_states v_d_A v_was_A v_accounts_A _ _ _ h hP hD hS (lv_sub hl [2, 3, 1, 0] rfl)
  · replace h := in_e hc2 h
    refine lv_ldc (v := (-2000000001 : Int32)) hx hb hown (hts _ q_X8_removeWeight_1) dX8_removeWeight_8 ?_
    obtain rfl := sm_e h
    exact rx_i hx hb hr  hP hK hD hS dX8_removeWeight_10 hlocks
