/-! the law's methods: what its calls stand on -/
section CALLH
variable {p : Program} {l : Launch} {e : Env} {R : Room} {s : State} {m : MethodId} {args : Array Value} {below : List Frame} {meth : Method} {c : Code} {H H0 : Heap} {locs : List Loc} {cells slots mc ms : Nat} {Q : State → Prop} {D : va_G} {tys : List (ClassId × FieldType)} {A : Nat → Prop} {ws wc wr : va_W} {pc : Nat} {ls : Array Slot} {rest st0 : List Value} {a : Array Value}
theorem kx_hi {v : Int32} {wsL wL2 : (Nat → Nat → Nat) × (Nat → Option Nat) → va_W} (hr : va_Run p l e R s m args below meth c H locs cells slots mc ms (F0 m pc ls st0) rest (QH D tys (va_A wc H.size) wsL v a) (va_A wc H.size)) (hP : va_P D vwCl ws H) (hD : va_D A ws) (hS : va_S A H0 H locs) (hA : ∀ q, H0.size ≤ q → A q) (isC isR pm : List Nat) (hC : isC.map (fun i => ws[i]?) = wc.map some) (hR : isR.map (fun i => ws[i]?) = wr.map some) (hn : va_nd isR = true) (hdis : (isR.all fun i => !isC.contains i) = true) (hpm : ∀ x, pm.map (fun i => (wr ++ wsL x)[i]?) = (wL2 x).map some) (hnp : va_nd pm = true)
    (kk : ∀ (x : (Nat → Nat → Nat) × (Nat → Option Nat)) (H1 : Heap) (locs1 : List Loc), (∀ j : Nat, j < 5 → x.2 j = some (x.1 j 0)) → va_P D vwCl (wL2 x) H1 → va_D A (wL2 x) → va_S A H0 H1 locs1 → W p l e R s m args below meth c H1 locs1 (cells + mc) (slots + ms) Q (F0 m (pc + 3) ls (.int v :: rest))) : W p l e R s m args below meth c H locs cells slots Q (F0 m pc ls st0) := by
  refine va_calli hr hS (fun q _ h => va_free hD hS hA isC hC q h) (va_free hD hS hA isC hC) (fun r x t H1 locs1 ht hvm hw hB hz1 hk1 hS1 => ?_)
  obtain ⟨hP2, hD2⟩ := kx_join hP hD hS hA isC isR pm hC hR hn hdis (hpm x) hnp ht hB hk1
  obtain ⟨e, hg⟩ := hw
  subst e
  exact kk x H1 locs1 hg hP2 hD2 hS1
theorem rx_hz {cc : ByteArray} {v : Int32} {ty : FieldType} {wsx : (Nat → Nat → Nat) × (Nat → Option Nat) → va_W} (x : (Nat → Nat → Nat) × (Nat → Option Nat)) (hx : p.tables.exec = Jvm.exec) (hb : c.code = cc) (hr : meth.sig.returnType = some ty) (hn : narrow ty (.int v) = .int v) (hP : va_P D vwCl (wsx x) H) (hK : va_K D vwCl tys s) (hD : va_D A (wsx x)) (hS : va_S A s.heap H locs) (hg : ∀ j : Nat, j < 5 → x.2 j = some (x.1 j 0)) (hdg : decode cc pc = .ok (.ireturn, 1)) (hlocks : meth.locks = false) : W p l e R s m args below meth c H locs cells slots (MQ below (QH D tys A wsx v) args s cells slots A) (F0 m pc ls [.int v]) :=
  W.zret hx hb hr hn (fun t ht hW => ⟨⟨v, x, rfl, ⟨rfl, hg⟩, by rw [ht]; exact hP, va_K.moved hW.alike hK, hD⟩, hS.F ht⟩) hS.2.2 hdg hlocks
/-- the script is where it was: for a method that reads it -/
def PreX (D : va_G) (tys : List (ClassId × FieldType)) (sz b L : Nat) (xs : Nat → Int32) (U : State) : Prop := PreW D tys sz [] U ∧ b < U.heap.size ∧ va_X b L xs U U.heap
theorem pv_X (hP : va_P D vwCl ws H) (hD : va_D A ws) (hK : va_K D vwCl tys s) (hN : NN s) {b L : Nat} {xs : Nat → Int32} (hX : va_X b L xs s H0) (hbl : b < H0.size) (hbA : ¬ A b) (hS : va_S A H0 H locs) {As : List Value} : PreS s H (va_Pc As (PreX D tys H.size b L xs)) As := by
  refine ⟨?_, fun U hU hW => ⟨rfl, ((pv_S (wc := []) hP hD hK hN (As := As) [] rfl rfl).2 U hU hW).2, ?_, ?_⟩⟩
  · intro a U g mk q
    obtain ⟨q0, ⟨q1, qP, qK, qD, qN⟩, q2, q3⟩ := q
    exact ⟨q0, ⟨q1, qP, va_K.moved (u := U) (U := U.calling g mk a) (Vm.Alike.refl U.vm) qK, qD, NN.same (u := U) rfl qN⟩, q2, va_X.moved (u := U) (U := U.calling g mk a) (Vm.Alike.refl U.vm) q3⟩
  · rw [hU]; exact Nat.lt_of_lt_of_le hbl hS.1
  · rw [hU]; exact (hX.kept (hS.2.1 b hbl hbA)).moved hW.alike
end CALLH
def cellV (L : Nat) (xs : Nat → Int32) (k : Int32) : Int32 := (if k < Int32.ofNat L then xs k.toNatClampNeg else 15485959 * k + 109) &&& 2147483647
theorem q_L_cell_1 : (.constant RL 7 (15485959) : Cond) ∈ wsL_cell := List.mem_of_getElem? (i := 1) (by decide +kernel)
theorem q_L_cell_2 : (.constant RL 8 (2147483647) : Cond) ∈ wsL_cell := List.mem_of_getElem? (i := 2) (by decide +kernel)
set_option maxHeartbeats 8000000 in
set_option maxRecDepth 100000 in
theorem k_L_cell (l : Launch) (D : va_G) (cI cC cJ cB : ClassId) (b L : Nat) (xs : Nat → Int32) (k : Int32) (sz : Nat) (hk : ¬ k < 0) (hL : L < 2147483648) :
    Met l yL_cell wsL_cell ({ frames := 0, cells := 0, slots := 0, locals := 0 } : Room) (va_Pc [.ref b, .int k] (PreX D (ty4 cI cC cJ cB) sz b L xs)) (QI D (ty4 cI cC cJ cB) (va_A [] sz) [] (cellV L xs k)) 0 0 (va_A [] sz) := by
  refine Met.ofW (cc := cL_cell) (maxL := 2) (ret := some .int) (by decide) rfl ?_
  intro p e s m args below meth c s₁ B hml hv
  obtain ⟨rfl, ⟨hsz, hP, hK, hD0, hN⟩, hbl, hX⟩ := hv
  have hts := atoms_spec (ws := wsL_cell) B.pre
  have hown : s.vm.findClass yL_cell.cls = some m.cls := findClass_of_methodNamed B.named
  subst hsz
  rw [lg_entry_eq]
  have hx := B.exec
  have hb := B.bytes
  have hr := B.returns
  have hlocks := B.notSynchronized
  have hD : va_D (va_A [] s.heap.size) ([] : va_W) := hD0.self
  have hS : va_S (fun _ => False) s.heap s.heap [] := va_S.rf
  have hl := lv_entry ([.ref b, .int k]) (n := 2) (Nat.le_of_ble_eq_true rfl)
  generalize (lg_sl ([.ref b, .int k]) ++ List.replicate (2 - (lg_sl ([.ref b, .int k])).length) Slot.unset).toArray = ls at hl ⊢
  have hl : lv_has ls 2 [(0, .ref b), (1, .int k)] := hl
  refine lv_iload_n hx hb dL_cell_0 rfl (lv_at hl 1 rfl) ?_
  refine lv_aload_n hx hb dL_cell_1 rfl (lv_at hl 0 rfl) ?_
  refine va_slen hx hb hX hbl (fun h => h) hS dL_cell_2 ?_
  refine lv_icmp_ge (tgt := 12) hx hb dL_cell_3 (by decide) (fun hc => ?_) (fun hc => ?_)
  · refine lv_ldc (v := (15485959 : Int32)) hx hb hown (hts _ q_L_cell_1) dL_cell_12 ?_
    refine lv_iload_n hx hb dL_cell_14 rfl (lv_at hl 1 rfl) ?_
    refine lv_imul hx hb dL_cell_15 ?_
    refine lv_bipush (v := (109 : Int32)) hx hb dL_cell_16 (by decide) ?_
    refine lv_iadd hx hb dL_cell_18 ?_
    refine lv_ldc (v := (2147483647 : Int32)) hx hb hown (hts _ q_L_cell_2) dL_cell_19 ?_
    refine lv_iand hx hb dL_cell_21 ?_
    exact W.iret hx hb hr (fun t ht hW => ⟨⟨_, (), rfl, by unfold cellV; rw [if_neg (fun e => by rw [Int32.lt_iff_toInt_lt] at e; rw [Int32.le_iff_toInt_le] at hc; omega)], by rw [ht]; exact hP, va_K.moved hW.alike hK, hD⟩, (va_S.rf (A := va_A [] s.heap.size)).F ht⟩) (va_S.rf (A := va_A [] s.heap.size) (H0 := s.heap)).2.2 dL_cell_22 hlocks
  · have hlt : k < Int32.ofNat L := by rw [Int32.lt_iff_toInt_lt]; rw [Int32.le_iff_toInt_le] at hc; omega
    have hin : vp_in k L := by
      rintro (h | h)
      · exact hk h
      · have e1 : (Int32.ofNat L).toInt = (L : Int) := nI_toInt (by omega)
        have e2 : k.toNatClampNeg = k.toInt.toNat := rfl
        rw [Int32.lt_iff_toInt_lt, e1] at hlt
        rw [Int32.lt_iff_toInt_lt, show (0 : Int32).toInt = 0 from by decide] at hk
        rw [e2] at h
        omega
    refine lv_aload_n hx hb dL_cell_6 rfl (lv_at hl 0 rfl) ?_
    refine lv_iload_n hx hb dL_cell_7 rfl (lv_at hl 1 rfl) ?_
    refine va_sld hx hb hX hbl (fun h => h) hS hin dL_cell_8 ?_
    refine lv_goto (tgt := 19) hx hb dL_cell_9 (by decide) ?_
    refine lv_ldc (v := (2147483647 : Int32)) hx hb hown (hts _ q_L_cell_2) dL_cell_19 ?_
    refine lv_iand hx hb dL_cell_21 ?_
    exact W.iret hx hb hr (fun t ht hW => ⟨⟨_, (), rfl, by unfold cellV; rw [if_pos hlt], by rw [ht]; exact hP, va_K.moved hW.alike hK, hD⟩, (va_S.rf (A := va_A [] s.heap.size)).F ht⟩) (va_S.rf (A := va_A [] s.heap.size) (H0 := s.heap)).2.2 dL_cell_22 hlocks
