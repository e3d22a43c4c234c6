/-! base: guards, names, nest links, worlds before and behind a call -/
def gA {β : Type} (i : Int32) (n : Nat) (k : Option β) : Option β := if i < 0 ∨ n ≤ i.toNatClampNeg then none else k
theorem gA_e {β : Type} {i : Int32} {n : Nat} {k : Option β} {r : β} (h : gA i n k = some r) : vp_in i n ∧ k = some r := by
  unfold gA at h
  by_cases c : i < 0 ∨ n ≤ i.toNatClampNeg
  · rw [if_pos c] at h; cases h
  · rw [if_neg c] at h; exact ⟨c, h⟩
def gZ {β : Type} (y : Int32) (k : Option β) : Option β := if y = 0 then none else k
theorem gZ_e {β : Type} {y : Int32} {k : Option β} {r : β} (h : gZ y k = some r) : ¬ y = 0 ∧ k = some r := by
  unfold gZ at h
  by_cases c : y = 0
  · rw [if_pos c] at h; cases h
  · rw [if_neg c] at h; exact ⟨c, h⟩
def gL {β : Type} (y : Int64) (k : Option β) : Option β := if y = 0 then none else k
theorem gL_e {β : Type} {y : Int64} {k : Option β} {r : β} (h : gL y k = some r) : ¬ y = 0 ∧ k = some r := by
  unfold gL at h
  by_cases c : y = 0
  · rw [if_pos c] at h; cases h
  · rw [if_neg c] at h; exact ⟨c, h⟩
def gT {β : Type} (c : Prop) [Decidable c] (k : Option β) : Option β := if c then k else none
theorem gT_e {β : Type} {c : Prop} [Decidable c] {k : Option β} {r : β} (h : gT c k = some r) : c ∧ k = some r := by
  unfold gT at h
  by_cases hc : c
  · rw [if_pos hc] at h; exact ⟨hc, h⟩
  · rw [if_neg hc] at h; cases h
def nm {α β : Type} (e : α) (k : α → β) : β := k e
theorem nm_at {α β : Type} {e v : α} {k : α → β} {r : β} (h : nm e k = r) (ev : v = e) : k v = r := by subst ev; exact h
theorem nm_x {α β : Type} {e : α} {k : α → β} {r : β} (h : nm e k = r) : ∃ v : α, v = e ∧ k v = r := ⟨e, rfl, h⟩
theorem bd_e {α β : Type} {x : Option α} {f : α → Option β} {r : β} (h : Option.bind x f = some r) : ∃ a : α, x = some a ∧ f a = some r := by
  cases x with
  | none => cases h
  | some a => exact ⟨a, rfl, h⟩
theorem it_e {α : Type} {c : Prop} [Decidable c] {x y z : α} (hc : c) (h : (if c then x else y) = z) : x = z := by rw [if_pos hc] at h; exact h
theorem if_e {α : Type} {c : Prop} [Decidable c] {x y z : α} (hc : ¬ c) (h : (if c then x else y) = z) : y = z := by rw [if_neg hc] at h; exact h
theorem in_e {α : Type} {c : Prop} [Decidable c] {x y z : α} (hc : c) (h : (if ¬ c then x else y) = z) : y = z := by rw [if_neg (fun e => e hc)] at h; exact h
theorem sm_e {α : Type} {x y : α} (h : some x = some y) : x = y := Option.some.inj h
def nxF : List (String × Nat × String × String × String × String) := [("SpringBalance$Spring", 70, "SpringBalance$Pairs", "size", "I", "SpringBalance"), ("SpringBalance", 93, "SpringBalance$Pairs", "size", "I", "SpringBalance"), ("SpringBalance$Bench", 67, "SpringBalance$Spring", "load", "I", "SpringBalance"), ("SpringBalance", 106, "SpringBalance$Spring", "load", "I", "SpringBalance"), ("SpringBalance", 109, "SpringBalance$Spring", "extension", "I", "SpringBalance"), ("SpringBalance", 82, "SpringBalance$Spring", "creep", "I", "SpringBalance"), ("SpringBalance$Bench", 48, "SpringBalance$Spring", "pointer", "I", "SpringBalance"), ("SpringBalance", 112, "SpringBalance$Spring", "pointer", "I", "SpringBalance"), ("SpringBalance", 115, "SpringBalance$Spring", "way", "I", "SpringBalance"), ("SpringBalance", 150, "SpringBalance$Spring", "account", "J", "SpringBalance"), ("SpringBalance", 137, "SpringBalance$Spring", "deadZone", "I", "SpringBalance"), ("SpringBalance", 140, "SpringBalance$Spring", "rate", "I", "SpringBalance"), ("SpringBalance", 143, "SpringBalance$Spring", "step", "I", "SpringBalance"), ("SpringBalance", 89, "SpringBalance$Spring", "turns", "LSpringBalance$Pairs;", "SpringBalance"), ("SpringBalance", 131, "SpringBalance$Spring", "curve", "LSpringBalance$Pairs;", "SpringBalance"), ("SpringBalance", 122, "SpringBalance$Weights", "size", "I", "SpringBalance"), ("SpringBalance", 53, "SpringBalance$Bench", "spring", "LSpringBalance$Spring;", "SpringBalance"), ("SpringBalance", 134, "SpringBalance$Bench", "scale", "LSpringBalance$Pairs;", "SpringBalance"), ("SpringBalance", 118, "SpringBalance$Bench", "weights", "LSpringBalance$Weights;", "SpringBalance"), ("SpringBalance", 101, "SpringBalance$History", "size", "I", "SpringBalance"), ("SpringBalance", 128, "SpringBalance$Text", "length", "I", "SpringBalance")]
def nxM : List (String × Nat × MethodName × String) := [("SpringBalance", 11, ⟨"SpringBalance$Bench", "<init>", "()V"⟩, "SpringBalance"), ("SpringBalance$Bench", 11, ⟨"SpringBalance$Spring", "<init>", "(I)V"⟩, "SpringBalance"), ("SpringBalance$Spring", 23, ⟨"SpringBalance$Pairs", "<init>", "(I)V"⟩, "SpringBalance"), ("SpringBalance$Spring", 33, ⟨"SpringBalance$Pairs", "append", "(II)V"⟩, "SpringBalance"), ("SpringBalance$Bench", 22, ⟨"SpringBalance$Pairs", "<init>", "(I)V"⟩, "SpringBalance"), ("SpringBalance$Bench", 27, ⟨"SpringBalance$Pairs", "append", "(II)V"⟩, "SpringBalance"), ("SpringBalance$Bench", 33, ⟨"SpringBalance$Weights", "<init>", "()V"⟩, "SpringBalance"), ("SpringBalance", 18, ⟨"SpringBalance$History", "<init>", "()V"⟩, "SpringBalance"), ("SpringBalance$History", 17, ⟨"SpringBalance$Bench", "<init>", "()V"⟩, "SpringBalance"), ("SpringBalance", 25, ⟨"SpringBalance$Text", "<init>", "()V"⟩, "SpringBalance"), ("SpringBalance", 32, ⟨"SpringBalance$Trial", "<init>", "()V"⟩, "SpringBalance"), ("SpringBalance$Trial", 11, ⟨"SpringBalance$Spring", "<init>", "(I)V"⟩, "SpringBalance"), ("SpringBalance$Trial", 22, ⟨"SpringBalance$Pairs", "<init>", "(I)V"⟩, "SpringBalance"), ("SpringBalance", 42, ⟨"SpringBalance$Bench", "refusalOfLoad", "(I)I"⟩, "SpringBalance"), ("SpringBalance$Bench", 56, ⟨"SpringBalance$Weights", "massOnPan", "()I"⟩, "SpringBalance"), ("SpringBalance", 49, ⟨"SpringBalance$History", "record", "(LSpringBalance$Bench;)V"⟩, "SpringBalance"), ("SpringBalance$History", 33, ⟨"SpringBalance$Bench", "copyFrom", "(LSpringBalance$Bench;)V"⟩, "SpringBalance"), ("SpringBalance$Bench", 38, ⟨"SpringBalance$Spring", "copyFrom", "(LSpringBalance$Spring;)V"⟩, "SpringBalance"), ("SpringBalance$Spring", 56, ⟨"SpringBalance$Pairs", "copyFrom", "(LSpringBalance$Pairs;)V"⟩, "SpringBalance"), ("SpringBalance$Bench", 42, ⟨"SpringBalance$Pairs", "copyFrom", "(LSpringBalance$Pairs;)V"⟩, "SpringBalance"), ("SpringBalance$Bench", 45, ⟨"SpringBalance$Weights", "copyFrom", "(LSpringBalance$Weights;)V"⟩, "SpringBalance"), ("SpringBalance", 57, ⟨"SpringBalance$Spring", "changeLoad", "(I)V"⟩, "SpringBalance"), ("SpringBalance$Spring", 86, ⟨"SpringBalance$Pairs", "first", "(I)I"⟩, "SpringBalance"), ("SpringBalance$Spring", 63, ⟨"SpringBalance$Pairs", "shrinkTo", "(I)V"⟩, "SpringBalance"), ("SpringBalance$Spring", 93, ⟨"SpringBalance$Pairs", "valueAt", "(II)I"⟩, "SpringBalance"), ("SpringBalance$Spring", 97, ⟨"SpringBalance$Pairs", "second", "(I)I"⟩, "SpringBalance"), ("SpringBalance", 63, ⟨"SpringBalance$Bench", "reading", "()I"⟩, "SpringBalance"), ("SpringBalance$Bench", 52, ⟨"SpringBalance$Pairs", "valueAt", "(II)I"⟩, "SpringBalance"), ("SpringBalance", 79, ⟨"SpringBalance$Spring", "passHours", "(I)V"⟩, "SpringBalance"), ("SpringBalance", 86, ⟨"SpringBalance$Bench", "refusalOfZero", "()I"⟩, "SpringBalance"), ("SpringBalance", 98, ⟨"SpringBalance$Spring", "rest", "()V"⟩, "SpringBalance"), ("SpringBalance", 103, ⟨"SpringBalance$History", "restore", "(LSpringBalance$Bench;)V"⟩, "SpringBalance"), ("SpringBalance", 125, ⟨"SpringBalance$Weights", "numberOnPan", "()I"⟩, "SpringBalance"), ("SpringBalance", 157, ⟨"SpringBalance$Spring", "isUnturnedAtZero", "()Z"⟩, "SpringBalance"), ("SpringBalance", 161, ⟨"SpringBalance$Pairs", "staysRising", "(II)Z"⟩, "SpringBalance"), ("SpringBalance", 165, ⟨"SpringBalance$Pairs", "hasRoomFor", "(I)Z"⟩, "SpringBalance"), ("SpringBalance", 170, ⟨"SpringBalance$Pairs", "lay", "(II)V"⟩, "SpringBalance"), ("SpringBalance", 187, ⟨"SpringBalance$Pairs", "valueAt", "(II)I"⟩, "SpringBalance"), ("SpringBalance", 201, ⟨"SpringBalance$Spring", "exchangeSetting", "(II)I"⟩, "SpringBalance"), ("SpringBalance", 154, ⟨"SpringBalance$Spring", "extensionFromTurns", "()I"⟩, "SpringBalance"), ("SpringBalance", 146, ⟨"SpringBalance$Pairs", "found", "(II)I"⟩, "SpringBalance")]
def nxW : List Cond := nxF.map (fun q => .fieldLinkNest q.1 q.2.1 q.2.2.1 q.2.2.2.1 q.2.2.2.2.1 q.2.2.2.2.2) ++ nxM.map (fun q => .methodLinkNest q.1 q.2.1 q.2.2.1 q.2.2.2)
def NN (U : State) : Prop := (∀ w ∈ nxW, va_Nw w U) ∧ va_AO "SpringBalance$Bench" U
theorem nx_tab : ∀ w ∈ nxW, w.onTables = true := by decide +kernel
theorem nx_in : ∀ w ∈ nxW, w ∈ lw_tbl := by decide +kernel
theorem nx_over : (Cond.arrayOver (.object "SpringBalance$Bench")) ∈ lw_tbl := by decide +kernel
theorem NN.of {args : Array Value} {s : State} (hts : ∀ w ∈ lw_tbl, w.before args s = true) : NN s := ⟨fun w hw => va_Nw.of (nx_tab w hw) (hts w (nx_in w hw)), va_AO.of (hts _ nx_over)⟩
theorem NN.same {u U : State} (h : u.vm = U.vm) (hz : NN u) : NN U := ⟨fun w hw => va_Nw.same (nx_tab w hw) h (hz.1 w hw), va_AO.moved (by rw [h]; exact Vm.Alike.refl _) hz.2⟩
theorem NN.warm {s U : State} (hW : s.WarmedH U.vm) (hz : NN s) : NN U := by
  refine ⟨fun w hw => ?_, va_AO.moved hW.alike hz.2⟩
  have h0 := hz.1 w hw
  rcases List.mem_append.mp hw with h | h
  · obtain ⟨q, -, rfl⟩ := List.mem_map.mp h
    exact va_Nw.warmF hW h0
  · obtain ⟨q, -, rfl⟩ := List.mem_map.mp h
    exact va_Nw.warmM hW h0
theorem NN.f {s : State} {args : Array Value} {a : String} {i : Nat} {b n d h : String} (hN : NN s) (k : Nat) (hk : nxF[k]? = some (a, i, b, n, d, h)) : (Cond.fieldLinkNest a i b n d h).before args s = true :=
  va_Nw.use rfl (hN.1 _ (List.mem_append_left _ (List.mem_map.mpr ⟨_, List.mem_of_getElem? hk, rfl⟩)))
theorem NN.m {s : State} {a : String} {i : Nat} {y : MethodName} {h : String} (hN : NN s) (k : Nat) (hk : nxM[k]? = some (a, i, y, h)) : va_Nw (.methodLinkNest a i y h) s :=
  hN.1 _ (List.mem_append_right _ (List.mem_map.mpr ⟨_, List.mem_of_getElem? hk, rfl⟩))
abbrev ty4 (cI cC cJ cB : ClassId) : List (ClassId × FieldType) := [(cI, .int), (cC, .char), (cJ, .int), (cB, .object "SpringBalance$Bench")]
def PreW (D : va_G) (tys : List (ClassId × FieldType)) (sz : Nat) (ws : va_W) (U : State) : Prop := U.heap.size = sz ∧ va_P D vwCl ws U.heap ∧ va_K D vwCl tys U ∧ va_D (fun _ => True) ws ∧ NN U
def PostW (D : va_G) (tys : List (ClassId × FieldType)) (A : Nat → Prop) (ws : va_W) (t : State) : Prop := va_P D vwCl ws t.heap ∧ va_K D vwCl tys t ∧ va_D A ws
abbrev QI (D : va_G) (tys : List (ClassId × FieldType)) (A : Nat → Prop) (ws : va_W) (v : Int32) := va_Qi (fun (r : Int32) (_ : Unit) => r = v) (fun _ t => PostW D tys A ws t) A
abbrev QL (D : va_G) (tys : List (ClassId × FieldType)) (A : Nat → Prop) (ws : va_W) (v : Int64) := va_Ql (fun (r : Int64) (_ : Unit) => r = v) (fun _ t => PostW D tys A ws t) A
abbrev QF (D : va_G) (tys : List (ClassId × FieldType)) (A : Nat → Prop) (ws : va_W) (v : UInt32) := va_Qf (fun (r : UInt32) (_ : Unit) => r = v) (fun _ t => PostW D tys A ws t) A
abbrev QC (D : va_G) (tys : List (ClassId × FieldType)) (A : Nat → Prop) (ws : List Nat → va_W) := va_Qv (fun (_ : List Nat) => True) (fun L t => PostW D tys A (ws L) t) A
abbrev QV (D : va_G) (tys : List (ClassId × FieldType)) (A : Nat → Prop) (ws : va_W) := va_Qv (fun (_ : Unit) => True) (fun _ t => PostW D tys A ws t) A
theorem fm_map {α : Type} {ws : List α} {wc : List α} : ∀ (is : List Nat) (wc : List α), is.map (fun i => ws[i]?) = wc.map some → is.filterMap (fun i => ws[i]?) = wc := by
  intro is
  induction is with
  | nil => intro wc h; cases wc with
    | nil => rfl
    | cons a l => cases h
  | cons i is ih => intro wc h; cases wc with
    | nil => cases h
    | cons a l =>
      rw [List.map_cons, List.map_cons] at h
      injection h with h1 h2
      rw [List.filterMap_cons, h1]
      exact congrArg (a :: ·) (ih l h2)
theorem pv_fb {av : List Value} {D : va_G} {tys : List (ClassId × FieldType)} {sz : Nat} {ws : va_W} : FrameBlind (va_Pc av (PreW D tys sz ws)) := by
  intro a U g mk q
  obtain ⟨q0, q1, qP, qK, qD, qN⟩ := q
  exact ⟨q0, q1, qP, va_K.moved (u := U) (U := U.calling g mk a) (Vm.Alike.refl U.vm) qK, qD, NN.same (u := U) rfl qN⟩
section CALLS
variable {p : Program} {l : Launch} {e : Env} {R : Room} {s : State} {m : MethodId} {args : Array Value} {below : List Frame} {meth : Method} {c : Code} {H H0 : Heap} {locs : List Loc} {cells slots mc ms : Nat} {Q : State → Prop} {D : va_G} {tys : List (ClassId × FieldType)} {A : Nat → Prop} {ws wc wr w1 ws2 : va_W} {pc : Nat} {ls : Array Slot} {rest st0 : List Value} {a : Array Value}
theorem pv_S (hP : va_P D vwCl ws H) (hD : va_D A ws) (hK : va_K D vwCl tys s) (hN : NN s) {As : List Value} (isC : List Nat) (hC : isC.map (fun i => ws[i]?) = wc.map some) (hn : va_nd isC = true) : PreS s H (va_Pc As (PreW D tys H.size wc)) As :=
  ⟨pv_fb, fun U hU hW => ⟨rfl, by rw [hU], by rw [hU]; exact hP.sub isC (fm_map (wc := wc) isC wc hC), va_K.moved hW.alike hK, (hD.sub isC hn hC).weaken (fun _ _ _ _ => trivial), hN.warm hW⟩⟩
theorem pv_V (hP : va_P D vwCl ws H) (hD : va_D A ws) (hK : va_K D vwCl tys s) (hN : NN s) {b : Nat} {As : List Value} (isC : List Nat) (hC : isC.map (fun i => ws[i]?) = wc.map some) (hn : va_nd isC = true) {C : String} {T : u_T} {N ci : Nat} {fs : List Value} (hc : vwCl[ci]? = some (C, T, N)) (q0 : Nat) (he : ws[q0]? = some (b, .inr (ci, fs))) : PreV s H C b (va_Pc (.ref b :: As) (PreW D tys H.size wc)) As :=
  ⟨pv_fb, va_recv hK hP hc he, (pv_S hP hD hK hN (As := .ref b :: As) isC hC hn).2⟩
theorem kx_join {H1 : Heap} {t : State} (hP : va_P D vwCl ws H) (hD : va_D A ws) (hS : va_S A H0 H locs) (hA : ∀ q, H0.size ≤ q → A q) (isC isR pm : List Nat) (hC : isC.map (fun i => ws[i]?) = wc.map some) (hR : isR.map (fun i => ws[i]?) = wr.map some) (hn : va_nd isR = true) (hdis : (isR.all fun i => !isC.contains i) = true) (hpm : pm.map (fun i => (wr ++ w1)[i]?) = ws2.map some) (hnp : va_nd pm = true)
    (ht : t.heap = H1) (hB : PostW D tys (va_A wc H.size) w1 t) (hk1 : ∀ q : Nat, q < H.size → ¬ va_A wc H.size q → H1[q]? = H[q]?) : va_P D vwCl ws2 H1 ∧ va_D A ws2 := by
  obtain ⟨hP1, hK1, hD1⟩ := hB
  rw [ht] at hP1
  obtain ⟨hP2, hD2⟩ := va_join (wr := wr) (w1 := w1) hP hD isC isR hC hR hn (fun i h h2 => by
    have h3 := List.all_eq_true.mp hdis i h
    simp [h2] at h3) hk1 (va_free hD hS hA isC hC) hP1 hD1
  exact ⟨hP2.sub pm (fm_map (wc := ws2) pm ws2 hpm), hD2.sub pm hnp hpm⟩
theorem kx_i {v : Int32} (hr : va_Run p l e R s m args below meth c H locs cells slots mc ms (F0 m pc ls st0) rest (QI D tys (va_A wc H.size) w1 v a) (va_A wc H.size)) (hP : va_P D vwCl ws H) (hD : va_D A ws) (hS : va_S A H0 H locs) (hA : ∀ q, H0.size ≤ q → A q) (isC isR pm : List Nat) (hC : isC.map (fun i => ws[i]?) = wc.map some) (hR : isR.map (fun i => ws[i]?) = wr.map some) (hn : va_nd isR = true) (hdis : (isR.all fun i => !isC.contains i) = true) (hpm : pm.map (fun i => (wr ++ w1)[i]?) = ws2.map some) (hnp : va_nd pm = true)
    (kk : ∀ (H1 : Heap) (locs1 : List Loc), va_P D vwCl ws2 H1 → va_D A ws2 → va_S A H0 H1 locs1 → W p l e R s m args below meth c H1 locs1 (cells + mc) (slots + ms) Q (F0 m (pc + 3) ls (.int v :: rest))) : W p l e R s m args below meth c H locs cells slots Q (F0 m pc ls st0) := by
  refine va_calli hr hS (fun q _ h => va_free hD hS hA isC hC q h) (va_free hD hS hA isC hC) (fun r u t H1 locs1 ht hvm hw hB hz1 hk1 hS1 => ?_)
  obtain ⟨hP2, hD2⟩ := kx_join hP hD hS hA isC isR pm hC hR hn hdis hpm hnp ht hB hk1
  subst hw
  exact kk H1 locs1 hP2 hD2 hS1
theorem kx_l {v : Int64} (hr : va_Run p l e R s m args below meth c H locs cells slots mc ms (F0 m pc ls st0) rest (QL D tys (va_A wc H.size) w1 v a) (va_A wc H.size)) (hP : va_P D vwCl ws H) (hD : va_D A ws) (hS : va_S A H0 H locs) (hA : ∀ q, H0.size ≤ q → A q) (isC isR pm : List Nat) (hC : isC.map (fun i => ws[i]?) = wc.map some) (hR : isR.map (fun i => ws[i]?) = wr.map some) (hn : va_nd isR = true) (hdis : (isR.all fun i => !isC.contains i) = true) (hpm : pm.map (fun i => (wr ++ w1)[i]?) = ws2.map some) (hnp : va_nd pm = true)
    (kk : ∀ (H1 : Heap) (locs1 : List Loc), va_P D vwCl ws2 H1 → va_D A ws2 → va_S A H0 H1 locs1 → W p l e R s m args below meth c H1 locs1 (cells + mc) (slots + ms) Q (F0 m (pc + 3) ls (.long v :: rest))) : W p l e R s m args below meth c H locs cells slots Q (F0 m pc ls st0) := by
  refine va_calll hr hS (fun q _ h => va_free hD hS hA isC hC q h) (va_free hD hS hA isC hC) (fun r u t H1 locs1 ht hvm hw hB hz1 hk1 hS1 => ?_)
  obtain ⟨hP2, hD2⟩ := kx_join hP hD hS hA isC isR pm hC hR hn hdis hpm hnp ht hB hk1
  subst hw
  exact kk H1 locs1 hP2 hD2 hS1
theorem kx_f {v : UInt32} (hr : va_Run p l e R s m args below meth c H locs cells slots mc ms (F0 m pc ls st0) rest (QF D tys (va_A wc H.size) w1 v a) (va_A wc H.size)) (hP : va_P D vwCl ws H) (hD : va_D A ws) (hS : va_S A H0 H locs) (hA : ∀ q, H0.size ≤ q → A q) (isC isR pm : List Nat) (hC : isC.map (fun i => ws[i]?) = wc.map some) (hR : isR.map (fun i => ws[i]?) = wr.map some) (hn : va_nd isR = true) (hdis : (isR.all fun i => !isC.contains i) = true) (hpm : pm.map (fun i => (wr ++ w1)[i]?) = ws2.map some) (hnp : va_nd pm = true)
    (kk : ∀ (H1 : Heap) (locs1 : List Loc), va_P D vwCl ws2 H1 → va_D A ws2 → va_S A H0 H1 locs1 → W p l e R s m args below meth c H1 locs1 (cells + mc) (slots + ms) Q (F0 m (pc + 3) ls (.float v :: rest))) : W p l e R s m args below meth c H locs cells slots Q (F0 m pc ls st0) := by
  refine va_callf hr hS (fun q _ h => va_free hD hS hA isC hC q h) (va_free hD hS hA isC hC) (fun r u t H1 locs1 ht hvm hw hB hz1 hk1 hS1 => ?_)
  obtain ⟨hP2, hD2⟩ := kx_join hP hD hS hA isC isR pm hC hR hn hdis hpm hnp ht hB hk1
  subst hw
  exact kk H1 locs1 hP2 hD2 hS1
theorem kx_v (hr : va_Run p l e R s m args below meth c H locs cells slots mc ms (F0 m pc ls st0) rest (QV D tys (va_A wc H.size) w1 a) (va_A wc H.size)) (hP : va_P D vwCl ws H) (hD : va_D A ws) (hS : va_S A H0 H locs) (hA : ∀ q, H0.size ≤ q → A q) (isC isR pm : List Nat) (hC : isC.map (fun i => ws[i]?) = wc.map some) (hR : isR.map (fun i => ws[i]?) = wr.map some) (hn : va_nd isR = true) (hdis : (isR.all fun i => !isC.contains i) = true) (hpm : pm.map (fun i => (wr ++ w1)[i]?) = ws2.map some) (hnp : va_nd pm = true)
    (kk : ∀ (H1 : Heap) (locs1 : List Loc), va_P D vwCl ws2 H1 → va_D A ws2 → va_S A H0 H1 locs1 → W p l e R s m args below meth c H1 locs1 (cells + mc) (slots + ms) Q (F0 m (pc + 3) ls rest)) : W p l e R s m args below meth c H locs cells slots Q (F0 m pc ls st0) := by
  refine va_callv hr hS (fun q _ h => va_free hD hS hA isC hC q h) (va_free hD hS hA isC hC) (fun u t H1 locs1 ht hvm hw hB hz1 hk1 hS1 => ?_)
  obtain ⟨hP2, hD2⟩ := kx_join hP hD hS hA isC isR pm hC hR hn hdis hpm hnp ht hB hk1
  exact kk H1 locs1 hP2 hD2 hS1
theorem rx_i {cc : ByteArray} {v : Int32} (hx : p.tables.exec = Jvm.exec) (hb : c.code = cc) (hr : meth.sig.returnType = some .int) (hP : va_P D vwCl ws H) (hK : va_K D vwCl tys s) (hD : va_D A ws) (hS : va_S A s.heap H locs) (hdg : decode cc pc = .ok (.ireturn, 1)) (hlocks : meth.locks = false) : W p l e R s m args below meth c H locs cells slots (MQ below (QI D tys A ws v) args s cells slots A) (F0 m pc ls [.int v]) :=
  W.iret hx hb hr (fun t ht hW => ⟨⟨v, (), rfl, rfl, by rw [ht]; exact hP, va_K.moved hW.alike hK, hD⟩, hS.F ht⟩) hS.2.2 hdg hlocks
theorem rx_z {cc : ByteArray} {v : Int32} {ty : FieldType} (hx : p.tables.exec = Jvm.exec) (hb : c.code = cc) (hr : meth.sig.returnType = some ty) (hn : narrow ty (.int v) = .int v) (hP : va_P D vwCl ws H) (hK : va_K D vwCl tys s) (hD : va_D A ws) (hS : va_S A s.heap H locs) (hdg : decode cc pc = .ok (.ireturn, 1)) (hlocks : meth.locks = false) : W p l e R s m args below meth c H locs cells slots (MQ below (QI D tys A ws v) args s cells slots A) (F0 m pc ls [.int v]) :=
  W.zret hx hb hr hn (fun t ht hW => ⟨⟨v, (), rfl, rfl, by rw [ht]; exact hP, va_K.moved hW.alike hK, hD⟩, hS.F ht⟩) hS.2.2 hdg hlocks
theorem rx_l {cc : ByteArray} {v : Int64} (hx : p.tables.exec = Jvm.exec) (hb : c.code = cc) (hr : meth.sig.returnType = some .long) (hP : va_P D vwCl ws H) (hK : va_K D vwCl tys s) (hD : va_D A ws) (hS : va_S A s.heap H locs) (hdg : decode cc pc = .ok (.lreturn, 1)) (hlocks : meth.locks = false) : W p l e R s m args below meth c H locs cells slots (MQ below (QL D tys A ws v) args s cells slots A) (F0 m pc ls [.long v]) :=
  W.lret hx hb hr (fun t ht hW => ⟨⟨v, (), rfl, rfl, by rw [ht]; exact hP, va_K.moved hW.alike hK, hD⟩, hS.F ht⟩) hS.2.2 hdg hlocks
theorem rx_f {cc : ByteArray} {v : UInt32} (hx : p.tables.exec = Jvm.exec) (hb : c.code = cc) (hr : meth.sig.returnType = some .float) (hP : va_P D vwCl ws H) (hK : va_K D vwCl tys s) (hD : va_D A ws) (hS : va_S A s.heap H locs) (hdg : decode cc pc = .ok (.freturn, 1)) (hlocks : meth.locks = false) : W p l e R s m args below meth c H locs cells slots (MQ below (QF D tys A ws v) args s cells slots A) (F0 m pc ls [.float v]) :=
  W.fret hx hb hr (fun t ht hW => ⟨⟨v, (), rfl, rfl, by rw [ht]; exact hP, va_K.moved hW.alike hK, hD⟩, hS.F ht⟩) hS.2.2 hdg hlocks
theorem rx_v {cc : ByteArray} (hx : p.tables.exec = Jvm.exec) (hb : c.code = cc) (hr : meth.sig.returnType = none) (hP : va_P D vwCl ws H) (hK : va_K D vwCl tys s) (hD : va_D A ws) (hS : va_S A s.heap H locs) (hdg : decode cc pc = .ok (.return_, 1)) (hlocks : meth.locks = false) : W p l e R s m args below meth c H locs cells slots (MQ below (QV D tys A ws) args s cells slots A) (F0 m pc ls []) :=
  W.vret hx hb hr (fun t ht hW => ⟨⟨(), rfl, trivial, by rw [ht]; exact hP, va_K.moved hW.alike hK, hD⟩, hS.F ht⟩) hS.2.2 hdg hlocks
theorem rx_c {cc : ByteArray} {wsL : List Nat → va_W} (L : List Nat) (hx : p.tables.exec = Jvm.exec) (hb : c.code = cc) (hr : meth.sig.returnType = none) (hP : va_P D vwCl (wsL L) H) (hK : va_K D vwCl tys s) (hD : va_D A (wsL L)) (hS : va_S A s.heap H locs) (hdg : decode cc pc = .ok (.return_, 1)) (hlocks : meth.locks = false) : W p l e R s m args below meth c H locs cells slots (MQ below (QC D tys A wsL) args s cells slots A) (F0 m pc ls []) :=
  W.vret hx hb hr (fun t ht hW => ⟨⟨L, rfl, trivial, by rw [ht]; exact hP, va_K.moved hW.alike hK, hD⟩, hS.F ht⟩) hS.2.2 hdg hlocks
theorem kx_c {wsL wL2 : List Nat → va_W} (hr : va_Run p l e R s m args below meth c H locs cells slots mc ms (F0 m pc ls st0) rest (QC D tys (va_A wc H.size) wsL a) (va_A wc H.size)) (hP : va_P D vwCl ws H) (hD : va_D A ws) (hS : va_S A H0 H locs) (hA : ∀ q, H0.size ≤ q → A q) (isC isR pm : List Nat) (hC : isC.map (fun i => ws[i]?) = wc.map some) (hR : isR.map (fun i => ws[i]?) = wr.map some) (hn : va_nd isR = true) (hdis : (isR.all fun i => !isC.contains i) = true) (hpm : ∀ L : List Nat, pm.map (fun i => (wr ++ wsL L)[i]?) = (wL2 L).map some) (hnp : va_nd pm = true)
    (kk : ∀ (L : List Nat) (H1 : Heap) (locs1 : List Loc), va_P D vwCl (wL2 L) H1 → va_D A (wL2 L) → va_S A H0 H1 locs1 → W p l e R s m args below meth c H1 locs1 (cells + mc) (slots + ms) Q (F0 m (pc + 3) ls rest)) : W p l e R s m args below meth c H locs cells slots Q (F0 m pc ls st0) := by
  refine va_callv hr hS (fun q _ h => va_free hD hS hA isC hC q h) (va_free hD hS hA isC hC) (fun L t H1 locs1 ht hvm hw hB hz1 hk1 hS1 => ?_)
  obtain ⟨hP2, hD2⟩ := kx_join hP hD hS hA isC isR pm hC hR hn hdis (hpm L) hnp ht hB hk1
  exact kk L H1 locs1 hP2 hD2 hS1
theorem cA_eq {U : State} {cA cI : ClassId} {ty : FieldType} {k : Nat} (hK : va_K D vwCl (tys ++ [(cA, ty)]) U) (hk : tys[k]? = some (cI, ty)) : cA = cI := by
  have hlt : k < tys.length := (List.getElem?_eq_some_iff.mp hk).1
  have h1 := (hK.2 k (cI, ty) (by rw [List.getElem?_append_left hlt]; exact hk)).2
  have h2 := (hK.2 tys.length (cA, ty) (by rw [List.getElem?_append_right (Nat.le_refl _)]; simp)).2
  unfold va_RA at h1 h2
  cases ty with
  | object C =>
    obtain ⟨_, _, _, _, _, h1⟩ := h1
    obtain ⟨_, _, _, _, _, h2⟩ := h2
    exact Option.some.inj (h2.symm.trans h1)
  | _ => exact Option.some.inj (h2.symm.trans h1)
theorem wx_newa {cc : ByteArray} (hexec : p.tables.exec = Jvm.exec) (hb : c.code = cc) {atype : ArrayType} (harr : (Cond.arrayClass (newarray.typeOf atype)).before args s = true) {ty : FieldType} (hty : newarray.typeOf atype = ty) (hK : va_K D vwCl tys s) (t0 : Nat) {cI : ClassId} (ht : tys[t0]? = some (cI, ty)) (hP : va_P D vwCl ws H) (hD : va_D A ws) (hS : va_S A H0 H locs) (hA : ∀ q, H0.size ≤ q → A q)
    {n : Int32} {N' : Nat} {a0 : vp_A} (ha : ∀ cA : ClassId, vp_cell cA a0 = arrV cA N' (fun _ => defaultValue ty)) (hn : ¬ n < 0) (hN : n.toNatClampNeg = N') (hbytes : N' * componentBytes ty ≤ 536870912) (hcells : cells + 1 ≤ R.cells) (hslots : slots + N' ≤ R.slots) (hdg : decode cc pc = .ok (.newarray atype, 2))
    (kk : ∀ (q : Nat) (H1 : Heap), va_P D vwCl (ws ++ [(q, .inl (cI, a0))]) H1 → va_D A (ws ++ [(q, .inl (cI, a0))]) → va_S A H0 H1 locs →
      W p l e R s m args below meth c H1 locs (cells + 1) (slots + N') Q (F0 m (pc + 2) ls (.ref q :: rest))) : W p l e R s m args below meth c H locs cells slots Q (F0 m pc ls (.int n :: rest)) := by
  refine va_newa hexec hb harr hty hK hP hD hS hA ha hn hN hbytes hcells hslots hdg (fun q cA H1 hK1 hP1 hD1 hS1 => ?_)
  have e := cA_eq hK1 ht
  subst e
  exact kk q H1 hP1 hD1 hS1
theorem wx_newq {cc : ByteArray} (hexec : p.tables.exec = Jvm.exec) (hb : c.code = cc) {own C : String} {index : Nat} (hown : s.vm.findClass own = some m.cls) (hclink : (Cond.classLink own index C).before args s = true) (hover : va_AO C s) (hK : va_K D vwCl tys s) (t0 : Nat) {cI : ClassId} (ht : tys[t0]? = some (cI, .object C)) (hP : va_P D vwCl ws H) (hD : va_D A ws) (hS : va_S A H0 H locs) (hA : ∀ q, H0.size ≤ q → A q)
    {n : Int32} {N' : Nat} (hn : ¬ n < 0) (hN : n.toNatClampNeg = N') (hbytes : N' * 4 ≤ 536870912) (hcells : cells + 1 ≤ R.cells) (hslots : slots + N' ≤ R.slots) (hdg : decode cc pc = .ok (.anewarray index, 3))
    (kk : ∀ (q : Nat) (H1 : Heap), va_P D vwCl (ws ++ [(q, .inl (cI, N', .inr (.inr (.inr (.inr (fun _ => none))))))]) H1 → va_D A (ws ++ [(q, .inl (cI, N', .inr (.inr (.inr (.inr (fun _ => none))))))]) → va_S A H0 H1 locs →
      W p l e R s m args below meth c H1 locs (cells + 1) (slots + N') Q (F0 m (pc + 3) ls (.ref q :: rest))) : W p l e R s m args below meth c H locs cells slots Q (F0 m pc ls (.int n :: rest)) := by
  refine va_newq hexec hb hown hclink hover hK hP hD hS hA hn hN hbytes hcells hslots hdg (fun q cA H1 hK1 hP1 hD1 hS1 => ?_)
  have e := cA_eq hK1 ht
  subst e
  exact kk q H1 hP1 hD1 hS1
theorem wx_iald {cc : ByteArray} (hexec : p.tables.exec = Jvm.exec) (hb : c.code = cc) (hK : va_K D vwCl tys s) (hP : va_P D vwCl ws H) (q0 t0 : Nat) {ad : Nat} {cA : ClassId} {n : Nat} {f : Nat → Int32} (ha : ws[q0]? = some (ad, .inl (cA, n, .inl f))) (ht : tys[t0]? = some (cA, .int)) {i : Int32} (j : Nat) (hj : i.toNatClampNeg = j) (hin : vp_in i n) (hdg : decode cc pc = .ok (.iaload, 1))
    (kk : W p l e R s m args below meth c H locs cells slots Q (F0 m (pc + 1) ls (.int (f j) :: rest))) : W p l e R s m args below meth c H locs cells slots Q (F0 m pc ls (.int i :: .ref ad :: rest)) := by
  subst hj
  exact va_iald hexec hb hK hP q0 t0 ha ht hin hdg kk
theorem wx_iast {cc : ByteArray} (hexec : p.tables.exec = Jvm.exec) (hb : c.code = cc) (hK : va_K D vwCl tys s) (hP : va_P D vwCl ws H) (hD : va_D A ws) (hS : va_S A H0 H locs) (q0 t0 : Nat) {ad : Nat} {cA : ClassId} {n : Nat} {f : Nat → Int32} (ha : ws[q0]? = some (ad, .inl (cA, n, .inl f))) (ht : tys[t0]? = some (cA, .int)) {i : Int32} {x : Int32} (j : Nat) (hj : i.toNatClampNeg = j) (hin : vp_in i n) (hdg : decode cc pc = .ok (.iastore, 1)) {ws2 : va_W} (hw : ws.set q0 (ad, .inl (cA, n, .inl (upd f j x))) = ws2)
    (kk : ∀ (H1 : Heap) (locs1 : List Loc), va_P D vwCl ws2 H1 → va_D A ws2 → va_S A H0 H1 locs1 → W p l e R s m args below meth c H1 locs1 cells slots Q (F0 m (pc + 1) ls rest)) : W p l e R s m args below meth c H locs cells slots Q (F0 m pc ls (.int x :: .int i :: .ref ad :: rest)) := by
  subst hj; subst hw
  exact va_iast hexec hb hK hP hD hS q0 t0 ha ht hin hdg kk
theorem lx_fw {cc : ByteArray} (hexec : p.tables.exec = Jvm.exec) (hb : c.code = cc) {own : String} {index : Nat} {v : UInt32} (hown : s.vm.findClass own = some m.cls) (hconst : (Cond.constantFloat own index v).before args s = true) (hdg : decode cc pc = .ok (.ldc_w index, 3))
    (kk : W p l e R s m args below meth c H locs cells slots Q (F0 m (pc + 3) ls (.float v :: rest))) : W p l e R s m args below meth c H locs cells slots Q (F0 m pc ls rest) := by
  intro T hT X
  obtain ⟨t, a1, b1⟩ := kk T hT X
  obtain ⟨k, cf, hk, hcf, hcp⟩ := Cond.constantFloat_spec hown hconst
  obtain ⟨k', hk', he⟩ := X.warmed.alike.2.2 _ _ hk
  refine ⟨t, ?_, b1⟩
  subst hb
  jvm_step X.here [hexec, hdg, ldc_w.wp_float (s := T) (f := F0 m pc ls rest) X.here.top hk' (by rw [he]; exact hcf) hcp]
  exact a1
end CALLS
theorem met_go {l : Launch} {y : MethodName} {wsy wst : List Cond} {rm : Room} {cc : ByteArray} {maxL : Nat} {ret : Option FieldType} {av : List Value} {D : va_G} {tys : List (ClassId × FieldType)} {sz : Nat} {ws0 : va_W} {Qc : (Nat → Prop) → Array Value → State → Outcome → State → Prop} {mc ms : Nat}
    (hy : plainName y.cls = true) (hw : wsy = Cond.code y cc maxL ret :: wst) (hfit : (lg_sl av).length ≤ maxL)
    (body : ∀ (p : Program) (e : Env) (s : State) (m : MethodId) (below : List Frame) (meth : Method) (c : Code) (A : Nat → Prop) (ls : Array Slot), p.tables.exec = Jvm.exec → c.code = cc → meth.sig.returnType = ret → c.maxLocals = maxL → s.vm.findClass y.cls = some m.cls → (∀ w ∈ wsy, w.before av.toArray s = true) → meth.locks = false → meth.name = y.name → NN s → va_K D vwCl tys s → va_P D vwCl ws0 s.heap → va_D A ws0 → va_S A s.heap s.heap [] → (∀ q : Nat, s.heap.size ≤ q → A q) → lv_has ls maxL (lv_args 0 av) →
      W p l e rm s m av.toArray below meth c s.heap [] 0 0 (MQ below (Qc A) av.toArray s mc ms A) (F0 m 0 ls [])) :
    Met l y wsy rm (va_Pc av (PreW D tys sz ws0)) (Qc (va_A ws0 sz)) mc ms (va_A ws0 sz) := by
  refine Met.ofW (cc := cc) (maxL := maxL) (ret := ret) hy hw ?_
  intro p e s m args below meth c s₁ B hml hv
  obtain ⟨rfl, hsz, hP, hK, hD0, hN⟩ := hv
  have hts := atoms_spec (ws := wsy) B.pre
  have hown : s.vm.findClass y.cls = some m.cls := findClass_of_methodNamed B.named
  subst hsz
  rw [lg_entry_eq]
  exact body p e s m below meth c _ _ B.exec B.bytes B.returns hml hown hts B.notSynchronized (name_of_methodNamed B.named B.method).1 hN hK hP hD0.self va_S.rf (fun q h => Or.inr h) (lv_entry av hfit)
theorem met_ofF {l : Launch} {y : MethodName} {wsy wst : List Cond} {rm : Room} {Pc : Array Value → State → Prop} {Qc : Array Value → State → Outcome → State → Prop} {mc ms : Nat} {free : Addr → Prop} {cc : ByteArray} {maxL : Nat} {ret : Option FieldType}
    (hy : plainFor y = true) (hw : wsy = Cond.code y cc maxL ret :: wst)
    (walk : ∀ p e s m args below meth c s₁, BodyLoose p l y (headSpec wsy rm) cc maxL ret e s m args below meth c s₁ → c.maxLocals = maxL → Pc args s →
      W p l e (headSpec wsy rm).room s m args below meth c s.heap [] 0 0 (MQ below Qc args s mc ms free) (entryFrame m args maxL)) : Met l y wsy rm Pc Qc mc ms free := by
  apply MetFree.of_bodySF (code := cc) (maxLocals := maxL) (ret := ret) hy
  · intro a u mk hp hn
    have hc := atoms_spec (ws := wsy) hp (Cond.code y cc maxL ret) (by rw [hw]; exact List.mem_cons_self)
    obtain ⟨me, co, g1, g2, g3, g4, g5, g6, -⟩ := Cond.code_spec hn hc
    exact ⟨me, co, g1, g2, g3, g4, g5, g6⟩
  · intro p e s m args below meth c s₁ B hml hP _
    obtain ⟨t, st, o, run, en, q, fr⟩ := walk p e s m args below meth c s₁ B hml hP s₁ (by rw [B.state]; rfl) (Stand.of_body B)
    exact ⟨t, o, st, run, en, q, fr⟩
theorem met_goF {l : Launch} {y : MethodName} {wsy wst : List Cond} {rm : Room} {cc : ByteArray} {maxL : Nat} {ret : Option FieldType} {av : List Value} {D : va_G} {tys : List (ClassId × FieldType)} {sz : Nat} {ws0 : va_W} {Qc : (Nat → Prop) → Array Value → State → Outcome → State → Prop} {mc ms : Nat}
    (hy : plainFor y = true) (hw : wsy = Cond.code y cc maxL ret :: wst) (hfit : (lg_sl av).length ≤ maxL)
    (body : ∀ (p : Program) (e : Env) (s : State) (m : MethodId) (below : List Frame) (meth : Method) (c : Code) (A : Nat → Prop) (ls : Array Slot), p.tables.exec = Jvm.exec → c.code = cc → meth.sig.returnType = ret → c.maxLocals = maxL → s.vm.findClass y.cls = some m.cls → (∀ w ∈ wsy, w.before av.toArray s = true) → meth.locks = false → meth.name = y.name → NN s → va_K D vwCl tys s → va_P D vwCl ws0 s.heap → va_D A ws0 → va_S A s.heap s.heap [] → (∀ q : Nat, s.heap.size ≤ q → A q) → lv_has ls maxL (lv_args 0 av) →
      W p l e rm s m av.toArray below meth c s.heap [] 0 0 (MQ below (Qc A) av.toArray s mc ms A) (F0 m 0 ls [])) :
    Met l y wsy rm (va_Pc av (PreW D tys sz ws0)) (Qc (va_A ws0 sz)) mc ms (va_A ws0 sz) := by
  refine met_ofF (cc := cc) (maxL := maxL) (ret := ret) hy hw ?_
  intro p e s m args below meth c s₁ B hml hv
  obtain ⟨rfl, hsz, hP, hK, hD0, hN⟩ := hv
  have hts := atoms_spec (ws := wsy) B.pre
  have hown : s.vm.findClass y.cls = some m.cls := findClass_of_methodNamed B.named
  subst hsz
  rw [lg_entry_eq]
  exact body p e s m below meth c _ _ B.exec B.bytes B.returns hml hown hts B.notSynchronized (name_of_methodNamed B.named B.method).1 hN hK hP hD0.self va_S.rf (fun q h => Or.inr h) (lv_entry av hfit)
theorem nar_z {x : Int32} (h : x = 0 ∨ x = 1) : narrow .boolean (.int x) = .int x := by rcases h with rfl | rfl <;> rfl
theorem nar_c {x : Int32} (h : ((Int32.toUInt32 x) % 65536).toInt32 = x) : narrow .char (.int x) = .int x := by
  have h2 := pk_nc x
  rw [h] at h2
  exact h2
theorem fit_c {x : Int32} (h : ((Int32.toUInt32 x) % 65536).toInt32 = x) : fits .char (.int x) = true := by
  have h2 := pk_fc x
  rw [h] at h2
  exact h2
theorem sw_out {x : Int32} (lo hi : Int) (h : ∀ k : Int, lo ≤ k → k ≤ hi → x.toInt = k → False) : x.toInt < lo ∨ hi < x.toInt := by
  rcases Int.lt_or_le x.toInt lo with h1 | h1
  · exact Or.inl h1
  · rcases Int.lt_or_le hi x.toInt with h2 | h2
    · exact Or.inr h2
    · exact absurd rfl (fun h3 => h _ h1 h2 h3)

