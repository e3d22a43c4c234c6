/-! THE CLAIM OUT OF ONE WALK OF THE LAW'S BODY. Your part is whole_start (and what it stands on); all else here is the same for every law, but numbers. -/
def R_law : String := "SpringBalanceLaw"
def lw_P (b : Addr) (xs : List Int32) (args : Array Value) (s : State) : Prop := args = #[.ref b] ∧ s.IntsAt b xs ∧ xs.length ≤ 2560 ∧ (Jvm.Cond.and given_1 narrow_1).before args s = true
/-- what a walk over the start with the record d0 says of its end, said of the start itself -/
theorem lw_closed {s t : State} {o : Outcome} {d0 : Drawn} {L : List Loc} {k n : Nat} (hd0 : s.drawn.sameBut d0 lw_cs) (hv : ∃ v, o = .returned v) (hW : (s.setDrawn d0).WarmedH t.vm) (hs : (s.setDrawn d0).sameButNew ({ t with vm := s.vm } : State) L k n) : State.butDraws s t lw_cs (fun t1 => Framed s o t1 L k n) := by
  have h2 : t.drawn = d0 := congrArg State.drawn hs.1
  refine ⟨⟨hv, hW, State.sameButNew.setDrawn hs s.drawn⟩, ?_, by decide⟩
  rw [h2]
  exact hd0
def lw_Q (_ : Array Value) (s : State) (o : Outcome) (t : State) : Prop := o = .returned (some (.int 1)) ∧ State.butDraws s t lw_cs (fun t1 => Framed s o t1 [] 600000 7302250)
def lw_Z (below : List Frame) (a : Array Value) (s : State) : State → Prop := fun t => ∃ o, t.status = .running ∧ Ended t below o ∧ lw_Q a s o t
/-- the law's own end, with 1 on the stack, nothing written that was there before, its room as the claim has it; d0: the record of draws at this point (at the entry s.drawn: begin with 'refine W.base ?_' and 'have hd0 := Drawn.sameBut.refl s.drawn lw_cs') -/
theorem lw_ret {p : Program} {l : Launch} {e : Env} {s : State} {m : MethodId} {below : List Frame} {meth : Method} {c : Code} {b : Nat} {d0 : Drawn} (hd0 : s.drawn.sameBut d0 lw_cs) (hx : p.tables.exec = Jvm.exec) (hb : c.code = code) (hr : meth.sig.returnType = ret) (hlocks : meth.locks = false) {pc : Nat} {H : Heap} {ls : Array Slot} (hdg : decode code pc = .ok (.ireturn, 1)) : W p l e room_1 (s.setDrawn d0) m #[Value.ref b] below meth c H [] 600000 7302250 (lw_Z below #[Value.ref b] s) (F0 m pc ls [.int 1]) := by
  intro T hT X
  obtain ⟨fs, hret, hrun, hended, hW, hframe⟩ := X.leave (v := some (.int 1)) (hlocks := hlocks) (fun h => by rw [hr] at h; cases h)
  have hmeth' : T.vm.method? m = some meth := X.method'
  refine ⟨T.setFrames fs, ?_, .returned (some (.int 1)), hrun, hended, rfl, lw_closed hd0 ⟨_, rfl⟩ hW hframe⟩
  jvm_step X.here [X.here.top, hx, hb, hdg, hmeth', hr, ret, narrow_b1]
  (try refine ⟨rfl, ?_⟩); (try refine ⟨rfl, ?_⟩)
  first | (intro acts; rw [hret _ acts rfl rfl rfl]) | rw [hret _ _ rfl rfl rfl]
  exact Steps.refl _
/-- what holds at the law's entry: the machine, the code, the tables' words (any of lw_tbl by 'hts w (by decide +kernel)'), the script of L ints xs at the cell b, what the Statement gives of the start (any of its parts by flat_of_before) -/
def lw_At (p : Program) (s : State) (m : MethodId) (meth : Method) (c : Code) (b L : Nat) (xs : Nat → Int32) : Prop :=
  p.tables.exec = Jvm.exec ∧ c.code = code ∧ meth.sig.returnType = ret ∧ c.maxLocals = 4 ∧ s.vm.findClass R_law = some m.cls ∧ (∀ w ∈ lw_tbl, w.before #[Value.ref b] s = true) ∧ va_X b L xs s s.heap ∧ b < s.heap.size ∧ meth.locks = false ∧ (Jvm.Cond.and given_1 narrow_1).before #[Value.ref b] s = true
/-! the law: its world, its invariant, calls of methods with a history -/
section CALLH
variable {p : Program} {l : Launch} {e : Env} {R : Room} {s : State} {m : MethodId} {args : Array Value} {below : List Frame} {meth : Method} {c : Code} {H H0 : Heap} {locs : List Loc} {cells slots mc ms : Nat} {Q : State → Prop} {D : va_G} {tys : List (ClassId × FieldType)} {A : Nat → Prop} {ws wc wr : va_W} {pc : Nat} {ls : Array Slot} {rest st0 : List Value} {a : Array Value}
theorem kx_hi {v : Int32} {wsL wL2 : (Nat → Nat → Nat) × (Nat → Option Nat) → va_W} (hr : va_Run p l e R s m args below meth c H locs cells slots mc ms (F0 m pc ls st0) rest (QH D tys (va_A wc H.size) wsL v a) (va_A wc H.size)) (hP : va_P D vwCl ws H) (hD : va_D A ws) (hS : va_S A H0 H locs) (hA : ∀ q, H0.size ≤ q → A q) (isC isR pm : List Nat) (hC : isC.map (fun i => ws[i]?) = wc.map some) (hR : isR.map (fun i => ws[i]?) = wr.map some) (hn : va_nd isR = true) (hdis : (isR.all fun i => !isC.contains i) = true) (hpm : ∀ x, pm.map (fun i => (wr ++ wsL x)[i]?) = (wL2 x).map some) (hnp : va_nd pm = true)
    (kk : ∀ (x : (Nat → Nat → Nat) × (Nat → Option Nat)) (H1 : Heap) (locs1 : List Loc), (∀ j : Nat, j < 5 → x.2 j = some (x.1 j 0)) → va_P D vwCl (wL2 x) H1 → va_D A (wL2 x) → va_S A H0 H1 locs1 → W p l e R s m args below meth c H1 locs1 (cells + mc) (slots + ms) Q (F0 m (pc + 3) ls (.int v :: rest))) : W p l e R s m args below meth c H locs cells slots Q (F0 m pc ls st0) := by
  refine va_calli hr hS (fun q _ h => va_free hD hS hA isC hC q h) (va_free hD hS hA isC hC) (fun r x t H1 locs1 ht hvm hw hB hz1 hk1 hS1 => ?_)
  obtain ⟨hP2, hD2⟩ := kx_join hP hD hS hA isC isR pm hC hR hn hdis (hpm x) hnp ht hB hk1
  obtain ⟨e, hg⟩ := hw
  subst e
  exact kk x H1 locs1 hg hP2 hD2 hS1
end CALLH
theorem lg_self (r : Int64) : lg_cmp r r = 0 := by
  unfold lg_cmp
  have h : ¬ r > r := fun e => by
    have e2 : r.toInt < r.toInt := Int64.lt_iff_toInt_lt.mp e
    omega
  rw [if_neg h, if_pos rfl]
theorem and31 (a : Int32) : ∃ k : Nat, k < 32 ∧ a &&& 31 = nI k := by
  refine ⟨(a.toBitVec &&& 31#32).toNat, ?_, ?_⟩
  · rw [BitVec.toNat_and]
    have : a.toBitVec.toNat &&& (31#32).toNat ≤ (31#32).toNat := Nat.and_le_right
    have e : (31#32).toNat = 31 := by decide
    omega
  · apply Int32.toBitVec_inj.mp
    show a.toBitVec &&& 31#32 = BitVec.ofNat 32 (a.toBitVec &&& 31#32).toNat
    rw [BitVec.ofNat_toNat, BitVec.setWidth_eq]
theorem kT {s : State} {args : Array Value} {ty : FieldType} (h : (Cond.arrayClass ty).before args s = true) : ∃ cA : ClassId, ArrOfT s cA ty ∧ s.vm.findClass ("[" ++ ty.toString) = some cA := by
  obtain ⟨cA, k, comp, h1, h2, h3⟩ := Cond.arrayClass_spec h
  exact ⟨cA, fun n z => ⟨(fun k h => by cases h), k, h2, comp, h3⟩, h1⟩
theorem kTq {s : State} {C : String} (h : va_AO C s) : ∃ cA : ClassId, ArrOfT s cA (.object C) ∧ va_RA s cA (.object C) := by
  obtain ⟨comp, cA, k, h1, h2, h3, h4, h5⟩ := Cond.arrayOver_spec h
  exact ⟨cA, fun n z => ⟨(fun k h => by cases h), k, h3, comp, h4⟩, k, comp, h3, h4, h1, h5⟩
def lwW (cI cC cJ cB : ClassId) (q : Nat → Nat) (Ld : Int32) (E : Int32) (C : Int32) (P : Int32) (Wy : Int32) (A : Int64) (dz : Int32) (rt : Int32) (st : Int32) (T : Nat → Int32) (X : Nat → Int32) (z : Int32) (fc : Nat → Int32) (sc : Nat → Int32) (zc : Int32) (fk : Nat → Int32) (sk : Nat → Int32) (zk : Int32) (ms : Nat → Int32) (es : Nat → Int32) (vs : Nat → Int32) (ps : Nat → Int32) (pn : Nat → Int32) (zw : Int32) (hs : Int32) (tg : Nat → Int32) (tl : Int32) (tk : Int32) (tn : Int32) (td : Int32) (tx : Int32) (qL : Int32) (qE : Int32) (qC : Int32) (qP : Int32) (qW : Int32) (qA : Int64) (qdz : Int32) (qrt : Int32) (qst : Int32) (qT : Nat → Int32) (qX : Nat → Int32) (qz : Int32) (qfc : Nat → Int32) (qsc : Nat → Int32) (qzc : Int32) (qfb : Nat → Int32) (qsb : Nat → Int32) (qzb : Int32) (qu : Nat → Int32) (qd : Nat → Int32) (qt : Nat → Int32) (qn : Int32) (qv : Int32) (rf : Int32) (d : Nat → Int32) (ac : Int64) (was : Nat → Int32) (acs : Nat → Int64) (sts : Int32) (mf : Int32) (mt : Nat → Int32) (ty : Int32) (ma : Int32) (mg : Int32) (mn : Int32) (mo : Nat → Int32) (mp : Nat → Int32) (mq : Nat → Int32) (hB : Nat → BS) (ad : Nat → Nat → Nat) (g : Nat → Option Nat) : va_W := ([((q 0), .inr (7, [.ref (q 1), .ref (q 18), .ref (q 20), .ref (q 22), .int rf])), ((q 1), .inr (0, [.ref (q 2), .ref (q 9), .ref (q 12)])), ((q 2), .inr (3, [.int Ld, .int E, .int C, .int P, .int Wy, .long A, .int dz, .int rt, .int st, .ref (q 3), .ref (q 6)])), ((q 3), .inr (2, [.ref (q 4), .ref (q 5), .int z])), ((q 4), .inl (cI, 1001, .inl T)), ((q 5), .inl (cI, 1001, .inl X)), ((q 6), .inr (2, [.ref (q 7), .ref (q 8), .int zc])), ((q 7), .inl (cI, 8, .inl fc)), ((q 8), .inl (cI, 8, .inl sc)), ((q 9), .inr (2, [.ref (q 10), .ref (q 11), .int zk])), ((q 10), .inl (cI, 6, .inl fk)), ((q 11), .inl (cI, 6, .inl sk)), ((q 12), .inr (6, [.ref (q 13), .ref (q 14), .ref (q 15), .ref (q 16), .ref (q 17), .int zw])), ((q 13), .inl (cI, 8, .inl ms)), ((q 14), .inl (cI, 8, .inl es)), ((q 15), .inl (cI, 8, .inl vs)), ((q 16), .inl (cI, 8, .inl ps)), ((q 17), .inl (cI, 8, .inl pn)), ((q 18), .inr (1, [.ref (q 19), .int hs])), ((q 19), .inl (cB, 5, .inr (.inr (.inr (.inr g))))), ((q 20), .inr (4, [.ref (q 21), .int tl, .int tk, .int tn, .int td, .int tx])), ((q 21), .inl (cC, 80, .inl tg)), ((q 22), .inr (5, [.ref (q 23), .ref (q 30), .ref (q 33), .ref (q 34), .ref (q 35), .int qn, .int qv])), ((q 23), .inr (3, [.int qL, .int qE, .int qC, .int qP, .int qW, .long qA, .int qdz, .int qrt, .int qst, .ref (q 24), .ref (q 27)])), ((q 24), .inr (2, [.ref (q 25), .ref (q 26), .int qz])), ((q 25), .inl (cI, 1, .inl qT)), ((q 26), .inl (cI, 1, .inl qX)), ((q 27), .inr (2, [.ref (q 28), .ref (q 29), .int qzc])), ((q 28), .inl (cI, 8, .inl qfc)), ((q 29), .inl (cI, 8, .inl qsc)), ((q 30), .inr (2, [.ref (q 31), .ref (q 32), .int qzb])), ((q 31), .inl (cI, 6, .inl qfb)), ((q 32), .inl (cI, 6, .inl qsb)), ((q 33), .inl (cI, 6, .inl qu)), ((q 34), .inl (cI, 6, .inl qd)), ((q 35), .inl (cI, 6, .inl qt)), ((q 36), .inr (8, [.ref (q 37), .long ac, .ref (q 38), .ref (q 39), .int sts, .int mf, .ref (q 40), .int ty, .int ma, .int mg, .int mn, .ref (q 41), .ref (q 42), .ref (q 43)])), ((q 37), .inl (cI, 2086, .inl d)), ((q 38), .inl (cI, 10430, .inl was)), ((q 39), .inl (cJ, 5, .inr (.inl acs))), ((q 40), .inl (cC, 80, .inl mt)), ((q 41), .inl (cI, 2086, .inl mo)), ((q 42), .inl (cI, 12, .inl mp)), ((q 43), .inl (cI, 6, .inl mq))] ++ wH cI ad hB)
def lwI (Ld : Int32) (E : Int32) (C : Int32) (P : Int32) (Wy : Int32) (A : Int64) (dz : Int32) (rt : Int32) (st : Int32) (z : Int32) (T : Nat → Int32) (X : Nat → Int32) (zc : Int32) (fc : Nat → Int32) (sc : Nat → Int32) (zk : Int32) (fk : Nat → Int32) (sk : Nat → Int32) (zw : Int32) (ms : Nat → Int32) (es : Nat → Int32) (vs : Nat → Int32) (ps : Nat → Int32) (pn : Nat → Int32) (d : Nat → Int32) (ac : Int64) (hs : Int32) (hB : Nat → BS) (sts : Int32) (was : Nat → Int32) (acs : Nat → Int64) (tl : Int32) (tg : Nat → Int32) (ty : Int32) (mt : Nat → Int32) (rf : Int32) (mf : Int32) : Prop := RB24 Ld E C P Wy A dz rt st z T X zc fc sc zk fk sk zw ms es vs ps pn d ac ∧ RH hs hB sts was acs ∧ RX tl tg ty mt ∧ rf = mf
