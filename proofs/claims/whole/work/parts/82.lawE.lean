def R_law : String := "TailVectorsLaw"
def lw_P (b : Addr) (xs : List Int32) (args : Array Value) (s : State) : Prop := args = #[.ref b] ∧ s.IntsAt b xs ∧ xs.length ≤ 2048 ∧ (Jvm.Cond.and given_1 narrow_1).before args s = true
def lw_Q (_ : Array Value) (s : State) (o : Outcome) (t : State) : Prop := o = .returned (some (.int 1)) ∧ Framed s o t [] 600000 7302250
def lw_Z (below : List Frame) (a : Array Value) (s : State) : State → Prop := fun t => ∃ o, t.status = .running ∧ Ended t below o ∧ lw_Q a s o t
/-- the law's own end, with 1 on the stack, nothing written that was there before, its room as the claim has it -/
theorem lw_ret {p : Program} {l : Launch} {e : Env} {s : State} {m : MethodId} {below : List Frame} {meth : Method} {c : Code} {b : Nat} (hx : p.tables.exec = Jvm.exec) (hb : c.code = code) (hr : meth.sig.returnType = ret) (hlocks : meth.locks = false) {pc : Nat} {H : Heap} {ls : Array Slot} (hdg : decode code pc = .ok (.ireturn, 1)) : W p l e room_1 s m #[Value.ref b] below meth c H [] 600000 7302250 (lw_Z below #[Value.ref b] s) (F0 m pc ls [.int 1]) := by
  intro T hT X
  obtain ⟨fs, hret, hrun, hended, hW, hframe⟩ := X.leave (v := some (.int 1)) (hlocks := hlocks) (fun h => by rw [hr] at h; cases h)
  have hmeth' : T.vm.method? m = some meth := X.method'
  refine ⟨T.setFrames fs, ?_, .returned (some (.int 1)), hrun, hended, rfl, ⟨_, rfl⟩, hW, hframe⟩
  jvm_step X.here [X.here.top, hx, hb, hdg, hmeth', hr, ret, narrow_b1]
  (try refine ⟨rfl, ?_⟩); (try refine ⟨rfl, ?_⟩)
  first | (intro acts; rw [hret _ acts rfl rfl rfl]) | rw [hret _ _ rfl rfl rfl]
  exact Steps.refl _
/-- what holds at the law's entry: the machine, the code, the tables' words (any of lw_tbl by 'hts w (by decide +kernel)'), the script of L ints xs at the cell b, what the Statement gives of the start (any of its parts by flat_of_before) -/
def lw_At (p : Program) (s : State) (m : MethodId) (meth : Method) (c : Code) (b L : Nat) (xs : Nat → Int32) : Prop :=
  p.tables.exec = Jvm.exec ∧ c.code = code ∧ meth.sig.returnType = ret ∧ c.maxLocals = 4 ∧ s.vm.findClass R_law = some m.cls ∧ (∀ w ∈ lw_tbl, w.before #[Value.ref b] s = true) ∧ va_X b L xs s s.heap ∧ b < s.heap.size ∧ meth.locks = false ∧ (Jvm.Cond.and given_1 narrow_1).before #[Value.ref b] s = true
/-! ===== the surroundings at the law's entry ===== -/
theorem xArrI {args : Array Value} {s : State} {ty : FieldType} (h : (Cond.arrayClass ty).before args s = true) : ∃ cA : ClassId, ArrOfT s cA ty ∧ s.vm.findClass ("[" ++ ty.toString) = some cA := by
  obtain ⟨cA, kA, comp, h1, h2, h3⟩ := Cond.arrayClass_spec h
  exact ⟨cA, fun n z => ⟨fun k h => (by cases h), kA, h2, comp, h3⟩, h1⟩
theorem xArrO {s : State} {C : String} (h : va_AO C s) : ∃ cA : ClassId, ArrOfT s cA (.object C) ∧ va_RA s cA (.object C) := by
  obtain ⟨comp, cA, kA, h1, h2, h3, h4, h5⟩ := Cond.arrayOver_spec h
  exact ⟨cA, fun n z => ⟨fun k h => (by cases h), kA, h3, comp, h4⟩, kA, comp, h3, h4, h1, h5⟩
def lwLS : Term := .static "TailVectors" "LEVEL_STARTS" "[I"
set_option maxRecDepth 20000 in
theorem lwt_in0 : Cond.instantiable RX0 2 ∈ lw_tbl := by decide +kernel
set_option maxRecDepth 20000 in
theorem lwt_in1 : Cond.instantiable RX1 3 ∈ lw_tbl := by decide +kernel
set_option maxRecDepth 20000 in
theorem lwt_in2 : Cond.instantiable RX2 5 ∈ lw_tbl := by decide +kernel
set_option maxRecDepth 20000 in
theorem lwt_in3 : Cond.instantiable RX3 2 ∈ lw_tbl := by decide +kernel
set_option maxRecDepth 20000 in
theorem lwt_in4 : Cond.instantiable RX4 4 ∈ lw_tbl := by decide +kernel
set_option maxRecDepth 20000 in
theorem lwt_in5 : Cond.instantiable RX5 6 ∈ lw_tbl := by decide +kernel
set_option maxRecDepth 20000 in
theorem lwt_in6 : Cond.instantiable RX6 9 ∈ lw_tbl := by decide +kernel
set_option maxRecDepth 20000 in
theorem lwt_it : Cond.initialized "TailVectors" ∈ lw_tbl := by decide +kernel
set_option maxRecDepth 20000 in
theorem lwt_ls : Cond.laysStatic "TailVectors" "LEVEL_STARTS" "[I" ∈ lw_tbl := by decide +kernel
set_option maxRecDepth 20000 in
theorem lwt_ai : Cond.arrayClass .int ∈ lw_tbl := by decide +kernel
set_option maxRecDepth 20000 in
theorem lwt_ac : Cond.arrayClass .char ∈ lw_tbl := by decide +kernel
set_option maxRecDepth 20000 in
theorem lwt_av : Cond.arrayOver (.object "TailVectors$View") ∈ lw_tbl := by decide +kernel
set_option maxRecDepth 20000 in
theorem lwt_as : Cond.arrayOver (.object "TailVectors$State") ∈ lw_tbl := by decide +kernel
set_option maxRecDepth 20000 in
theorem lwt_nf : xNf ∈ lw_tbl := by decide +kernel
set_option maxRecDepth 20000 in
theorem lwt_nm : xNm ∈ lw_tbl := by decide +kernel
theorem law_E {p : Program} {s : State} {m : MethodId} {meth : Method} {c : Code} {b L : Nat} {xs : Nat → Int32} (C0 : lw_At p s m meth c b L xs) : ∃ G : xG, xE G s ∧ xB0 G = s.heap.size := by
  obtain ⟨hx, hb, hr, hml, hown, hts, hX, hbl, hlocks, hgv⟩ := id C0
  have hg := flat_of_before _ hgv
  obtain ⟨c0, i0, k0⟩ := u_known (C := RX0) (T := TX0) (N := 2) (n := 2) hts in_wsX00 (hts _ lwt_in0)
  obtain ⟨c1, i1, k1⟩ := u_known (C := RX1) (T := TX1) (N := 3) (n := 3) hts in_wsX10 (hts _ lwt_in1)
  obtain ⟨c2, i2, k2⟩ := u_known (C := RX2) (T := TX2) (N := 5) (n := 5) hts in_wsX20 (hts _ lwt_in2)
  obtain ⟨c3, i3, k3⟩ := u_known (C := RX3) (T := TX3) (N := 2) (n := 2) hts in_wsX30 (hts _ lwt_in3)
  obtain ⟨c4, i4, k4⟩ := u_known (C := RX4) (T := TX4) (N := 4) (n := 4) hts in_wsX40 (hts _ lwt_in4)
  obtain ⟨c5, i5, k5⟩ := u_known (C := RX5) (T := TX5) (N := 6) (n := 6) hts in_wsX50 (hts _ lwt_in5)
  obtain ⟨c6, i6, k6⟩ := u_known (C := RX6) (T := TX6) (N := 9) (n := 9) hts in_wsX60 (hts _ lwt_in6)
  obtain ⟨D, hKc⟩ : ∃ D : va_G, ∀ (k : Nat) (q : vw_C), vwCl[k]? = some q → u_Kn s q.1 q.2.1 q.2.2 (D.1 k) (D.2 k) := by
    refine ⟨(fun k => if k = 0 then c0 else if k = 1 then c1 else if k = 2 then c2 else if k = 3 then c3 else if k = 4 then c4 else if k = 5 then c5 else c6, fun k => if k = 0 then i0 else if k = 1 then i1 else if k = 2 then i2 else if k = 3 then i3 else if k = 4 then i4 else if k = 5 then i5 else i6), ?_⟩
    intro k q hq
    match k, hq with
    | 0, hq => cases hq; exact k0
    | 1, hq => cases hq; exact k1
    | 2, hq => cases hq; exact k2
    | 3, hq => cases hq; exact k3
    | 4, hq => cases hq; exact k4
    | 5, hq => cases hq; exact k5
    | 6, hq => cases hq; exact k6
    | k + 7, hq => simp [vwCl] at hq
  have e0 : (Term.elem lwLS (.int 0)).eval #[Value.ref b] s none [] s = some (.int 0) := va_eqt (hg _ (by decide +kernel))
  have e1 : (Term.elem lwLS (.int 1)).eval #[Value.ref b] s none [] s = some (.int 74) := va_eqt (hg _ (by decide +kernel))
  have e2 : (Term.elem lwLS (.int 2)).eval #[Value.ref b] s none [] s = some (.int 93) := va_eqt (hg _ (by decide +kernel))
  have e3 : (Term.elem lwLS (.int 3)).eval #[Value.ref b] s none [] s = some (.int 98) := va_eqt (hg _ (by decide +kernel))
  have e4 : (Term.elem lwLS (.int 4)).eval #[Value.ref b] s none [] s = some (.int 100) := va_eqt (hg _ (by decide +kernel))
  have e5 : (Term.elem lwLS (.int 5)).eval #[Value.ref b] s none [] s = some (.int 101) := va_eqt (hg _ (by decide +kernel))
  have hlen : (Term.length lwLS).eval #[Value.ref b] s none [] s = some (.int 6) := va_eqt (hg _ (by decide +kernel))
  have harr : (Cond.arrayOf lwLS .int).before #[Value.ref b] s = true := hg _ (by decide +kernel)
  obtain ⟨t, ht, hT⟩ := va_Tof (A := fun q => s.heap.size ≤ q) (N := 6) (f := lvF) (by decide) harr hlen (fun j hj => by
    rcases (show j = 0 ∨ j = 1 ∨ j = 2 ∨ j = 3 ∨ j = 4 ∨ j = 5 by omega) with rfl | rfl | rfl | rfl | rfl | rfl
    · exact e0
    · exact e1
    · exact e2
    · exact e3
    · exact e4
    · exact e5) (fun a ha => Nat.not_le.mpr ha)
  have hZ := va_Zof (A := fun q => s.heap.size ≤ q) (hts _ lwt_ls) (hts _ lwt_it) ht (fun a ha => Nat.not_le.mpr ha)
  obtain ⟨cf, kf, fi, f, a, cell, z1, z2, z3, z4, z5, z6, z7, z8⟩ := hZ
  obtain ⟨cell2, t1, t2, t3, t4, t5, t6, t7⟩ := hT
  obtain ⟨cI, aI, nI1⟩ := xArrI (hts _ lwt_ai)
  obtain ⟨cC, aC, nC1⟩ := xArrI (hts _ lwt_ac)
  have hov : va_AO "TailVectors$View" s := va_AO.of (hts _ lwt_av)
  have hos : va_AO "TailVectors$State" s := va_AO.of (hts _ lwt_as)
  obtain ⟨cV, aV, nV1⟩ := xArrO hov
  obtain ⟨cS, aS, nS1⟩ := xArrO hos
  refine ⟨(D, cI, cC, cV, cS, a, t, s.heap.size), ⟨⟨hKc, fun k q hq => ?_⟩, ⟨cf, kf, fi, f, a, cell, z1, z2, z3, z4, z5, z6, z7, fun z => z.1 rfl⟩, ⟨cell2, t1, t2, t3, t4, t5, t6, fun z => z.2 rfl⟩, ⟨(Array.getElem?_eq_some_iff.mp z5).1, (Array.getElem?_eq_some_iff.mp t1).1, Nat.le_refl _⟩, ⟨va_Nw.of rfl (hts _ lwt_nf), hos, hov⟩, va_Nw.of rfl (hts _ lwt_nm)⟩, rfl⟩
  match k, hq with
  | 0, hq => cases hq; exact ⟨aI, nI1⟩
  | 1, hq => cases hq; exact ⟨aC, nC1⟩
  | 2, hq => cases hq; exact ⟨aV, nV1⟩
  | 3, hq => cases hq; exact ⟨aS, nS1⟩
  | k + 4, hq => simp [xT] at hq
