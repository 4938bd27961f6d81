/-! ===== base: the surroundings of every method, contracts that read and contracts that write, call rows ===== -/
abbrev xG : Type := va_G × ClassId × ClassId × ClassId × ClassId × Nat × Nat × Nat
abbrev xcI (G : xG) : ClassId := G.2.1
abbrev xcC (G : xG) : ClassId := G.2.2.1
abbrev xcV (G : xG) : ClassId := G.2.2.2.1
abbrev xcS (G : xG) : ClassId := G.2.2.2.2.1
abbrev xaS (G : xG) : Nat := G.2.2.2.2.2.1
abbrev xtL (G : xG) : Nat := G.2.2.2.2.2.2.1
abbrev xB0 (G : xG) : Nat := G.2.2.2.2.2.2.2
abbrev xT (G : xG) : List (ClassId × FieldType) := [(xcI G, .int), (xcC G, .char), (xcV G, .object "TailVectors$View"), (xcS G, .object "TailVectors$State")]
def lvN (j : Nat) : Nat := match j with
  | 0 => 0
  | 1 => 74
  | 2 => 93
  | 3 => 98
  | 4 => 100
  | _ => 101
def lvF : Nat → Value := fun j => .int (nI (lvN j))
def xSt (G : xG) : Nat → Prop := fun q => q ≠ xaS G ∧ q ≠ xtL G
def xNf : Cond := .fieldLinkNest "TailVectors$Row" 48 "TailVectors" "LEVEL_STARTS" "[I" "TailVectors"
def xNm : Cond := .methodLinkNest "TailVectors$Row" 60 yX5_rootLevel "TailVectors"
def xE (G : xG) (U : State) : Prop := va_K G.1 vwCl (xT G) U ∧ va_Z "TailVectors" "LEVEL_STARTS" "[I" (.ref (xtL G)) (xSt G) U U.heap ∧ va_T .int (xtL G) 6 lvF (xSt G) U U.heap ∧ (xaS G < xB0 G ∧ xtL G < xB0 G ∧ xB0 G ≤ U.heap.size) ∧ (va_Nw xNf U ∧ va_AO "TailVectors$State" U ∧ va_AO "TailVectors$View" U) ∧ va_Nw xNm U
theorem xE.go {G : xG} {s U : State} {A : Nat → Prop} {H : Heap} {locs : List Loc} (h : xE G s) (hS : va_S A s.heap H locs) (hA : ∀ q, A q → xB0 G ≤ q) (hU : U.heap = H) (hW : s.WarmedH U.vm) : xE G U := by
  obtain ⟨h1, h2, h3, ⟨h4, h5, h6⟩, ⟨h7, h9, h10⟩, h8⟩ := h
  have key : ∀ a : Nat, a < s.heap.size → ¬ xSt G a → U.heap[a]? = s.heap[a]? := by
    intro a ha hn
    rw [hU]
    apply hS.2.1 a ha
    intro hAa
    have h11 := hA a hAa
    apply hn
    constructor
    · intro e1; subst e1; omega
    · intro e2; subst e2; omega
  exact ⟨va_K.moved hW.alike h1, (va_Z.moved hW.alike h2).kept key, (va_T.moved hW.alike h3).kept key, ⟨h4, h5, by rw [hU]; exact Nat.le_trans h6 hS.1⟩, ⟨va_Nw.warmF hW h7, va_AO.moved hW.alike h9, va_AO.moved hW.alike h10⟩, va_Nw.warmM hW h8⟩
theorem xE.calling {G : xG} {U : State} (h : xE G U) (a : Array Value) (g : JFrame) (mk : MethodId) : xE G (U.calling g mk a) := by
  obtain ⟨h1, h2, h3, h4, ⟨h7, h9, h10⟩, h8⟩ := h
  have hal : U.vm.Alike (U.calling g mk a).vm := Vm.Alike.refl U.vm
  exact ⟨va_K.moved hal h1, va_Z.moved hal h2, va_T.moved hal h3, h4, ⟨va_Nw.same rfl rfl h7, va_AO.moved hal h9, va_AO.moved hal h10⟩, va_Nw.same rfl rfl h8⟩
/-- a contract's start: the arguments, the surroundings, what the heap holds -/
def xPc (G : xG) (av : List Value) (Φ : Heap → Prop) : Array Value → State → Prop := fun v U => v = av.toArray ∧ xE G U ∧ Φ U.heap
theorem xPc.blind {G : xG} {av : List Value} {Φ : Heap → Prop} : FrameBlind (xPc G av Φ) := fun a U g mk h => ⟨h.1, h.2.1.calling a g mk, h.2.2⟩
/-- the end of a method that writes or makes: its answer, what the heap holds, what stayed -/
def xQ {σ : Type} (rv : σ → Option Value) (Ψ : σ → Heap → Prop) (A : Nat → Prop) : Array Value → State → Outcome → State → Prop := fun _ st o t => ∃ u : σ, o = .returned (rv u) ∧ Ψ u t.heap ∧ va_F A st t
section XB
variable {p : Program} {l : Launch} {e : Env} {R : Room} {s : State} {m : MethodId} {args : Array Value} {below : List Frame} {meth : Method} {c : Code} {H : Heap} {locs : List Loc} {cells slots : Nat} {Q : State → Prop}
variable {cc : ByteArray} {pc : Nat} {ls : Array Slot} {rest st : List Value} {G : xG} {A : Nat → Prop}
theorem xMet {y : MethodName} {ws ws' : List Cond} {rm : Room} {av : List Value} {Φ : Heap → Prop} {Qc : Array Value → State → Outcome → State → Prop} {mc ms : Nat} {free : Addr → Prop} {nL : Nat} {ret : Option FieldType} (hy : plainName y.cls = true) (hw : ws = Cond.code y cc nL ret :: ws') (hn : (lg_sl av).length ≤ nL)
    (body : ∀ (p : Program) (e : Env) (s : State) (m : MethodId) (below : List Frame) (meth : Method) (c : Code), CallFix p m c cc nL s av.toArray ws y.cls → meth.sig.returnType = ret → meth.locks = false → meth.name = y.name → xE G s → Φ s.heap → ∀ ls : Array Slot, lv_has ls nL (lv_args 0 av) → W p l e rm s m av.toArray below meth c s.heap [] 0 0 (MQ below Qc av.toArray s mc ms free) (F0 m 0 ls [])) : Met l y ws rm (xPc G av Φ) Qc mc ms free := by
  refine Met.ofW (cc := cc) (maxL := nL) (ret := ret) hy hw ?_
  intro p e s m args below meth c s₁ B hml hv
  obtain ⟨rfl, hE, hΦ⟩ := hv
  have h := body p e s m below meth c ⟨B.exec, B.bytes, hml, findClass_of_methodNamed B.named, atoms_spec (ws := ws) B.pre⟩ B.returns B.notSynchronized (name_of_methodNamed B.named B.method).1 hE hΦ _ (lv_entry av hn)
  rw [lg_entry_eq]
  exact h
/-- a call that only reads, and its one answer -/
theorem xrd {r : Value} {a : Array Value} (hr : va_Run p l e R s m args below meth c H locs cells slots 0 0 (F0 m pc ls st) rest (k2_QcV r a) (fun _ => False)) (kk : W p l e R s m args below meth c H locs cells slots Q (F0 m (pc + 3) ls (r :: rest))) : W p l e R s m args below meth c H locs cells slots Q (F0 m pc ls st) := by
  intro T hT X
  obtain ⟨v, st₀, t, T', L, h0, X', hL, e1, e2, ⟨hv, hh⟩, sg⟩ := hr T hT X
  cases hv
  obtain ⟨t2, a1, b1⟩ := kk T' (by rw [e1, hh, h0]) (Stand.forget X' (fun q h => (hL q h).elim))
  exact ⟨t2, sg t2 a1, b1⟩
/-- a call that writes or makes -/
theorem xwr {σ : Type} {rv : σ → Option Value} {Ψ : σ → Heap → Prop} {A1 : Nat → Prop} {a : Array Value} {mc ms : Nat} {free : Nat → Prop} (hr : va_Run p l e R s m args below meth c H locs cells slots mc ms (F0 m pc ls st) rest (xQ rv Ψ A1 a) free) (hS : va_S A s.heap H locs) (hA : ∀ q, A1 q → A q) (hf : ∀ q, free q → A q)
    (kk : ∀ (u : σ) (H1 : Heap) (locs1 : List Loc), Ψ u H1 → H.size ≤ H1.size → (∀ q : Nat, q < H.size → ¬ A1 q → H1[q]? = H[q]?) → va_S A s.heap H1 locs1 → W p l e R s m args below meth c H1 locs1 (cells + mc) (slots + ms) Q (F0 m (pc + 3) ls ((rv u).toList ++ rest))) : W p l e R s m args below meth c H locs cells slots Q (F0 m pc ls st) := by
  intro T hT X
  obtain ⟨v, st₀, t, T', L, h0, X', hL, e1, e2, ⟨u, hv, hp, hz, hk⟩, sg⟩ := hr T hT X
  cases hv
  rw [h0] at hz hk
  rw [← e1] at hz hk hp
  obtain ⟨t2, a1, b1⟩ := kk u T'.heap (locs ++ L) hp hz hk
    ⟨Nat.le_trans hS.1 hz, fun q h1 h2 => by rw [hk q (Nat.lt_of_lt_of_le h1 hS.1) (fun z => h2 (hA q z))]; exact hS.2.1 q h1 h2, fun q hq => by
      rcases List.mem_append.mp hq with h | h
      · exact hS.2.2 q h
      · exact hf _ (hL q h)⟩ T' rfl X'
  exact ⟨t2, sg t2 a1, b1⟩
variable {y : MethodName} {bytes : ByteArray} {maxL nL mc ms n index : Nat} {ret : Option FieldType} {ws : List Cond} {rm : Room} {Qc : Array Value → State → Outcome → State → Prop} {free : Addr → Prop} {Ts : List Cond} {own C : String} {b : Addr} {As : List Value} {Φ : Heap → Prop}
theorem xrunV (S : CallFix p m c cc nL s args Ts own) (hM : Met l y ws rm (xPc G (.ref b :: As) Φ) Qc mc ms free) (cw : CallW R s args own C index y bytes maxL ret ws rm mc ms n) (hE : xE G s) (hS : va_S A s.heap H locs) (hA : ∀ q, A q → xB0 G ≤ q) {wr : va_W} (q0 ci : Nat) {q : vw_C} {fs : List Value} (hP : va_P G.1 vwCl wr H) (he : wr[q0]? = some (b, .inr (ci, fs))) (hc : vwCl[ci]? = some q) (hC : q.1 = C) (hΦ : Φ H)
    (hst : st = As.reverse ++ .ref b :: rest) (hn : As.length = n) (hl : ls.size = nL) (hW : (rest.map fun v => v.category).sum ≤ 8) (hdg : decode cc pc = .ok (.invokevirtual index, 3)) (hf : cells + mc ≤ R.cells ∧ slots + ms ≤ R.slots) : va_Run p l e R s m args below meth c H locs cells slots mc ms (F0 m pc ls st) rest (Qc (Value.ref b :: As).toArray) free :=
  va_runV S hM cw ⟨xPc.blind, by subst hC; exact va_recv hE.1 hP hc he, fun U hU hW => ⟨rfl, hE.go hS hA hU hW, by rw [hU]; exact hΦ⟩⟩ rfl hn hl hst (lv_room hW) hdg hf
theorem xrunS (S : CallFix p m c cc nL s args Ts own) (hM : Met l y ws rm (xPc G As Φ) Qc mc ms free) (cw : CallB R s args own index y bytes maxL ret ws rm mc ms n ∧ (Cond.static y).before args s = true) (hE : xE G s) (hS : va_S A s.heap H locs) (hA : ∀ q, A q → xB0 G ≤ q) (hΦ : Φ H)
    (hst : st = As.reverse ++ rest) (hn : As.length = n) (hl : ls.size = nL) (hW : (rest.map fun v => v.category).sum ≤ 8) (hdg : decode cc pc = .ok (.invokestatic index, 3)) (hf : cells + mc ≤ R.cells ∧ slots + ms ≤ R.slots) : va_Run p l e R s m args below meth c H locs cells slots mc ms (F0 m pc ls st) rest (Qc As.toArray) free :=
  va_runS S hM cw ⟨xPc.blind, fun U hU hW => ⟨rfl, hE.go hS hA hU hW, by rw [hU]; exact hΦ⟩⟩ rfl hn hl hst (lv_room hW) hdg hf
theorem xrunSN {host : String} (S : CallFix p m c cc nL s args Ts own) (hM : Met l y ws rm (xPc G As Φ) Qc mc ms free) (cw : va_CN R s args own index y host bytes maxL ret ws rm mc ms n ∧ (Cond.static y).before args s = true ∧ True) (hE : xE G s) (hS : va_S A s.heap H locs) (hA : ∀ q, A q → xB0 G ≤ q) (hΦ : Φ H)
    (hst : st = As.reverse ++ rest) (hn : As.length = n) (hl : ls.size = nL) (hW : (rest.map fun v => v.category).sum ≤ 8) (hdg : decode cc pc = .ok (.invokestatic index, 3)) (hf : cells + mc ≤ R.cells ∧ slots + ms ≤ R.slots) : va_Run p l e R s m args below meth c H locs cells slots mc ms (F0 m pc ls st) rest (Qc As.toArray) free :=
  va_runSN S hM cw ⟨xPc.blind, fun U hU hW => ⟨rfl, hE.go hS hA hU hW, by rw [hU]; exact hΦ⟩⟩ rfl hn hl hst (lv_room hW) hdg hf
theorem xrunI (S : CallFix p m c cc nL s args Ts own) (hM : Met l y ws rm (xPc G (.ref b :: As) Φ) Qc mc ms free) (cw : CallB R s args own index y bytes maxL none ws rm mc ms n ∧ y.name = "<init>" ∧ (Cond.instanceMethod y).before args s = true) (hE : xE G s) (hS : va_S A s.heap H locs) (hA : ∀ q, A q → xB0 G ≤ q) (hΦ : Φ H)
    (hst : st = As.reverse ++ .ref b :: rest) (hn : As.length = n) (hl : ls.size = nL) (hW : (rest.map fun v => v.category).sum ≤ 8) (hdg : decode cc pc = .ok (.invokespecial index, 3)) (hf : cells + mc ≤ R.cells ∧ slots + ms ≤ R.slots) : va_Run p l e R s m args below meth c H locs cells slots mc ms (F0 m pc ls st) rest (Qc (Value.ref b :: As).toArray) free :=
  va_runI S hM cw ⟨xPc.blind, fun U hU hW => ⟨rfl, hE.go hS hA hU hW, by rw [hU]; exact hΦ⟩⟩ rfl hn hl hst (lv_room hW) hdg hf
/-- the ends of a method that only reads -/
theorem xret_i {v r : Int32} (hx : p.tables.exec = Jvm.exec) (hb : c.code = cc) (hr : meth.sig.returnType = some .int) (hk : meth.locks = false) (hdg : decode cc pc = .ok (.ireturn, 1)) (hv : v = r) : W p l e R s m args below meth c s.heap [] 0 0 (MQ below (k2_QcV (.int r)) args s 0 0 (fun _ => False)) (F0 m pc ls [.int v]) := by
  subst hv
  exact W.iret hx hb hr (fun t ht _ => ⟨rfl, ht⟩) (fun q h => by cases h) hdg hk
theorem xret_z {v r : Int32} (hx : p.tables.exec = Jvm.exec) (hb : c.code = cc) (hr : meth.sig.returnType = some .boolean) (hk : meth.locks = false) (hdg : decode cc pc = .ok (.ireturn, 1)) (h01 : v = 0 ∨ v = 1) (hv : v = r) : W p l e R s m args below meth c s.heap [] 0 0 (MQ below (k2_QcV (.int r)) args s 0 0 (fun _ => False)) (F0 m pc ls [.int v]) := by
  subst hv
  exact W.zret (ty := .boolean) hx hb hr (by rcases h01 with h | h <;> subst h <;> rfl) (fun t ht _ => ⟨rfl, ht⟩) (fun q h => by cases h) hdg hk
theorem xret_c {v r : Int32} (hx : p.tables.exec = Jvm.exec) (hb : c.code = cc) (hr : meth.sig.returnType = some .char) (hk : meth.locks = false) (hdg : decode cc pc = .ok (.ireturn, 1)) (hn : narrow .char (.int v) = .int v) (hv : v = r) : W p l e R s m args below meth c s.heap [] 0 0 (MQ below (k2_QcV (.int r)) args s 0 0 (fun _ => False)) (F0 m pc ls [.int v]) := by
  subst hv
  exact W.zret (ty := .char) hx hb hr hn (fun t ht _ => ⟨rfl, ht⟩) (fun q h => by cases h) hdg hk
theorem xret_a {v r : Value} {n : String} (hx : p.tables.exec = Jvm.exec) (hb : c.code = cc) (hr : meth.sig.returnType = some (.object n)) (hk : meth.locks = false) (hdg : decode cc pc = .ok (.areturn, 1)) (hn : v = .null ∨ ∃ a, v = .ref a) (hv : v = r) : W p l e R s m args below meth c s.heap [] 0 0 (MQ below (k2_QcV r) args s 0 0 (fun _ => False)) (F0 m pc ls [v]) := by
  subst hv
  exact W.aret hx hb hr (Or.inl ⟨n, rfl⟩) hn (fun t ht _ => ⟨rfl, ht⟩) (fun q h => by cases h) hdg hk
variable {σ : Type} {rv : σ → Option Value} {Ψ : σ → Heap → Prop}
/-- the ends of a method that writes or makes -/
theorem xend_i {v : Int32} (u : σ) (hx : p.tables.exec = Jvm.exec) (hb : c.code = cc) (hr : meth.sig.returnType = some .int) (hk : meth.locks = false) (hS : va_S A s.heap H locs) (hA : ∀ q, A q → free q) (hdg : decode cc pc = .ok (.ireturn, 1)) (hv : rv u = some (.int v)) (hΨ : Ψ u H) (hc : cells ≤ mc) (hs : slots ≤ ms) : W p l e R s m args below meth c H locs cells slots (MQ below (xQ rv Ψ A) args s mc ms free) (F0 m pc ls [.int v]) :=
  W.widen hc hs (W.iret hx hb hr (fun t ht _ => ⟨u, by rw [hv], by rw [ht]; exact hΨ, hS.F ht⟩) (fun q h => hA _ (hS.2.2 q h)) hdg hk)
theorem xend_z {v : Int32} (u : σ) (hx : p.tables.exec = Jvm.exec) (hb : c.code = cc) (hr : meth.sig.returnType = some .boolean) (hk : meth.locks = false) (hS : va_S A s.heap H locs) (hA : ∀ q, A q → free q) (hdg : decode cc pc = .ok (.ireturn, 1)) (h01 : v = 0 ∨ v = 1) (hv : rv u = some (.int v)) (hΨ : Ψ u H) (hc : cells ≤ mc) (hs : slots ≤ ms) : W p l e R s m args below meth c H locs cells slots (MQ below (xQ rv Ψ A) args s mc ms free) (F0 m pc ls [.int v]) :=
  W.widen hc hs (W.zret (ty := .boolean) hx hb hr (by rcases h01 with h | h <;> subst h <;> rfl) (fun t ht _ => ⟨u, by rw [hv], by rw [ht]; exact hΨ, hS.F ht⟩) (fun q h => hA _ (hS.2.2 q h)) hdg hk)
theorem xend_v (u : σ) (hx : p.tables.exec = Jvm.exec) (hb : c.code = cc) (hr : meth.sig.returnType = none) (hk : meth.locks = false) (hS : va_S A s.heap H locs) (hA : ∀ q, A q → free q) (hdg : decode cc pc = .ok (.return_, 1)) (hv : rv u = none) (hΨ : Ψ u H) (hc : cells ≤ mc) (hs : slots ≤ ms) : W p l e R s m args below meth c H locs cells slots (MQ below (xQ rv Ψ A) args s mc ms free) (F0 m pc ls []) :=
  W.widen hc hs (W.vret hx hb hr (fun t ht _ => ⟨u, by rw [hv], by rw [ht]; exact hΨ, hS.F ht⟩) (fun q h => hA _ (hS.2.2 q h)) hdg hk)
theorem xend_a {a : Nat} {rt : FieldType} (u : σ) (hx : p.tables.exec = Jvm.exec) (hb : c.code = cc) (hr : meth.sig.returnType = some rt) (hrt : (∃ n, rt = .object n) ∨ ∃ t, rt = .array t) (hk : meth.locks = false) (hS : va_S A s.heap H locs) (hA : ∀ q, A q → free q) (hdg : decode cc pc = .ok (.areturn, 1)) (hv : rv u = some (.ref a)) (hΨ : Ψ u H) (hc : cells ≤ mc) (hs : slots ≤ ms) : W p l e R s m args below meth c H locs cells slots (MQ below (xQ rv Ψ A) args s mc ms free) (F0 m pc ls [.ref a]) :=
  W.widen hc hs (W.aret hx hb hr hrt (Or.inr ⟨a, rfl⟩) (fun t ht _ => ⟨u, by rw [hv], by rw [ht]; exact hΨ, hS.F ht⟩) (fun q h => hA _ (hS.2.2 q h)) hdg hk)
end XB
