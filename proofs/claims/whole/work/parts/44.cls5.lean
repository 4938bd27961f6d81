/-- a row's value: room of its values, the values, the numbers by slot, the length -/
abbrev Rw : Type := Nat × (Nat → Int32) × (Nat → Int32) × Nat
/-- a view's value: its row, window or not, first, many -/
abbrev Vw : Type := Rw × Nat × Nat × Nat
abbrev rowW (G : xG) (a va na : Nat) (r : Rw) : va_W := [(a, .inr (1, [.ref va, .ref na, .int (nI r.2.2.2)])), (va, .inl (xcI G, r.1, .inl r.2.1)), (na, .inl (xcI G, 101, .inl r.2.2.1))]
def isRow (G : xG) (B : List Nat) (a : Nat) (r : Rw) (H : Heap) : Prop := ∃ va na, (a ∉ B ∧ va ∉ B ∧ na ∉ B) ∧ va_P G.1 vwCl (rowW G a va na r) H
def isView (G : xG) (B : List Nat) (q : Nat) (v : Vw) (H : Heap) : Prop := ∃ ra, q ∉ B ∧ va_P G.1 vwCl [(q, .inr (4, [.ref ra, .int (nI v.2.1), .int (nI v.2.2.1), .int (nI v.2.2.2)]))] H ∧ isRow G B ra v.1 H
def okR (r : Rw) : Prop := r.2.2.2 ≤ 300 ∧ r.2.2.2 ≤ r.1 ∧ r.1 ≤ 300
def okV (v : Vw) : Prop := okR v.1 ∧ v.2.1 < 2 ∧ v.2.2.1 + v.2.2.2 ≤ v.1.2.2.2
def xFrm (B : List Nat) (H H1 : Heap) : Prop := ∀ q, q ∉ B → q < H.size → H1[q]? = H[q]?
theorem isRow.kept {G : xG} {B : List Nat} {a : Nat} {r : Rw} {H H1 : Heap} (h : isRow G B a r H) (hf : xFrm B H H1) : isRow G B a r H1 := by
  obtain ⟨va, na, hb, hP⟩ := h
  refine ⟨va, na, hb, hP.kept (fun k q hk => hf q.1 ?_ (hP k q hk).lt)⟩
  have := List.mem_of_getElem? hk
  simp only [List.mem_cons, List.not_mem_nil, or_false] at this
  rcases this with rfl | rfl | rfl
  · exact hb.1
  · exact hb.2.1
  · exact hb.2.2
theorem isView.kept {G : xG} {B : List Nat} {a : Nat} {v : Vw} {H H1 : Heap} (h : isView G B a v H) (hf : xFrm B H H1) : isView G B a v H1 := by
  obtain ⟨ra, hb, hP, hr⟩ := h
  refine ⟨ra, hb, hP.kept (fun k q hk => hf q.1 ?_ (hP k q hk).lt), hr.kept hf⟩
  have := List.mem_of_getElem? hk
  simp only [List.mem_cons, List.not_mem_nil, or_false] at this
  rw [this]
  exact hb
/-- the views of a state -/
def stV (G : xG) (B : List Nat) (vf : Nat → Option Nat) (vs : Nat → Option Vw) (H : Heap) : Prop := ∀ i, i < 24 → (vf i = none ∧ vs i = none) ∨ ∃ q v, vf i = some q ∧ vs i = some v ∧ isView G B q v H
def stE (G : xG) (B : List Nat) (er : Option Nat) (ed : Option Rw) (H : Heap) : Prop := (er = none ∧ ed = none) ∨ ∃ q r, er = some q ∧ ed = some r ∧ isRow G B q r H
theorem stV.kept {G : xG} {B : List Nat} {vf : Nat → Option Nat} {vs : Nat → Option Vw} {H H1 : Heap} (h : stV G B vf vs H) (hf : xFrm B H H1) : stV G B vf vs H1 := fun i hi => (h i hi).elim Or.inl (fun ⟨q, v, a, b, c⟩ => Or.inr ⟨q, v, a, b, c.kept hf⟩)
theorem stE.kept {G : xG} {B : List Nat} {er : Option Nat} {ed : Option Rw} {H H1 : Heap} (h : stE G B er ed H) (hf : xFrm B H H1) : stE G B er ed H1 := h.elim Or.inl (fun ⟨q, v, a, b, c⟩ => Or.inr ⟨q, v, a, b, c.kept hf⟩)
/-- which row lies at a place -/
def vPR (G : xG) (vf : Nat → Option Nat) (er : Option Nat) (rr : Nat → Option Nat) (H : Heap) : Prop := (∀ i, i < 24 → (vf i = none ∧ rr i = none) ∨ ∃ q ra w f m, vf i = some q ∧ rr i = some ra ∧ va_P G.1 vwCl [(q, .inr (4, [.ref ra, .int (nI w), .int (nI f), .int (nI m)]))] H) ∧ rr 24 = er
def vRS (G : xG) (B : List Nat) (rr : Nat → Option Nat) (rs : Nat → Option Rw) (H : Heap) : Prop := ∀ i, i ≤ 24 → (rr i = none ∧ rs i = none) ∨ ∃ ra r, rr i = some ra ∧ rs i = some r ∧ isRow G B ra r H
def vVM (G : xG) (vf : Nat → Option Nat) (mm : Nat → Nat) (H : Heap) : Prop := ∀ i, i < 24 → (vf i = none ∧ mm i = 0) ∨ ∃ q ra w f, vf i = some q ∧ va_P G.1 vwCl [(q, .inr (4, [.ref ra, .int (nI w), .int (nI f), .int (nI (mm i))]))] H
def vwQ (vf : Nat → Option Nat) (x : Int32) : Option Nat := if x < 0 ∨ nI 24 ≤ x then none else vf x.toNatClampNeg
def vwN (vf : Nat → Option Nat) (i : Nat) : Option Nat := if i < 24 then vf i else none
theorem vwQ_n {vf : Nat → Option Nat} {i : Nat} (h : i < 2 ^ 31) : vwQ vf (nI i) = vwN vf i := by
  unfold vwQ vwN
  by_cases h2 : i < 24
  · rw [if_neg (fun z => z.elim (fun y => nI_pos h y) (fun y => absurd ((nI_leI (by decide) h).mp y) (by omega))), if_pos h2, nI_clamp h]
  · rw [if_pos (Or.inr ((nI_leI (by decide) h).mpr (by omega))), if_neg h2]
def inOne (rs : Nat → Option Rw) (n j : Nat) (x : Int32) : Prop := ∃ i, i < n ∧ ∃ r, rs i = some r ∧ 0 ≤ x ∧ r.2.2.1 j = x
noncomputable def biN (rs : Nat → Option Rw) (n : Nat) (nums : Nat → Int32) : Nat := sumN (fun j => bN (0 ≤ nums j ∧ ¬ inOne rs n j (nums j))) 101
noncomputable def biU (rs : Nat → Option Rw) (i : Nat) : Nat := match rs i with
  | none => 0
  | some r => biN rs i r.2.2.1

theorem hw_X2_isFull_f17 : Cond.fieldLink RX2 17 "TailVectors$State" "ever" "I" ∈ wsX2_isFull := by decide +kernel
theorem hi_X2_isFull_RX2 : ∀ w ∈ u_ws RX2 TX2 5, w ∈ wsX2_isFull := by decide +kernel
set_option maxHeartbeats 4000000 in
set_option maxRecDepth 100000 in
theorem c_X2_isFull (l : Launch) (G : xG) (n0 : Nat) (nv : Nat) (vf : Nat → Option Nat) (ev : Nat) (md : Nat) (er : Option Nat) (fo : Int32) (hev24 : ev ≤ 24) : Met l yX2_isFull wsX2_isFull ({ frames := 0, cells := 0, slots := 0, locals := 0 } : Room) (xPc G [.ref n0] (fun H => va_P G.1 vwCl [(n0, .inr (2, [.ref nv, .int (nI ev), .int (nI md), va_rf er, .int fo])), (nv, .inl (xcV G, 24, .inr (.inr (.inr (.inr vf)))))] H)) (k2_QcV (.int (bI (24 ≤ ev)))) 0 0 (fun _ => False) := by
  refine xMet (cc := cX2_isFull) (nL := 1) (ret := (some (.boolean))) (by decide) rfl (Nat.le_of_ble_eq_true rfl) ?_
  intro p e s m below meth c S hr hlk_ hnm hE hP ls hl
  obtain ⟨hx, hb, hml, hown, hts⟩ := id S
  have hown : s.vm.findClass RX2 = some m.cls := hown
  have hK := hE.1
  have hS : va_S (fun _ : Nat => False) s.heap s.heap [] := va_S.rf
  have hA : ∀ q, (fun _ : Nat => False) q → xB0 G ≤ q := fun _ h => h.elim
  have hP : va_P G.1 vwCl [(n0, .inr (2, [.ref nv, .int (nI ev), .int (nI md), va_rf er, .int fo])), (nv, .inl (xcV G, 24, .inr (.inr (.inr (.inr vf)))))] s.heap := hP
  have hl : lv_has ls 1 [(0, .ref n0)] := hl
  refine lv_aload_n hx hb dX2_isFull_0 rfl (lv_at hl 0 rfl) ?_
  refine va_get (D := G.1) (ci := 2) (v := .int (nI ev)) (C := RX2) (T := TX2) (N := 5) hx hb hts hi_X2_isFull_RX2 hown hK hP 0 rfl rfl 1 (by decide) (hts _ hw_X2_isFull_f17) (fun _ h9 => h9) rfl dX2_isFull_1 ?_
  refine lv_bipush (v := nI 24) hx hb dX2_isFull_4 (by decide) ?_
  refine n_icmp_lt (tgt := 13) hx hb (by omega) (by omega) dX2_isFull_6 (by decide) (fun c_6 => ?_) (fun c_6 => ?_)
  · refine lv_iconst (v := nI 0) hx hb dX2_isFull_13 rfl ?_
    exact xret_z hx hb hr hlk_ dX2_isFull_14 (by first | exact Or.inl rfl | exact Or.inr rfl) (xb0 (by omega))
  · refine lv_iconst (v := nI 1) hx hb dX2_isFull_9 rfl ?_
    refine lv_goto (tgt := 14) hx hb dX2_isFull_10 (by decide) ?_
    exact xret_z hx hb hr hlk_ dX2_isFull_14 (by first | exact Or.inl rfl | exact Or.inr rfl) (xb1 (by omega))

theorem hw_X2_viewOf_f11 : Cond.fieldLink RX2 11 "TailVectors$State" "views" "[LTailVectors$View;" ∈ wsX2_viewOf := by decide +kernel
theorem hi_X2_viewOf_RX2 : ∀ w ∈ u_ws RX2 TX2 5, w ∈ wsX2_viewOf := by decide +kernel
set_option maxHeartbeats 4000000 in
set_option maxRecDepth 100000 in
theorem c_X2_viewOf (l : Launch) (G : xG) (n0 : Nat) (nv : Nat) (vf : Nat → Option Nat) (ev : Nat) (md : Nat) (er : Option Nat) (fo : Int32) (x : Int32)  : Met l yX2_viewOf wsX2_viewOf ({ frames := 0, cells := 0, slots := 0, locals := 0 } : Room) (xPc G [.ref n0, .int x] (fun H => va_P G.1 vwCl [(n0, .inr (2, [.ref nv, .int (nI ev), .int (nI md), va_rf er, .int fo])), (nv, .inl (xcV G, 24, .inr (.inr (.inr (.inr vf)))))] H)) (k2_QcV (va_rf (vwQ vf x))) 0 0 (fun _ => False) := by
  refine xMet (cc := cX2_viewOf) (nL := 2) (ret := (some ((.object "TailVectors$View")))) (by decide) rfl (Nat.le_of_ble_eq_true rfl) ?_
  intro p e s m below meth c S hr hlk_ hnm hE hP ls hl
  obtain ⟨hx, hb, hml, hown, hts⟩ := id S
  have hown : s.vm.findClass RX2 = some m.cls := hown
  have hK := hE.1
  have hS : va_S (fun _ : Nat => False) s.heap s.heap [] := va_S.rf
  have hA : ∀ q, (fun _ : Nat => False) q → xB0 G ≤ q := fun _ h => h.elim
  have hP : va_P G.1 vwCl [(n0, .inr (2, [.ref nv, .int (nI ev), .int (nI md), va_rf er, .int fo])), (nv, .inl (xcV G, 24, .inr (.inr (.inr (.inr vf)))))] s.heap := hP
  have hl : lv_has ls 2 [(0, .ref n0), (1, .int x)] := hl
  refine lv_iload_n hx hb dX2_viewOf_0 rfl (lv_at hl 1 rfl) ?_
  refine lv_if_lt (tgt := 19) hx hb dX2_viewOf_1 (by decide) (fun c_1 => ?_) (fun c_1 => ?_)
  · refine lv_null hx hb dX2_viewOf_19 ?_
    exact xret_a hx hb hr hlk_ dX2_viewOf_20 (Or.inl rfl) (by rw [vwQ, if_pos (Or.inl c_1)]; rfl)
  · refine lv_iload_n hx hb dX2_viewOf_4 rfl (lv_at hl 1 rfl) ?_
    refine lv_bipush (v := nI 24) hx hb dX2_viewOf_5 (by decide) ?_
    refine lv_icmp_ge (tgt := 19) hx hb dX2_viewOf_7 (by decide) (fun c_7 => ?_) (fun c_7 => ?_)
    · refine lv_null hx hb dX2_viewOf_19 ?_
      exact xret_a hx hb hr hlk_ dX2_viewOf_20 (Or.inl rfl) (by rw [vwQ, if_pos (Or.inr c_7)]; rfl)
    · obtain ⟨k, hk31, rfl⟩ := nI_of c_1
      have hk24 : k < 24 := Nat.not_le.mp (fun z => c_7 ((nI_leI (by decide) hk31).mpr z))
      refine lv_aload_n hx hb dX2_viewOf_10 rfl (lv_at hl 0 rfl) ?_
      refine va_get (D := G.1) (ci := 2) (v := .ref nv) (C := RX2) (T := TX2) (N := 5) hx hb hts hi_X2_viewOf_RX2 hown hK hP 0 rfl rfl 0 (by decide) (hts _ hw_X2_viewOf_f11) (fun _ h9 => h9) rfl dX2_viewOf_11 ?_
      refine lv_iload_n hx hb dX2_viewOf_14 rfl (lv_at hl 1 rfl) ?_
      refine q_aald hx hb hK hP 1 2 rfl rfl (by omega) (by decide) dX2_viewOf_15 ?_
      refine lv_goto (tgt := 20) hx hb dX2_viewOf_16 (by decide) ?_
      exact xret_a hx hb hr hlk_ dX2_viewOf_20 (va_rf_or _) (by rw [vwQ, if_neg (fun z => z.elim c_1 c_7), nI_clamp hk31])

theorem c_X2_viewOf_n (l : Launch) (G : xG) (n0 nv : Nat) (vf : Nat → Option Nat) (ev md : Nat) (er : Option Nat) (fo : Int32) (i : Nat) (hi : i < 2 ^ 31) : Met l yX2_viewOf wsX2_viewOf ({ frames := 0, cells := 0, slots := 0, locals := 0 } : Room) (xPc G [.ref n0, .int (nI i)] (fun H => va_P G.1 vwCl [(n0, .inr (2, [.ref nv, .int (nI ev), .int (nI md), va_rf er, .int fo])), (nv, .inl (xcV G, 24, .inr (.inr (.inr (.inr vf)))))] H)) (k2_QcV (va_rf (vwN vf i))) 0 0 (fun _ => False) := by
  have h := c_X2_viewOf l G n0 nv vf ev md er fo (nI i)
  rwa [vwQ_n hi] at h
theorem hw_X2_viewsLeft_f11 : Cond.fieldLink RX2 11 "TailVectors$State" "views" "[LTailVectors$View;" ∈ wsX2_viewsLeft := by decide +kernel
theorem hi_X2_viewsLeft_RX2 : ∀ w ∈ u_ws RX2 TX2 5, w ∈ wsX2_viewsLeft := by decide +kernel
set_option maxHeartbeats 4000000 in
set_option maxRecDepth 100000 in
theorem c_X2_viewsLeft (l : Launch) (G : xG) (n0 : Nat) (nv : Nat) (vf : Nat → Option Nat) (ev : Nat) (md : Nat) (er : Option Nat) (fo : Int32)  : Met l yX2_viewsLeft wsX2_viewsLeft ({ frames := 0, cells := 0, slots := 0, locals := 0 } : Room) (xPc G [.ref n0] (fun H => va_P G.1 vwCl [(n0, .inr (2, [.ref nv, .int (nI ev), .int (nI md), va_rf er, .int fo])), (nv, .inl (xcV G, 24, .inr (.inr (.inr (.inr vf)))))] H)) (k2_QcV (.int (nI (sumN (fun z => bN (¬ vf z = none)) 24)))) 0 0 (fun _ => False) := by
  refine xMet (cc := cX2_viewsLeft) (nL := 3) (ret := (some (.int))) (by decide) rfl (Nat.le_of_ble_eq_true rfl) ?_
  intro p e s m below meth c S hr hlk_ hnm hE hP ls hl
  obtain ⟨hx, hb, hml, hown, hts⟩ := id S
  have hown : s.vm.findClass RX2 = some m.cls := hown
  have hK := hE.1
  have hS : va_S (fun _ : Nat => False) s.heap s.heap [] := va_S.rf
  have hA : ∀ q, (fun _ : Nat => False) q → xB0 G ≤ q := fun _ h => h.elim
  have hP : va_P G.1 vwCl [(n0, .inr (2, [.ref nv, .int (nI ev), .int (nI md), va_rf er, .int fo])), (nv, .inl (xcV G, 24, .inr (.inr (.inr (.inr vf)))))] s.heap := hP
  have hl : lv_has ls 3 [(0, .ref n0)] := hl
  refine lv_iconst (v := nI 0) hx hb dX2_viewsLeft_0 rfl ?_
  refine lv_istore_n (lv' := [(1, .int (nI 0)), (0, .ref n0)]) hx hb dX2_viewsLeft_1 rfl hl (by decide) rfl (fun ls hl => ?_)
  refine lv_iconst (v := nI 0) hx hb dX2_viewsLeft_2 rfl ?_
  refine lv_istore_n (lv' := [(2, .int (nI 0)), (1, .int (nI 0)), (0, .ref n0)]) hx hb dX2_viewsLeft_3 rfl hl (by decide) rfl (fun ls hl => ?_)
  have hl : lv_has ls 3 [(2, .int (nI 0)), (1, .int (nI (sumN (fun z => bN (¬ vf z = none)) 0))), (0, .ref n0)] := lv_sub hl [0, 1, 2] rfl
  refine xloopR (σ := Nat) (C := (fun (x_ : Nat) ls => (x_ ≤ 24) ∧ lv_has ls 3 [(2, .int (nI x_)), (1, .int (nI (sumN (fun z => bN (¬ vf z = none)) x_))), (0, .ref n0)])) (μ := (fun (x_ : Nat) => 24 - x_)) (W' := fun ls => W p l e _ s m _ below meth c _ _ _ _ _ (F0 m 4 ls [])) ?_ 0 _ ⟨(by (try dsimp only); omega), hl⟩
  intro x_ ls hC ih_4
  obtain ⟨i, rfl⟩ : ∃ z, z = x_ := ⟨x_, rfl⟩
  obtain ⟨hi, hl⟩ := hC
  replace hi : i ≤ 24 := hi
  replace hl : lv_has ls 3 [(2, .int (nI i)), (1, .int (nI (sumN (fun z => bN (¬ vf z = none)) i))), (0, .ref n0)] := hl
  refine id ?_
  refine lv_iload_n hx hb dX2_viewsLeft_4 rfl (lv_at hl 0 rfl) ?_
  refine lv_bipush (v := nI 24) hx hb dX2_viewsLeft_5 (by decide) ?_
  refine n_icmp_ge (tgt := 28) hx hb (by omega) (by omega) dX2_viewsLeft_7 (by decide) (fun c_7 => ?_) (fun c_7 => ?_)
  · refine lv_iload_n hx hb dX2_viewsLeft_28 rfl (lv_at hl 1 rfl) ?_
    exact xret_i hx hb hr hlk_ dX2_viewsLeft_29 (by rw [show i = 24 by omega])
  · refine lv_aload_n hx hb dX2_viewsLeft_10 rfl (lv_at hl 2 rfl) ?_
    refine va_get (D := G.1) (ci := 2) (v := .ref nv) (C := RX2) (T := TX2) (N := 5) hx hb hts hi_X2_viewsLeft_RX2 hown hK hP 0 rfl rfl 0 (by decide) (hts _ hw_X2_viewsLeft_f11) (fun _ h9 => h9) rfl dX2_viewsLeft_11 ?_
    refine lv_iload_n hx hb dX2_viewsLeft_14 rfl (lv_at hl 0 rfl) ?_
    refine q_aald hx hb hK hP 1 2 rfl rfl (by omega) (by decide) dX2_viewsLeft_15 ?_
    rcases hv : vf i with _ | q
    · refine W.eq (g2 := F0 m 16 ls [.null]) rfl ?_
      refine lv_ifnullN (tgt := 22) hx hb dX2_viewsLeft_16 (by decide) ?_
      refine lv_iinc (v := nI (i + 1)) (lv' := [(2, .int (nI (i + 1))), (1, .int (nI (sumN (fun z => bN (¬ vf z = none)) i))), (0, .ref n0)]) hx hb dX2_viewsLeft_22 hl (k := 0) rfl (nI_add i 1) (by decide) rfl (fun ls hl => ?_)
      refine lv_goto (tgt := 4) hx hb dX2_viewsLeft_25 (by decide) ?_
      rw [sumB_f (Q := fun z => ¬ vf z = none) (fun z => z hv)] at hl
      have hl : lv_has ls 3 [(2, .int (nI (i + 1))), (1, .int (nI (sumN (fun z => bN (¬ vf z = none)) (i + 1)))), (0, .ref n0)] := lv_sub hl [0, 1, 2] rfl
      exact ih_4 (i + 1) _ (by show 24 - (i + 1) < 24 - i; omega) ⟨(by (try dsimp only); omega), hl⟩
    · refine W.eq (g2 := F0 m 16 ls [.ref q]) rfl ?_
      refine lv_ifnull hx hb dX2_viewsLeft_16 ?_
      refine lv_iinc (v := nI (sumN (fun z => bN (¬ vf z = none)) i + 1)) (lv' := [(1, .int (nI (sumN (fun z => bN (¬ vf z = none)) i + 1))), (2, .int (nI i)), (0, .ref n0)]) hx hb dX2_viewsLeft_19 hl (k := 1) rfl (nI_add (sumN (fun z => bN (¬ vf z = none)) i) 1) (by decide) rfl (fun ls hl => ?_)
      refine lv_iinc (v := nI (i + 1)) (lv' := [(2, .int (nI (i + 1))), (1, .int (nI (sumN (fun z => bN (¬ vf z = none)) i + 1))), (0, .ref n0)]) hx hb dX2_viewsLeft_22 hl (k := 1) rfl (nI_add i 1) (by decide) rfl (fun ls hl => ?_)
      refine lv_goto (tgt := 4) hx hb dX2_viewsLeft_25 (by decide) ?_
      rw [sumB_t (Q := fun z => ¬ vf z = none) (fun z => by rw [hv] at z; cases z)] at hl
      have hl : lv_has ls 3 [(2, .int (nI (i + 1))), (1, .int (nI (sumN (fun z => bN (¬ vf z = none)) (i + 1)))), (0, .ref n0)] := lv_sub hl [0, 1, 2] rfl
      exact ih_4 (i + 1) _ (by show 24 - (i + 1) < 24 - i; omega) ⟨(by (try dsimp only); omega), hl⟩

theorem hw_X2_valuesShown_f11 : Cond.fieldLink RX2 11 "TailVectors$State" "views" "[LTailVectors$View;" ∈ wsX2_valuesShown := by decide +kernel
theorem hi_X2_valuesShown_RX2 : ∀ w ∈ u_ws RX2 TX2 5, w ∈ wsX2_valuesShown := by decide +kernel
theorem hw_X2_valuesShown_f32 : Cond.fieldLink RX2 32 "TailVectors$View" "many" "I" ∈ wsX2_valuesShown := by decide +kernel
theorem hi_X2_valuesShown_RX4 : ∀ w ∈ u_ws RX4 TX4 4, w ∈ wsX2_valuesShown := by decide +kernel
set_option maxHeartbeats 4000000 in
set_option maxRecDepth 100000 in
theorem c_X2_valuesShown (l : Launch) (G : xG) (n0 : Nat) (nv : Nat) (vf : Nat → Option Nat) (ev : Nat) (md : Nat) (er : Option Nat) (fo : Int32) (mm : Nat → Nat)  : Met l yX2_valuesShown wsX2_valuesShown ({ frames := 0, cells := 0, slots := 0, locals := 0 } : Room) (xPc G [.ref n0] (fun H => va_P G.1 vwCl [(n0, .inr (2, [.ref nv, .int (nI ev), .int (nI md), va_rf er, .int fo])), (nv, .inl (xcV G, 24, .inr (.inr (.inr (.inr vf)))))] H ∧ vVM G vf mm H)) (k2_QcV (.int (nI (sumN mm 24)))) 0 0 (fun _ => False) := by
  refine xMet (cc := cX2_valuesShown) (nL := 4) (ret := (some (.int))) (by decide) rfl (Nat.le_of_ble_eq_true rfl) ?_
  intro p e s m below meth c S hr hlk_ hnm hE hP ls hl
  obtain ⟨hx, hb, hml, hown, hts⟩ := id S
  have hown : s.vm.findClass RX2 = some m.cls := hown
  have hK := hE.1
  have hS : va_S (fun _ : Nat => False) s.heap s.heap [] := va_S.rf
  have hA : ∀ q, (fun _ : Nat => False) q → xB0 G ≤ q := fun _ h => h.elim
  obtain ⟨hP, hVM⟩ := hP
  have hP : va_P G.1 vwCl [(n0, .inr (2, [.ref nv, .int (nI ev), .int (nI md), va_rf er, .int fo])), (nv, .inl (xcV G, 24, .inr (.inr (.inr (.inr vf)))))] s.heap := hP
  have hl : lv_has ls 4 [(0, .ref n0)] := hl
  refine lv_iconst (v := nI 0) hx hb dX2_valuesShown_0 rfl ?_
  refine lv_istore_n (lv' := [(1, .int (nI 0)), (0, .ref n0)]) hx hb dX2_valuesShown_1 rfl hl (by decide) rfl (fun ls hl => ?_)
  refine lv_iconst (v := nI 0) hx hb dX2_valuesShown_2 rfl ?_
  refine lv_istore_n (lv' := [(2, .int (nI 0)), (1, .int (nI 0)), (0, .ref n0)]) hx hb dX2_valuesShown_3 rfl hl (by decide) rfl (fun ls hl => ?_)
  have hl : lv_has ls 4 [(2, .int (nI 0)), (1, .int (nI (sumN mm 0))), (0, .ref n0)] := lv_sub hl [0, 1, 2] rfl
  refine xloopR (σ := Nat) (C := (fun (x_ : Nat) ls => (x_ ≤ 24) ∧ lv_has ls 4 [(2, .int (nI x_)), (1, .int (nI (sumN mm x_))), (0, .ref n0)])) (μ := (fun (x_ : Nat) => 24 - x_)) (W' := fun ls => W p l e _ s m _ below meth c _ _ _ _ _ (F0 m 4 ls [])) ?_ 0 _ ⟨(by (try dsimp only); omega), hl⟩
  intro x_ ls hC ih_4
  obtain ⟨i, rfl⟩ : ∃ z, z = x_ := ⟨x_, rfl⟩
  obtain ⟨hi, hl⟩ := hC
  replace hi : i ≤ 24 := hi
  replace hl : lv_has ls 4 [(2, .int (nI i)), (1, .int (nI (sumN mm i))), (0, .ref n0)] := hl
  refine id ?_
  refine lv_iload_n hx hb dX2_valuesShown_4 rfl (lv_at hl 0 rfl) ?_
  refine lv_bipush (v := nI 24) hx hb dX2_valuesShown_5 (by decide) ?_
  refine n_icmp_ge (tgt := 38) hx hb (by omega) (by omega) dX2_valuesShown_7 (by decide) (fun c_7 => ?_) (fun c_7 => ?_)
  · refine lv_iload_n hx hb dX2_valuesShown_38 rfl (lv_at hl 1 rfl) ?_
    exact xret_i hx hb hr hlk_ dX2_valuesShown_39 (by rw [show i = 24 by omega])
  · refine lv_aload_n hx hb dX2_valuesShown_10 rfl (lv_at hl 2 rfl) ?_
    refine va_get (D := G.1) (ci := 2) (v := .ref nv) (C := RX2) (T := TX2) (N := 5) hx hb hts hi_X2_valuesShown_RX2 hown hK hP 0 rfl rfl 0 (by decide) (hts _ hw_X2_valuesShown_f11) (fun _ h9 => h9) rfl dX2_valuesShown_11 ?_
    refine lv_iload_n hx hb dX2_valuesShown_14 rfl (lv_at hl 0 rfl) ?_
    refine q_aald hx hb hK hP 1 2 rfl rfl (by omega) (by decide) dX2_valuesShown_15 ?_
    rcases hv : vf i with _ | q
    · refine W.eq (g2 := F0 m 16 ls [.null]) rfl ?_
      have hm0 : mm i = 0 := (hVM i c_7).elim (fun z => z.2) (fun ⟨_, _, _, _, z, _⟩ => by rw [hv] at z; cases z)
      refine lv_astore_nN (lv' := [(3, .null), (2, .int (nI i)), (1, .int (nI (sumN mm i))), (0, .ref n0)]) hx hb dX2_valuesShown_16 rfl hl (by decide) rfl (fun ls hl => ?_)
      refine lv_iload_n hx hb dX2_valuesShown_17 rfl (lv_at hl 2 rfl) ?_
      refine lv_aload_nN hx hb dX2_valuesShown_18 rfl (lv_at hl 0 rfl) ?_
      refine lv_ifnonnullN hx hb dX2_valuesShown_19 ?_
      refine lv_iconst (v := nI 0) hx hb dX2_valuesShown_22 rfl ?_
      refine n_top (y := nI (mm i)) (by rw [hm0]) ?_
      refine lv_goto (tgt := 30) hx hb dX2_valuesShown_23 (by decide) ?_
      refine n_iadd hx hb dX2_valuesShown_30 ?_
      refine lv_istore_n (lv' := [(1, .int (nI ((sumN mm i) + (mm i)))), (3, .null), (2, .int (nI i)), (0, .ref n0)]) hx hb dX2_valuesShown_31 rfl hl (by decide) rfl (fun ls hl => ?_)
      refine lv_iinc (v := nI (i + 1)) (lv' := [(2, .int (nI (i + 1))), (1, .int (nI ((sumN mm i) + (mm i)))), (3, .null), (0, .ref n0)]) hx hb dX2_valuesShown_32 hl (k := 2) rfl (nI_add i 1) (by decide) rfl (fun ls hl => ?_)
      refine lv_goto (tgt := 4) hx hb dX2_valuesShown_35 (by decide) ?_
      have hl : lv_has ls 4 [(2, .int (nI (i + 1))), (1, .int (nI (sumN mm (i + 1)))), (0, .ref n0)] := lv_sub hl [0, 1, 3] rfl
      exact ih_4 (i + 1) _ (by show 24 - (i + 1) < 24 - i; omega) ⟨(by (try dsimp only); omega), hl⟩
    · refine W.eq (g2 := F0 m 16 ls [.ref q]) rfl ?_
      obtain ⟨q2, ra, w, f, hv2, hV⟩ := (hVM i c_7).resolve_left (fun z => by rw [z.1] at hv; cases hv)
      obtain rfl : q2 = q := Option.some.inj (hv2.symm.trans hv)
      refine lv_astore_n (lv' := [(3, .ref q2), (2, .int (nI i)), (1, .int (nI (sumN mm i))), (0, .ref n0)]) hx hb dX2_valuesShown_16 rfl hl (by decide) rfl (fun ls hl => ?_)
      refine lv_iload_n hx hb dX2_valuesShown_17 rfl (lv_at hl 2 rfl) ?_
      refine lv_aload_n hx hb dX2_valuesShown_18 rfl (lv_at hl 0 rfl) ?_
      refine lv_ifnonnull (tgt := 26) hx hb dX2_valuesShown_19 (by decide) ?_
      refine lv_aload_n hx hb dX2_valuesShown_26 rfl (lv_at hl 0 rfl) ?_
      refine va_get (D := G.1) (ci := 4) (v := .int (nI (mm i))) (C := RX4) (T := TX4) (N := 4) hx hb hts hi_X2_valuesShown_RX4 hown hK hV 0 rfl rfl 3 (by decide) (hts _ hw_X2_valuesShown_f32) (fun _ h9 => h9) rfl dX2_valuesShown_27 ?_
      refine n_iadd hx hb dX2_valuesShown_30 ?_
      refine lv_istore_n (lv' := [(1, .int (nI ((sumN mm i) + (mm i)))), (3, .ref q2), (2, .int (nI i)), (0, .ref n0)]) hx hb dX2_valuesShown_31 rfl hl (by decide) rfl (fun ls hl => ?_)
      refine lv_iinc (v := nI (i + 1)) (lv' := [(2, .int (nI (i + 1))), (1, .int (nI ((sumN mm i) + (mm i)))), (3, .ref q2), (0, .ref n0)]) hx hb dX2_valuesShown_32 hl (k := 2) rfl (nI_add i 1) (by decide) rfl (fun ls hl => ?_)
      refine lv_goto (tgt := 4) hx hb dX2_valuesShown_35 (by decide) ?_
      have hl : lv_has ls 4 [(2, .int (nI (i + 1))), (1, .int (nI (sumN mm (i + 1)))), (0, .ref n0)] := lv_sub hl [0, 1, 3] rfl
      exact ih_4 (i + 1) _ (by show 24 - (i + 1) < 24 - i; omega) ⟨(by (try dsimp only); omega), hl⟩

theorem hw_X2_rowAt_f24 : Cond.fieldLink RX2 24 "TailVectors$State" "editRow" "LTailVectors$Row;" ∈ wsX2_rowAt := by decide +kernel
theorem hi_X2_rowAt_RX2 : ∀ w ∈ u_ws RX2 TX2 5, w ∈ wsX2_rowAt := by decide +kernel
theorem hw_X2_rowAt_f60 : Cond.fieldLink RX2 60 "TailVectors$View" "row" "LTailVectors$Row;" ∈ wsX2_rowAt := by decide +kernel
theorem hi_X2_rowAt_RX4 : ∀ w ∈ u_ws RX4 TX4 4, w ∈ wsX2_rowAt := by decide +kernel
set_option maxHeartbeats 4000000 in
set_option maxRecDepth 100000 in
theorem c_X2_rowAt (l : Launch) (G : xG) (n0 : Nat) (nv : Nat) (vf : Nat → Option Nat) (ev : Nat) (md : Nat) (er : Option Nat) (fo : Int32) (rr : Nat → Option Nat) (i : Nat) (hi24 : i ≤ 24) : Met l yX2_rowAt wsX2_rowAt ({ frames := 1, cells := 0, slots := 0, locals := 21 } : Room) (xPc G [.ref n0, .int (nI i)] (fun H => va_P G.1 vwCl [(n0, .inr (2, [.ref nv, .int (nI ev), .int (nI md), va_rf er, .int fo])), (nv, .inl (xcV G, 24, .inr (.inr (.inr (.inr vf)))))] H ∧ vPR G vf er rr H)) (k2_QcV (va_rf (rr i))) 0 0 (fun _ => False) := by
  refine xMet (cc := cX2_rowAt) (nL := 3) (ret := (some ((.object "TailVectors$Row")))) (by decide) rfl (Nat.le_of_ble_eq_true rfl) ?_
  intro p e s m below meth c S hr hlk_ hnm hE hP ls hl
  obtain ⟨hx, hb, hml, hown, hts⟩ := id S
  have hown : s.vm.findClass RX2 = some m.cls := hown
  have hK := hE.1
  have hS : va_S (fun _ : Nat => False) s.heap s.heap [] := va_S.rf
  have hA : ∀ q, (fun _ : Nat => False) q → xB0 G ≤ q := fun _ h => h.elim
  obtain ⟨hP, hPR⟩ := hP
  have hP : va_P G.1 vwCl [(n0, .inr (2, [.ref nv, .int (nI ev), .int (nI md), va_rf er, .int fo])), (nv, .inl (xcV G, 24, .inr (.inr (.inr (.inr vf)))))] s.heap := hP
  have hl : lv_has ls 3 [(0, .ref n0), (1, .int (nI i))] := hl
  refine lv_aload_n hx hb dX2_rowAt_0 rfl (lv_at hl 0 rfl) ?_
  refine lv_iload_n hx hb dX2_rowAt_1 rfl (lv_at hl 1 rfl) ?_
  refine xrd (xrunV (As := [.int (nI i)]) (rest := []) S (c_X2_viewOf_n l G n0 nv vf ev md er fo i (by omega)) (cwV 1 hts gX2_rowAt_X2_viewOf rfl rfl rfl (by decide +kernel) ⟨Nat.le_of_ble_eq_true rfl, Nat.le_of_ble_eq_true rfl⟩) hE hS hA 0 2 hP rfl rfl rfl hP rfl rfl hl.1 (Nat.le_of_ble_eq_true rfl) dX2_rowAt_2 ⟨Nat.le_of_ble_eq_true rfl, Nat.le_of_ble_eq_true rfl⟩) ?_
  rcases hv : vwN vf i with _ | q
  · refine W.eq (g2 := F0 m 5 ls [.null]) rfl ?_
    refine lv_astore_nN (lv' := [(2, .null), (0, .ref n0), (1, .int (nI i))]) hx hb dX2_rowAt_5 rfl hl (by decide) rfl (fun ls hl => ?_)
    refine lv_aload_nN hx hb dX2_rowAt_6 rfl (lv_at hl 0 rfl) ?_
    refine lv_ifnullN (tgt := 15) hx hb dX2_rowAt_7 (by decide) ?_
    refine lv_iload_n hx hb dX2_rowAt_15 rfl (lv_at hl 2 rfl) ?_
    refine lv_bipush (v := nI 24) hx hb dX2_rowAt_16 (by decide) ?_
    refine n_icmp_ne (tgt := 28) hx hb (by omega) (by omega) dX2_rowAt_18 (by decide) (fun c_18 => ?_) (fun c_18 => ?_)
    · refine lv_null hx hb dX2_rowAt_28 ?_
      exact xret_a hx hb hr hlk_ dX2_rowAt_29 (Or.inl rfl) (by rw [((hPR.1 i (by omega)).resolve_right (fun ⟨_, _, _, _, _, z, _⟩ => by rw [vwN, if_pos (by omega)] at hv; rw [hv] at z; cases z)).2]; rfl)
    · refine lv_aload_n hx hb dX2_rowAt_21 rfl (lv_at hl 1 rfl) ?_
      refine va_get (D := G.1) (ci := 2) (v := va_rf er) (C := RX2) (T := TX2) (N := 5) hx hb hts hi_X2_rowAt_RX2 hown hK hP 0 rfl rfl 3 (by decide) (hts _ hw_X2_rowAt_f24) (fun _ h9 => h9) rfl dX2_rowAt_22 ?_
      refine lv_goto (tgt := 29) hx hb dX2_rowAt_25 (by decide) ?_
      exact xret_a hx hb hr hlk_ dX2_rowAt_29 (va_rf_or _) (by subst c_18; rw [hPR.2])
  · refine W.eq (g2 := F0 m 5 ls [.ref q]) rfl ?_
    have hi9 : i < 24 := by unfold vwN at hv; split at hv; assumption; cases hv
    rw [vwN, if_pos hi9] at hv
    obtain ⟨q2, ra, w, f, m9, hv2, hrr, hV⟩ := (hPR.1 i hi9).resolve_left (fun z => by rw [z.1] at hv; cases hv)
    obtain rfl : q2 = q := Option.some.inj (hv2.symm.trans hv)
    refine lv_astore_n (lv' := [(2, .ref q2), (0, .ref n0), (1, .int (nI i))]) hx hb dX2_rowAt_5 rfl hl (by decide) rfl (fun ls hl => ?_)
    refine lv_aload_n hx hb dX2_rowAt_6 rfl (lv_at hl 0 rfl) ?_
    refine lv_ifnull hx hb dX2_rowAt_7 ?_
    refine lv_aload_n hx hb dX2_rowAt_10 rfl (lv_at hl 0 rfl) ?_
    refine va_get (D := G.1) (ci := 4) (v := .ref ra) (C := RX4) (T := TX4) (N := 4) hx hb hts hi_X2_rowAt_RX4 hown hK hV 0 rfl rfl 0 (by decide) (hts _ hw_X2_rowAt_f60) (fun _ h9 => h9) rfl dX2_rowAt_11 ?_
    exact xret_a hx hb hr hlk_ dX2_rowAt_14 (Or.inr ⟨_, rfl⟩) (by rw [hrr]; rfl)

set_option maxHeartbeats 4000000 in
set_option maxRecDepth 100000 in
theorem c_X2_isInOne (l : Launch) (G : xG) (n0 : Nat) (nv : Nat) (vf : Nat → Option Nat) (ev : Nat) (md : Nat) (er : Option Nat) (fo : Int32) (rr : Nat → Option Nat) (B : List Nat) (rs : Nat → Option Rw) (n : Nat) (j : Nat) (x : Int32) (hn25 : n ≤ 25) (hj101 : j < 101) : Met l yX2_isInOne wsX2_isInOne ({ frames := 2, cells := 0, slots := 0, locals := 43 } : Room) (xPc G [.ref n0, .int (nI n), .int (nI j), .int x] (fun H => va_P G.1 vwCl [(n0, .inr (2, [.ref nv, .int (nI ev), .int (nI md), va_rf er, .int fo])), (nv, .inl (xcV G, 24, .inr (.inr (.inr (.inr vf)))))] H ∧ vPR G vf er rr H ∧ vRS G B rr rs H)) (k2_QcV (.int (bI (inOne rs n j x)))) 0 0 (fun _ => False) := by
  refine xMet (cc := cX2_isInOne) (nL := 6) (ret := (some (.boolean))) (by decide) rfl (Nat.le_of_ble_eq_true rfl) ?_
  intro p e s m below meth c S hr hlk_ hnm hE hP ls hl
  obtain ⟨hx, hb, hml, hown, hts⟩ := id S
  have hown : s.vm.findClass RX2 = some m.cls := hown
  have hK := hE.1
  have hS : va_S (fun _ : Nat => False) s.heap s.heap [] := va_S.rf
  have hA : ∀ q, (fun _ : Nat => False) q → xB0 G ≤ q := fun _ h => h.elim
  obtain ⟨hP, hPR, hRS⟩ := hP
  have hP : va_P G.1 vwCl [(n0, .inr (2, [.ref nv, .int (nI ev), .int (nI md), va_rf er, .int fo])), (nv, .inl (xcV G, 24, .inr (.inr (.inr (.inr vf)))))] s.heap := hP
  have hl : lv_has ls 6 [(0, .ref n0), (1, .int (nI n)), (2, .int (nI j)), (3, .int x)] := hl
  refine lv_iconst (v := nI 0) hx hb dX2_isInOne_0 rfl ?_
  refine lv_istore (lv' := [(4, .int (nI 0)), (0, .ref n0), (1, .int (nI n)), (2, .int (nI j)), (3, .int x)]) hx hb dX2_isInOne_1 hl (by decide) rfl (fun ls hl => ?_)
  have hl : lv_has ls 6 [(4, .int (nI 0)), (0, .ref n0), (1, .int (nI n)), (2, .int (nI j)), (3, .int x)] := lv_sub hl [0, 1, 2, 3, 4] rfl
  refine xloopR (σ := Nat) (C := (fun (x_ : Nat) ls => (x_ ≤ n) ∧ (¬ inOne rs x_ j x) ∧ lv_has ls 6 [(4, .int (nI x_)), (0, .ref n0), (1, .int (nI n)), (2, .int (nI j)), (3, .int x)])) (μ := (fun (x_ : Nat) => n - x_)) (W' := fun ls => W p l e _ s m _ below meth c _ _ _ _ _ (F0 m 3 ls [])) ?_ 0 _ ⟨(Nat.zero_le _), (fun ⟨a, ha, _⟩ => absurd ha (Nat.not_lt_zero _)), hl⟩
  intro x_ ls hC ih_3
  obtain ⟨i, rfl⟩ : ∃ z, z = x_ := ⟨x_, rfl⟩
  obtain ⟨hi, ho, hl⟩ := hC
  replace hi : i ≤ n := hi
  replace ho : ¬ inOne rs i j x := ho
  replace hl : lv_has ls 6 [(4, .int (nI i)), (0, .ref n0), (1, .int (nI n)), (2, .int (nI j)), (3, .int x)] := hl
  refine id ?_
  refine lv_iload hx hb dX2_isInOne_3 (lv_at hl 0 rfl) ?_
  refine lv_iload_n hx hb dX2_isInOne_5 rfl (lv_at hl 2 rfl) ?_
  refine n_icmp_ge (tgt := 40) hx hb (by omega) (by omega) dX2_isInOne_6 (by decide) (fun c_6 => ?_) (fun c_6 => ?_)
  · refine lv_iconst (v := nI 0) hx hb dX2_isInOne_40 rfl ?_
    exact xret_z hx hb hr hlk_ dX2_isInOne_41 (by first | exact Or.inl rfl | exact Or.inr rfl) (xb0 (by rw [show n = i by omega]; exact ho))
  · refine lv_aload_n hx hb dX2_isInOne_9 rfl (lv_at hl 1 rfl) ?_
    refine lv_iload hx hb dX2_isInOne_10 (lv_at hl 0 rfl) ?_
    refine xrd (xrunV (As := [.int (nI i)]) (rest := []) S (c_X2_rowAt l G n0 nv vf ev md er fo rr i (by omega)) (cwV 1 hts gX2_isInOne_X2_rowAt rfl rfl rfl (by decide +kernel) ⟨Nat.le_of_ble_eq_true rfl, Nat.le_of_ble_eq_true rfl⟩) hE hS hA 0 2 hP rfl rfl rfl ⟨hP, hPR⟩ rfl rfl hl.1 (Nat.le_of_ble_eq_true rfl) dX2_isInOne_12 ⟨Nat.le_of_ble_eq_true rfl, Nat.le_of_ble_eq_true rfl⟩) ?_
    rcases hv : rr i with _ | ra
    · refine W.eq (g2 := F0 m 15 ls [.null]) rfl ?_
      have hrs : rs i = none := (hRS i (by omega)).elim (fun z => z.2) (fun ⟨_, _, z, _⟩ => by rw [hv] at z; cases z)
      refine lv_astoreN (lv' := [(5, .null), (4, .int (nI i)), (0, .ref n0), (1, .int (nI n)), (2, .int (nI j)), (3, .int x)]) hx hb dX2_isInOne_15 hl (by decide) rfl (fun ls hl => ?_)
      refine lv_aloadN hx hb dX2_isInOne_17 (lv_at hl 0 rfl) ?_
      refine lv_ifnullN (tgt := 34) hx hb dX2_isInOne_19 (by decide) ?_
      refine lv_iinc (v := nI (i + 1)) (lv' := [(4, .int (nI (i + 1))), (5, .null), (0, .ref n0), (1, .int (nI n)), (2, .int (nI j)), (3, .int x)]) hx hb dX2_isInOne_34 hl (k := 1) rfl (nI_add i 1) (by decide) rfl (fun ls hl => ?_)
      refine lv_goto (tgt := 3) hx hb dX2_isInOne_37 (by decide) ?_
      have hl : lv_has ls 6 [(4, .int (nI (i + 1))), (0, .ref n0), (1, .int (nI n)), (2, .int (nI j)), (3, .int x)] := lv_sub hl [0, 2, 3, 4, 5] rfl
      exact ih_3 (i + 1) _ (by show n - (i + 1) < n - i; omega) ⟨(by omega), (fun ⟨a, ha, b, hb, hc⟩ => (Nat.lt_succ_iff_lt_or_eq.mp ha).elim (fun h => ho ⟨a, h, b, hb, hc⟩) (fun h => by subst h; rw [hrs] at hb; cases hb)), hl⟩
    · refine W.eq (g2 := F0 m 15 ls [.ref ra]) rfl ?_
      obtain ⟨ra2, r, hv2, hrs, va, na, hb3, hR⟩ := (hRS i (by omega)).resolve_left (fun z => by rw [z.1] at hv; cases hv)
      obtain rfl : ra2 = ra := Option.some.inj (hv2.symm.trans hv)
      refine lv_astore (lv' := [(5, .ref ra2), (4, .int (nI i)), (0, .ref n0), (1, .int (nI n)), (2, .int (nI j)), (3, .int x)]) hx hb dX2_isInOne_15 hl (by decide) rfl (fun ls hl => ?_)
      refine lv_aload hx hb dX2_isInOne_17 (lv_at hl 0 rfl) ?_
      refine lv_ifnull hx hb dX2_isInOne_19 ?_
      refine lv_aload hx hb dX2_isInOne_22 (lv_at hl 0 rfl) ?_
      refine lv_iload_n hx hb dX2_isInOne_24 rfl (lv_at hl 4 rfl) ?_
      refine lv_iload_n hx hb dX2_isInOne_25 rfl (lv_at hl 5 rfl) ?_
      refine xrd (xrunV (As := [.int (nI j), .int x]) (rest := []) S (c_X1_has l G ra2 va na r.1 r.2.1 r.2.2.1 r.2.2.2 j x hj101) (cwV 2 hts gX2_isInOne_X1_has rfl rfl rfl (by decide +kernel) ⟨Nat.le_of_ble_eq_true rfl, Nat.le_of_ble_eq_true rfl⟩) hE hS hA 0 1 hR rfl rfl rfl hR rfl rfl hl.1 (Nat.le_of_ble_eq_true rfl) dX2_isInOne_26 ⟨Nat.le_of_ble_eq_true rfl, Nat.le_of_ble_eq_true rfl⟩) ?_
      refine b_if_eq (tgt := 34) hx hb dX2_isInOne_29 (by decide) (fun c_29 => ?_) (fun c_29 => ?_)
      · refine lv_iinc (v := nI (i + 1)) (lv' := [(4, .int (nI (i + 1))), (5, .ref ra2), (0, .ref n0), (1, .int (nI n)), (2, .int (nI j)), (3, .int x)]) hx hb dX2_isInOne_34 hl (k := 1) rfl (nI_add i 1) (by decide) rfl (fun ls hl => ?_)
        refine lv_goto (tgt := 3) hx hb dX2_isInOne_37 (by decide) ?_
        have hl : lv_has ls 6 [(4, .int (nI (i + 1))), (0, .ref n0), (1, .int (nI n)), (2, .int (nI j)), (3, .int x)] := lv_sub hl [0, 2, 3, 4, 5] rfl
        exact ih_3 (i + 1) _ (by show n - (i + 1) < n - i; omega) ⟨(by omega), (fun ⟨a, ha, b, hb, hc⟩ => (Nat.lt_succ_iff_lt_or_eq.mp ha).elim (fun h => ho ⟨a, h, b, hb, hc⟩) (fun h => by subst h; rw [hrs] at hb; cases hb; exact c_29 hc)), hl⟩
      · refine lv_iconst (v := nI 1) hx hb dX2_isInOne_32 rfl ?_
        exact xret_z hx hb hr hlk_ dX2_isInOne_33 (by first | exact Or.inl rfl | exact Or.inr rfl) (xb1 ⟨i, c_6, r, hrs, c_29⟩)

theorem hw_X2_blocksNotIn_f70 : Cond.fieldLink RX2 70 "TailVectors$Row" "numbers" "[I" ∈ wsX2_blocksNotIn := by decide +kernel
theorem hi_X2_blocksNotIn_RX1 : ∀ w ∈ u_ws RX1 TX1 3, w ∈ wsX2_blocksNotIn := by decide +kernel
set_option maxHeartbeats 4000000 in
set_option maxRecDepth 100000 in
theorem c_X2_blocksNotIn (l : Launch) (G : xG) (n0 : Nat) (nv : Nat) (vf : Nat → Option Nat) (ev : Nat) (md : Nat) (er : Option Nat) (fo : Int32) (rr : Nat → Option Nat) (B : List Nat) (rs : Nat → Option Rw) (n : Nat) (rx : Nat) (vx : Nat) (nx : Nat) (r : Rw) (hn25 : n ≤ 25) : Met l yX2_blocksNotIn wsX2_blocksNotIn ({ frames := 3, cells := 0, slots := 0, locals := 68 } : Room) (xPc G [.ref n0, .int (nI n), .ref rx] (fun H => va_P G.1 vwCl [(n0, .inr (2, [.ref nv, .int (nI ev), .int (nI md), va_rf er, .int fo])), (nv, .inl (xcV G, 24, .inr (.inr (.inr (.inr vf)))))] H ∧ vPR G vf er rr H ∧ vRS G B rr rs H ∧ va_P G.1 vwCl (rowW G rx vx nx r) H)) (k2_QcV (.int (nI (biN rs n r.2.2.1)))) 0 0 (fun _ => False) := by
  refine xMet (cc := cX2_blocksNotIn) (nL := 6) (ret := (some (.int))) (by decide) rfl (Nat.le_of_ble_eq_true rfl) ?_
  intro p e s m below meth c S hr hlk_ hnm hE hP ls hl
  obtain ⟨hx, hb, hml, hown, hts⟩ := id S
  have hown : s.vm.findClass RX2 = some m.cls := hown
  have hK := hE.1
  have hS : va_S (fun _ : Nat => False) s.heap s.heap [] := va_S.rf
  have hA : ∀ q, (fun _ : Nat => False) q → xB0 G ≤ q := fun _ h => h.elim
  obtain ⟨hP, hPR, hRS, hRx⟩ := hP
  have hRx : va_P G.1 vwCl [(rx, .inr (1, [.ref vx, .ref nx, .int (nI r.2.2.2)])), (vx, .inl (xcI G, r.1, .inl r.2.1)), (nx, .inl (xcI G, 101, .inl r.2.2.1))] s.heap := hRx
  have hP : va_P G.1 vwCl [(n0, .inr (2, [.ref nv, .int (nI ev), .int (nI md), va_rf er, .int fo])), (nv, .inl (xcV G, 24, .inr (.inr (.inr (.inr vf)))))] s.heap := hP
  have hl : lv_has ls 6 [(0, .ref n0), (1, .int (nI n)), (2, .ref rx)] := hl
  refine lv_iconst (v := nI 0) hx hb dX2_blocksNotIn_0 rfl ?_
  refine lv_istore_n (lv' := [(3, .int (nI 0)), (0, .ref n0), (1, .int (nI n)), (2, .ref rx)]) hx hb dX2_blocksNotIn_1 rfl hl (by decide) rfl (fun ls hl => ?_)
  refine lv_iconst (v := nI 0) hx hb dX2_blocksNotIn_2 rfl ?_
  refine lv_istore (lv' := [(4, .int (nI 0)), (3, .int (nI 0)), (0, .ref n0), (1, .int (nI n)), (2, .ref rx)]) hx hb dX2_blocksNotIn_3 hl (by decide) rfl (fun ls hl => ?_)
  have hl : lv_has ls 6 [(4, .int (nI 0)), (3, .int (nI (sumN (fun z => bN (0 ≤ r.2.2.1 z ∧ ¬ inOne rs n z (r.2.2.1 z))) 0))), (0, .ref n0), (1, .int (nI n)), (2, .ref rx)] := lv_sub hl [0, 1, 2, 3, 4] rfl
  refine xloopR (σ := Nat) (C := (fun (x_ : Nat) ls => (x_ ≤ 101) ∧ lv_has ls 6 [(4, .int (nI x_)), (3, .int (nI (sumN (fun z => bN (0 ≤ r.2.2.1 z ∧ ¬ inOne rs n z (r.2.2.1 z))) x_))), (0, .ref n0), (1, .int (nI n)), (2, .ref rx)])) (μ := (fun (x_ : Nat) => 101 - x_)) (W' := fun ls => W p l e _ s m _ below meth c _ _ _ _ _ (F0 m 5 ls [])) ?_ 0 _ ⟨(by (try dsimp only); omega), hl⟩
  intro x_ ls hC ih_5
  obtain ⟨j, rfl⟩ : ∃ z, z = x_ := ⟨x_, rfl⟩
  obtain ⟨hj, hl⟩ := hC
  replace hj : j ≤ 101 := hj
  replace hl : lv_has ls 6 [(4, .int (nI j)), (3, .int (nI (sumN (fun z => bN (0 ≤ r.2.2.1 z ∧ ¬ inOne rs n z (r.2.2.1 z))) j))), (0, .ref n0), (1, .int (nI n)), (2, .ref rx)] := hl
  refine id ?_
  refine lv_iload hx hb dX2_blocksNotIn_5 (lv_at hl 0 rfl) ?_
  refine lv_bipush (v := nI 101) hx hb dX2_blocksNotIn_7 (by decide) ?_
  refine n_icmp_ge (tgt := 47) hx hb (by omega) (by omega) dX2_blocksNotIn_9 (by decide) (fun c_9 => ?_) (fun c_9 => ?_)
  · refine lv_iload_n hx hb dX2_blocksNotIn_47 rfl (lv_at hl 1 rfl) ?_
    exact xret_i hx hb hr hlk_ dX2_blocksNotIn_48 (by rw [biN, show j = 101 by omega])
  · refine lv_aload_n hx hb dX2_blocksNotIn_12 rfl (lv_at hl 4 rfl) ?_
    refine va_get (D := G.1) (ci := 1) (v := .ref nx) (C := RX1) (T := TX1) (N := 3) hx hb hts hi_X2_blocksNotIn_RX1 hown hK hRx 0 rfl rfl 1 (by decide) (hts _ hw_X2_blocksNotIn_f70) (fun _ h9 => h9) rfl dX2_blocksNotIn_13 ?_
    refine lv_iload hx hb dX2_blocksNotIn_16 (lv_at hl 0 rfl) ?_
    refine i_iald hx hb hK hRx 2 0 rfl rfl (by omega) (by decide) dX2_blocksNotIn_18 ?_
    refine lv_istore (lv' := [(5, .int (r.2.2.1 j)), (4, .int (nI j)), (3, .int (nI (sumN (fun z => bN (0 ≤ r.2.2.1 z ∧ ¬ inOne rs n z (r.2.2.1 z))) j))), (0, .ref n0), (1, .int (nI n)), (2, .ref rx)]) hx hb dX2_blocksNotIn_19 hl (by decide) rfl (fun ls hl => ?_)
    refine lv_iload hx hb dX2_blocksNotIn_21 (lv_at hl 0 rfl) ?_
    refine lv_if_lt (tgt := 41) hx hb dX2_blocksNotIn_23 (by decide) (fun c_23 => ?_) (fun c_23 => ?_)
    · refine lv_iinc (v := nI (j + 1)) (lv' := [(4, .int (nI (j + 1))), (5, .int (r.2.2.1 j)), (3, .int (nI (sumN (fun z => bN (0 ≤ r.2.2.1 z ∧ ¬ inOne rs n z (r.2.2.1 z))) j))), (0, .ref n0), (1, .int (nI n)), (2, .ref rx)]) hx hb dX2_blocksNotIn_41 hl (k := 1) rfl (nI_add j 1) (by decide) rfl (fun ls hl => ?_)
      refine lv_goto (tgt := 5) hx hb dX2_blocksNotIn_44 (by decide) ?_
      rw [sumB_f (Q := fun z => 0 ≤ r.2.2.1 z ∧ ¬ inOne rs n z (r.2.2.1 z)) (fun z => le_ge32 c_23 z.1)] at hl
      have hl : lv_has ls 6 [(4, .int (nI (j + 1))), (3, .int (nI (sumN (fun z => bN (0 ≤ r.2.2.1 z ∧ ¬ inOne rs n z (r.2.2.1 z))) (j + 1)))), (0, .ref n0), (1, .int (nI n)), (2, .ref rx)] := lv_sub hl [0, 2, 3, 4, 5] rfl
      exact ih_5 (j + 1) _ (by show 101 - (j + 1) < 101 - j; omega) ⟨(by (try dsimp only); omega), hl⟩
    · refine lv_aload_n hx hb dX2_blocksNotIn_26 rfl (lv_at hl 3 rfl) ?_
      refine lv_iload_n hx hb dX2_blocksNotIn_27 rfl (lv_at hl 4 rfl) ?_
      refine lv_iload hx hb dX2_blocksNotIn_28 (lv_at hl 1 rfl) ?_
      refine lv_iload hx hb dX2_blocksNotIn_30 (lv_at hl 0 rfl) ?_
      refine xrd (xrunV (As := [.int (nI n), .int (nI j), .int (r.2.2.1 j)]) (rest := []) S (c_X2_isInOne l G n0 nv vf ev md er fo rr B rs n j (r.2.2.1 j) (by omega) (by omega)) (cwV 3 hts gX2_blocksNotIn_X2_isInOne rfl rfl rfl (by decide +kernel) ⟨Nat.le_of_ble_eq_true rfl, Nat.le_of_ble_eq_true rfl⟩) hE hS hA 0 2 hP rfl rfl rfl ⟨hP, hPR, hRS⟩ rfl rfl hl.1 (Nat.le_of_ble_eq_true rfl) dX2_blocksNotIn_32 ⟨Nat.le_of_ble_eq_true rfl, Nat.le_of_ble_eq_true rfl⟩) ?_
      refine b_if_ne (tgt := 41) hx hb dX2_blocksNotIn_35 (by decide) (fun c_35 => ?_) (fun c_35 => ?_)
      · refine lv_iinc (v := nI (j + 1)) (lv' := [(4, .int (nI (j + 1))), (5, .int (r.2.2.1 j)), (3, .int (nI (sumN (fun z => bN (0 ≤ r.2.2.1 z ∧ ¬ inOne rs n z (r.2.2.1 z))) j))), (0, .ref n0), (1, .int (nI n)), (2, .ref rx)]) hx hb dX2_blocksNotIn_41 hl (k := 1) rfl (nI_add j 1) (by decide) rfl (fun ls hl => ?_)
        refine lv_goto (tgt := 5) hx hb dX2_blocksNotIn_44 (by decide) ?_
        rw [sumB_f (Q := fun z => 0 ≤ r.2.2.1 z ∧ ¬ inOne rs n z (r.2.2.1 z)) (fun z => z.2 c_35)] at hl
        have hl : lv_has ls 6 [(4, .int (nI (j + 1))), (3, .int (nI (sumN (fun z => bN (0 ≤ r.2.2.1 z ∧ ¬ inOne rs n z (r.2.2.1 z))) (j + 1)))), (0, .ref n0), (1, .int (nI n)), (2, .ref rx)] := lv_sub hl [0, 2, 3, 4, 5] rfl
        exact ih_5 (j + 1) _ (by show 101 - (j + 1) < 101 - j; omega) ⟨(by (try dsimp only); omega), hl⟩
      · refine lv_iinc (v := nI (sumN (fun z => bN (0 ≤ r.2.2.1 z ∧ ¬ inOne rs n z (r.2.2.1 z))) j + 1)) (lv' := [(3, .int (nI (sumN (fun z => bN (0 ≤ r.2.2.1 z ∧ ¬ inOne rs n z (r.2.2.1 z))) j + 1))), (5, .int (r.2.2.1 j)), (4, .int (nI j)), (0, .ref n0), (1, .int (nI n)), (2, .ref rx)]) hx hb dX2_blocksNotIn_38 hl (k := 2) rfl (nI_add (sumN (fun z => bN (0 ≤ r.2.2.1 z ∧ ¬ inOne rs n z (r.2.2.1 z))) j) 1) (by decide) rfl (fun ls hl => ?_)
        refine lv_iinc (v := nI (j + 1)) (lv' := [(4, .int (nI (j + 1))), (3, .int (nI (sumN (fun z => bN (0 ≤ r.2.2.1 z ∧ ¬ inOne rs n z (r.2.2.1 z))) j + 1))), (5, .int (r.2.2.1 j)), (0, .ref n0), (1, .int (nI n)), (2, .ref rx)]) hx hb dX2_blocksNotIn_41 hl (k := 2) rfl (nI_add j 1) (by decide) rfl (fun ls hl => ?_)
        refine lv_goto (tgt := 5) hx hb dX2_blocksNotIn_44 (by decide) ?_
        rw [sumB_t (Q := fun z => 0 ≤ r.2.2.1 z ∧ ¬ inOne rs n z (r.2.2.1 z)) ⟨Int32.not_lt.mp c_23, c_35⟩] at hl
        have hl : lv_has ls 6 [(4, .int (nI (j + 1))), (3, .int (nI (sumN (fun z => bN (0 ≤ r.2.2.1 z ∧ ¬ inOne rs n z (r.2.2.1 z))) (j + 1)))), (0, .ref n0), (1, .int (nI n)), (2, .ref rx)] := lv_sub hl [0, 1, 3, 4, 5] rfl
        exact ih_5 (j + 1) _ (by show 101 - (j + 1) < 101 - j; omega) ⟨(by (try dsimp only); omega), hl⟩

set_option maxHeartbeats 4000000 in
set_option maxRecDepth 100000 in
theorem c_X2_blocksInUse (l : Launch) (G : xG) (n0 : Nat) (nv : Nat) (vf : Nat → Option Nat) (ev : Nat) (md : Nat) (er : Option Nat) (fo : Int32) (rr : Nat → Option Nat) (B : List Nat) (rs : Nat → Option Rw)  : Met l yX2_blocksInUse wsX2_blocksInUse ({ frames := 4, cells := 0, slots := 0, locals := 93 } : Room) (xPc G [.ref n0] (fun H => va_P G.1 vwCl [(n0, .inr (2, [.ref nv, .int (nI ev), .int (nI md), va_rf er, .int fo])), (nv, .inl (xcV G, 24, .inr (.inr (.inr (.inr vf)))))] H ∧ vPR G vf er rr H ∧ vRS G B rr rs H)) (k2_QcV (.int (nI (sumN (biU rs) 25)))) 0 0 (fun _ => False) := by
  refine xMet (cc := cX2_blocksInUse) (nL := 4) (ret := (some (.int))) (by decide) rfl (Nat.le_of_ble_eq_true rfl) ?_
  intro p e s m below meth c S hr hlk_ hnm hE hP ls hl
  obtain ⟨hx, hb, hml, hown, hts⟩ := id S
  have hown : s.vm.findClass RX2 = some m.cls := hown
  have hK := hE.1
  have hS : va_S (fun _ : Nat => False) s.heap s.heap [] := va_S.rf
  have hA : ∀ q, (fun _ : Nat => False) q → xB0 G ≤ q := fun _ h => h.elim
  obtain ⟨hP, hPR, hRS⟩ := hP
  have hP : va_P G.1 vwCl [(n0, .inr (2, [.ref nv, .int (nI ev), .int (nI md), va_rf er, .int fo])), (nv, .inl (xcV G, 24, .inr (.inr (.inr (.inr vf)))))] s.heap := hP
  have hl : lv_has ls 4 [(0, .ref n0)] := hl
  refine lv_iconst (v := nI 0) hx hb dX2_blocksInUse_0 rfl ?_
  refine lv_istore_n (lv' := [(1, .int (nI 0)), (0, .ref n0)]) hx hb dX2_blocksInUse_1 rfl hl (by decide) rfl (fun ls hl => ?_)
  refine lv_iconst (v := nI 0) hx hb dX2_blocksInUse_2 rfl ?_
  refine lv_istore_n (lv' := [(2, .int (nI 0)), (1, .int (nI 0)), (0, .ref n0)]) hx hb dX2_blocksInUse_3 rfl hl (by decide) rfl (fun ls hl => ?_)
  have hl : lv_has ls 4 [(2, .int (nI 0)), (1, .int (nI (sumN (biU rs) 0))), (0, .ref n0)] := lv_sub hl [0, 1, 2] rfl
  refine xloopR (σ := Nat) (C := (fun (x_ : Nat) ls => (x_ ≤ 25) ∧ lv_has ls 4 [(2, .int (nI x_)), (1, .int (nI (sumN (biU rs) x_))), (0, .ref n0)])) (μ := (fun (x_ : Nat) => 25 - x_)) (W' := fun ls => W p l e _ s m _ below meth c _ _ _ _ _ (F0 m 4 ls [])) ?_ 0 _ ⟨(by (try dsimp only); omega), hl⟩
  intro x_ ls hC ih_4
  obtain ⟨i, rfl⟩ : ∃ z, z = x_ := ⟨x_, rfl⟩
  obtain ⟨hi, hl⟩ := hC
  replace hi : i ≤ 25 := hi
  replace hl : lv_has ls 4 [(2, .int (nI i)), (1, .int (nI (sumN (biU rs) i))), (0, .ref n0)] := hl
  refine id ?_
  refine lv_iload_n hx hb dX2_blocksInUse_4 rfl (lv_at hl 0 rfl) ?_
  refine lv_bipush (v := nI 24) hx hb dX2_blocksInUse_5 (by decide) ?_
  refine n_icmp_gt (tgt := 39) hx hb (by omega) (by omega) dX2_blocksInUse_7 (by decide) (fun c_7 => ?_) (fun c_7 => ?_)
  · refine lv_iload_n hx hb dX2_blocksInUse_39 rfl (lv_at hl 1 rfl) ?_
    exact xret_i hx hb hr hlk_ dX2_blocksInUse_40 (by rw [show i = 25 by omega])
  · refine lv_aload_n hx hb dX2_blocksInUse_10 rfl (lv_at hl 2 rfl) ?_
    refine lv_iload_n hx hb dX2_blocksInUse_11 rfl (lv_at hl 0 rfl) ?_
    refine xrd (xrunV (As := [.int (nI i)]) (rest := []) S (c_X2_rowAt l G n0 nv vf ev md er fo rr i (by omega)) (cwV 1 hts gX2_blocksInUse_X2_rowAt rfl rfl rfl (by decide +kernel) ⟨Nat.le_of_ble_eq_true rfl, Nat.le_of_ble_eq_true rfl⟩) hE hS hA 0 2 hP rfl rfl rfl ⟨hP, hPR⟩ rfl rfl hl.1 (Nat.le_of_ble_eq_true rfl) dX2_blocksInUse_12 ⟨Nat.le_of_ble_eq_true rfl, Nat.le_of_ble_eq_true rfl⟩) ?_
    rcases hv : rr i with _ | ra
    · refine W.eq (g2 := F0 m 15 ls [.null]) rfl ?_
      have hrs : rs i = none := (hRS i (by omega)).elim (fun z => z.2) (fun ⟨_, _, z, _⟩ => by rw [hv] at z; cases z)
      refine lv_astore_nN (lv' := [(3, .null), (2, .int (nI i)), (1, .int (nI (sumN (biU rs) i))), (0, .ref n0)]) hx hb dX2_blocksInUse_15 rfl hl (by decide) rfl (fun ls hl => ?_)
      refine lv_iload_n hx hb dX2_blocksInUse_16 rfl (lv_at hl 2 rfl) ?_
      refine lv_aload_nN hx hb dX2_blocksInUse_17 rfl (lv_at hl 0 rfl) ?_
      refine lv_ifnonnullN hx hb dX2_blocksInUse_18 ?_
      refine lv_iconst (v := nI 0) hx hb dX2_blocksInUse_21 rfl ?_
      refine lv_goto (tgt := 31) hx hb dX2_blocksInUse_22 (by decide) ?_
      refine n_top (y := nI (biU rs i)) (by rw [biU, hrs]) ?_
      refine n_iadd hx hb dX2_blocksInUse_31 ?_
      refine lv_istore_n (lv' := [(1, .int (nI ((sumN (biU rs) i) + (biU rs i)))), (3, .null), (2, .int (nI i)), (0, .ref n0)]) hx hb dX2_blocksInUse_32 rfl hl (by decide) rfl (fun ls hl => ?_)
      refine lv_iinc (v := nI (i + 1)) (lv' := [(2, .int (nI (i + 1))), (1, .int (nI ((sumN (biU rs) i) + (biU rs i)))), (3, .null), (0, .ref n0)]) hx hb dX2_blocksInUse_33 hl (k := 2) rfl (nI_add i 1) (by decide) rfl (fun ls hl => ?_)
      refine lv_goto (tgt := 4) hx hb dX2_blocksInUse_36 (by decide) ?_
      have hl : lv_has ls 4 [(2, .int (nI (i + 1))), (1, .int (nI (sumN (biU rs) (i + 1)))), (0, .ref n0)] := lv_sub hl [0, 1, 3] rfl
      exact ih_4 (i + 1) _ (by show 25 - (i + 1) < 25 - i; omega) ⟨(by (try dsimp only); omega), hl⟩
    · refine W.eq (g2 := F0 m 15 ls [.ref ra]) rfl ?_
      obtain ⟨ra2, r, hv2, hrs, va, na, hb3, hR⟩ := (hRS i (by omega)).resolve_left (fun z => by rw [z.1] at hv; cases hv)
      obtain rfl : ra2 = ra := Option.some.inj (hv2.symm.trans hv)
      refine lv_astore_n (lv' := [(3, .ref ra2), (2, .int (nI i)), (1, .int (nI (sumN (biU rs) i))), (0, .ref n0)]) hx hb dX2_blocksInUse_15 rfl hl (by decide) rfl (fun ls hl => ?_)
      refine lv_iload_n hx hb dX2_blocksInUse_16 rfl (lv_at hl 2 rfl) ?_
      refine lv_aload_n hx hb dX2_blocksInUse_17 rfl (lv_at hl 0 rfl) ?_
      refine lv_ifnonnull (tgt := 25) hx hb dX2_blocksInUse_18 (by decide) ?_
      refine lv_aload_n hx hb dX2_blocksInUse_25 rfl (lv_at hl 3 rfl) ?_
      refine lv_iload_n hx hb dX2_blocksInUse_26 rfl (lv_at hl 1 rfl) ?_
      refine lv_aload_n hx hb dX2_blocksInUse_27 rfl (lv_at hl 0 rfl) ?_
      refine xrd (xrunV (As := [.int (nI i), .ref ra2]) (rest := [.int (nI (sumN (biU rs) i))]) S (c_X2_blocksNotIn l G n0 nv vf ev md er fo rr B rs i ra2 va na r (by omega)) (cwV 2 hts gX2_blocksInUse_X2_blocksNotIn rfl rfl rfl (by decide +kernel) ⟨Nat.le_of_ble_eq_true rfl, Nat.le_of_ble_eq_true rfl⟩) hE hS hA 0 2 hP rfl rfl rfl ⟨hP, hPR, hRS, hR⟩ rfl rfl hl.1 (Nat.le_of_ble_eq_true rfl) dX2_blocksInUse_28 ⟨Nat.le_of_ble_eq_true rfl, Nat.le_of_ble_eq_true rfl⟩) ?_
      refine n_top (y := nI (biU rs i)) (by rw [biU, hrs]) ?_
      refine n_iadd hx hb dX2_blocksInUse_31 ?_
      refine lv_istore_n (lv' := [(1, .int (nI ((sumN (biU rs) i) + (biU rs i)))), (3, .ref ra2), (2, .int (nI i)), (0, .ref n0)]) hx hb dX2_blocksInUse_32 rfl hl (by decide) rfl (fun ls hl => ?_)
      refine lv_iinc (v := nI (i + 1)) (lv' := [(2, .int (nI (i + 1))), (1, .int (nI ((sumN (biU rs) i) + (biU rs i)))), (3, .ref ra2), (0, .ref n0)]) hx hb dX2_blocksInUse_33 hl (k := 2) rfl (nI_add i 1) (by decide) rfl (fun ls hl => ?_)
      refine lv_goto (tgt := 4) hx hb dX2_blocksInUse_36 (by decide) ?_
      have hl : lv_has ls 4 [(2, .int (nI (i + 1))), (1, .int (nI (sumN (biU rs) (i + 1)))), (0, .ref n0)] := lv_sub hl [0, 1, 3] rfl
      exact ih_4 (i + 1) _ (by show 25 - (i + 1) < 25 - i; omega) ⟨(by (try dsimp only); omega), hl⟩
