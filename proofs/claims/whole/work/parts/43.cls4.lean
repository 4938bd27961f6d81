def vaI (room : Nat) (vals : Nat → Int32) (i : Nat) : Int32 := if i < room then vals i else -5
def sumI (f : Nat → Int32) : Nat → Int32
  | 0 => 0
  | k + 1 => sumI f k + f k
def mxJ (f : Nat → Int32) : Nat → Int32
  | 0 => -5
  | k + 1 => if mxJ f k < f k then f k else mxJ f k
def miN (n m : Nat) : Nat := if m < n then m else n
theorem miN_le (n m : Nat) : miN n m ≤ n ∧ miN n m ≤ m := by unfold miN; split <;> omega
theorem min_c {n m : Nat} (hn : n < 2 ^ 31) (hm : m < 2 ^ 31) : (if nI m < nI n then nI m else nI n) = nI (miN n m) := by
  unfold miN
  by_cases h : m < n
  · rw [if_pos ((nI_ltI hm hn).mpr h), if_pos h]
  · rw [if_neg (fun z => h ((nI_ltI hm hn).mp z)), if_neg h]
def dfQ (f g : Nat → Int32) : Nat → Bool := fun k => decide (¬ f k = g k)
def dfI (f g : Nat → Int32) (n m : Nat) : Int32 := if lstN (dfQ f g) (miN n m) 0 < miN n m then nI (lstN (dfQ f g) (miN n m) 0) else if n = m then -5 else nI (miN n m)
def fnQ (f : Nat → Int32) (x : Int32) : Nat → Bool := fun k => decide (f k = x)
def fnI (f : Nat → Int32) (n : Nat) (x : Int32) (a : Nat) : Int32 := if lstN (fnQ f x) (n - a) a < n then nI (lstN (fnQ f x) (n - a) a) else -5
theorem fitZ {w : Nat} (h : w < 2) : fits .boolean (.int (nI w)) = true := by
  rcases (show w = 0 ∨ w = 1 by omega) with rfl | rfl <;> rfl
theorem narZ {w : Nat} (h : w < 2) : narrow .boolean (.int (nI w)) = .int (nI w) := by
  rcases (show w = 0 ∨ w = 1 by omega) with rfl | rfl <;> rfl

theorem hw_X4_end_f19 : Cond.fieldLink RX4 19 "TailVectors$View" "first" "I" ∈ wsX4_end := by decide +kernel
theorem hi_X4_end_RX4 : ∀ w ∈ u_ws RX4 TX4 4, w ∈ wsX4_end := by decide +kernel
theorem hw_X4_end_f23 : Cond.fieldLink RX4 23 "TailVectors$View" "many" "I" ∈ wsX4_end := by decide +kernel
set_option maxHeartbeats 4000000 in
set_option maxRecDepth 100000 in
theorem c_X4_end (l : Launch) (G : xG) (p0 : Nat) (ra : Nat) (wi : Nat) (fi : Nat) (ma : Nat) (hfi : fi ≤ 300) (hma : ma ≤ 300) : Met l yX4_end wsX4_end ({ frames := 0, cells := 0, slots := 0, locals := 0 } : Room) (xPc G [.ref p0] (fun H => va_P G.1 vwCl [(p0, .inr (4, [.ref ra, .int (nI wi), .int (nI fi), .int (nI ma)]))] H)) (k2_QcV (.int (nI (fi + ma)))) 0 0 (fun _ => False) := by
  refine xMet (cc := cX4_end) (nL := 1) (ret := (some (.int))) (by decide) rfl (Nat.le_of_ble_eq_true rfl) ?_
  intro p e s m below meth c S hr hlk_ hnm hE hP ls hl
  obtain ⟨hx, hb, hml, hown, hts⟩ := id S
  have hown : s.vm.findClass RX4 = some m.cls := hown
  have hK := hE.1
  have hS : va_S (fun _ : Nat => False) s.heap s.heap [] := va_S.rf
  have hA : ∀ q, (fun _ : Nat => False) q → xB0 G ≤ q := fun _ h => h.elim
  have hP : va_P G.1 vwCl [(p0, .inr (4, [.ref ra, .int (nI wi), .int (nI fi), .int (nI ma)]))] s.heap := hP
  have hl : lv_has ls 1 [(0, .ref p0)] := hl
  refine lv_aload_n hx hb dX4_end_0 rfl (lv_at hl 0 rfl) ?_
  refine va_get (D := G.1) (ci := 4) (v := .int (nI fi)) (C := RX4) (T := TX4) (N := 4) hx hb hts hi_X4_end_RX4 hown hK hP 0 rfl rfl 2 (by decide) (hts _ hw_X4_end_f19) (fun _ h9 => h9) rfl dX4_end_1 ?_
  refine lv_aload_n hx hb dX4_end_4 rfl (lv_at hl 0 rfl) ?_
  refine va_get (D := G.1) (ci := 4) (v := .int (nI ma)) (C := RX4) (T := TX4) (N := 4) hx hb hts hi_X4_end_RX4 hown hK hP 0 rfl rfl 3 (by decide) (hts _ hw_X4_end_f23) (fun _ h9 => h9) rfl dX4_end_5 ?_
  refine n_iadd hx hb dX4_end_8 ?_
  exact xret_i hx hb hr hlk_ dX4_end_9 rfl

theorem hw_X4_shows_f23 : Cond.fieldLink RX4 23 "TailVectors$View" "many" "I" ∈ wsX4_shows := by decide +kernel
theorem hi_X4_shows_RX4 : ∀ w ∈ u_ws RX4 TX4 4, w ∈ wsX4_shows := by decide +kernel
set_option maxHeartbeats 4000000 in
set_option maxRecDepth 100000 in
theorem c_X4_shows (l : Launch) (G : xG) (p0 : Nat) (ra : Nat) (wi : Nat) (fi : Nat) (ma : Nat) (x : Int32) (hfi : fi ≤ 300) (hma : ma ≤ 300) : Met l yX4_shows wsX4_shows ({ frames := 0, cells := 0, slots := 0, locals := 0 } : Room) (xPc G [.ref p0, .int x] (fun H => va_P G.1 vwCl [(p0, .inr (4, [.ref ra, .int (nI wi), .int (nI fi), .int (nI ma)]))] H)) (k2_QcV (.int (bI (0 ≤ x ∧ x < nI ma)))) 0 0 (fun _ => False) := by
  refine xMet (cc := cX4_shows) (nL := 2) (ret := (some (.boolean))) (by decide) rfl (Nat.le_of_ble_eq_true rfl) ?_
  intro p e s m below meth c S hr hlk_ hnm hE hP ls hl
  obtain ⟨hx, hb, hml, hown, hts⟩ := id S
  have hown : s.vm.findClass RX4 = some m.cls := hown
  have hK := hE.1
  have hS : va_S (fun _ : Nat => False) s.heap s.heap [] := va_S.rf
  have hA : ∀ q, (fun _ : Nat => False) q → xB0 G ≤ q := fun _ h => h.elim
  have hP : va_P G.1 vwCl [(p0, .inr (4, [.ref ra, .int (nI wi), .int (nI fi), .int (nI ma)]))] s.heap := hP
  have hl : lv_has ls 2 [(0, .ref p0), (1, .int x)] := hl
  refine lv_iload_n hx hb dX4_shows_0 rfl (lv_at hl 1 rfl) ?_
  refine lv_if_lt (tgt := 16) hx hb dX4_shows_1 (by decide) (fun c_1 => ?_) (fun c_1 => ?_)
  · refine lv_iconst (v := nI 0) hx hb dX4_shows_16 rfl ?_
    exact xret_z hx hb hr hlk_ dX4_shows_17 (by first | exact Or.inl rfl | exact Or.inr rfl) (xb0 (fun z => le_ge32 c_1 z.1))
  · refine lv_iload_n hx hb dX4_shows_4 rfl (lv_at hl 1 rfl) ?_
    refine lv_aload_n hx hb dX4_shows_5 rfl (lv_at hl 0 rfl) ?_
    refine va_get (D := G.1) (ci := 4) (v := .int (nI ma)) (C := RX4) (T := TX4) (N := 4) hx hb hts hi_X4_shows_RX4 hown hK hP 0 rfl rfl 3 (by decide) (hts _ hw_X4_shows_f23) (fun _ h9 => h9) rfl dX4_shows_6 ?_
    refine lv_icmp_ge (tgt := 16) hx hb dX4_shows_9 (by decide) (fun c_9 => ?_) (fun c_9 => ?_)
    · refine lv_iconst (v := nI 0) hx hb dX4_shows_16 rfl ?_
      exact xret_z hx hb hr hlk_ dX4_shows_17 (by first | exact Or.inl rfl | exact Or.inr rfl) (xb0 (fun z => le_ge32 z.2 c_9))
    · refine lv_iconst (v := nI 1) hx hb dX4_shows_12 rfl ?_
      refine lv_goto (tgt := 17) hx hb dX4_shows_13 (by decide) ?_
      exact xret_z hx hb hr hlk_ dX4_shows_17 (by first | exact Or.inl rfl | exact Or.inr rfl) (xb1 ⟨Int32.not_lt.mp c_1, Int32.not_le.mp c_9⟩)

theorem hw_X4_valueAt_f19 : Cond.fieldLink RX4 19 "TailVectors$View" "first" "I" ∈ wsX4_valueAt := by decide +kernel
theorem hi_X4_valueAt_RX4 : ∀ w ∈ u_ws RX4 TX4 4, w ∈ wsX4_valueAt := by decide +kernel
theorem hw_X4_valueAt_f9 : Cond.fieldLink RX4 9 "TailVectors$View" "row" "LTailVectors$Row;" ∈ wsX4_valueAt := by decide +kernel
theorem hw_X4_valueAt_f26 : Cond.fieldLink RX4 26 "TailVectors$Row" "values" "[I" ∈ wsX4_valueAt := by decide +kernel
theorem hi_X4_valueAt_RX1 : ∀ w ∈ u_ws RX1 TX1 3, w ∈ wsX4_valueAt := by decide +kernel
set_option maxHeartbeats 4000000 in
set_option maxRecDepth 100000 in
theorem c_X4_valueAt (l : Launch) (G : xG) (p0 : Nat) (ra : Nat) (wi : Nat) (fi : Nat) (ma : Nat) (va : Nat) (na : Nat) (room : Nat) (vals : Nat → Int32) (nums : Nat → Int32) (len : Nat) (j : Nat) (hfi : fi ≤ 300) (hma : ma ≤ 300) (hro3 : room ≤ 300) (hj24 : j < 2 ^ 24) : Met l yX4_valueAt wsX4_valueAt ({ frames := 0, cells := 0, slots := 0, locals := 0 } : Room) (xPc G [.ref p0, .int (nI j)] (fun H => va_P G.1 vwCl [(p0, .inr (4, [.ref ra, .int (nI wi), .int (nI fi), .int (nI ma)])), (ra, .inr (1, [.ref va, .ref na, .int (nI len)])), (va, .inl (xcI G, room, .inl vals)), (na, .inl (xcI G, 101, .inl nums))] H)) (k2_QcV (.int (vaI room vals (fi + j)))) 0 0 (fun _ => False) := by
  refine xMet (cc := cX4_valueAt) (nL := 3) (ret := (some (.int))) (by decide) rfl (Nat.le_of_ble_eq_true rfl) ?_
  intro p e s m below meth c S hr hlk_ hnm hE hP ls hl
  obtain ⟨hx, hb, hml, hown, hts⟩ := id S
  have hown : s.vm.findClass RX4 = some m.cls := hown
  have hK := hE.1
  have hS : va_S (fun _ : Nat => False) s.heap s.heap [] := va_S.rf
  have hA : ∀ q, (fun _ : Nat => False) q → xB0 G ≤ q := fun _ h => h.elim
  have hP : va_P G.1 vwCl [(p0, .inr (4, [.ref ra, .int (nI wi), .int (nI fi), .int (nI ma)])), (ra, .inr (1, [.ref va, .ref na, .int (nI len)])), (va, .inl (xcI G, room, .inl vals)), (na, .inl (xcI G, 101, .inl nums))] s.heap := hP
  have hl : lv_has ls 3 [(0, .ref p0), (1, .int (nI j))] := hl
  refine lv_aload_n hx hb dX4_valueAt_0 rfl (lv_at hl 0 rfl) ?_
  refine va_get (D := G.1) (ci := 4) (v := .int (nI fi)) (C := RX4) (T := TX4) (N := 4) hx hb hts hi_X4_valueAt_RX4 hown hK hP 0 rfl rfl 2 (by decide) (hts _ hw_X4_valueAt_f19) (fun _ h9 => h9) rfl dX4_valueAt_1 ?_
  refine lv_iload_n hx hb dX4_valueAt_4 rfl (lv_at hl 1 rfl) ?_
  refine n_iadd hx hb dX4_valueAt_5 ?_
  refine lv_istore_n (lv' := [(2, .int (nI (fi + j))), (0, .ref p0), (1, .int (nI j))]) hx hb dX4_valueAt_6 rfl hl (by decide) rfl (fun ls hl => ?_)
  refine lv_iload_n hx hb dX4_valueAt_7 rfl (lv_at hl 0 rfl) ?_
  refine n_if_lt (tgt := 35) hx hb (by omega) dX4_valueAt_8 (by decide) (fun c_8 => ?_) (fun c_8 => ?_)
  · exact absurd c_8 (by omega)
  · refine lv_iload_n hx hb dX4_valueAt_11 rfl (lv_at hl 0 rfl) ?_
    refine lv_aload_n hx hb dX4_valueAt_12 rfl (lv_at hl 1 rfl) ?_
    refine va_get (D := G.1) (ci := 4) (v := .ref ra) (C := RX4) (T := TX4) (N := 4) hx hb hts hi_X4_valueAt_RX4 hown hK hP 0 rfl rfl 0 (by decide) (hts _ hw_X4_valueAt_f9) (fun _ h9 => h9) rfl dX4_valueAt_13 ?_
    refine va_get (D := G.1) (ci := 1) (v := .ref va) (C := RX1) (T := TX1) (N := 3) hx hb hts hi_X4_valueAt_RX1 hown hK hP 1 rfl rfl 0 (by decide) (hts _ hw_X4_valueAt_f26) (fun _ h9 => h9) rfl dX4_valueAt_16 ?_
    refine va_alen (v := nI room) hx hb hK hP 2 0 rfl rfl rfl dX4_valueAt_19 ?_
    refine n_icmp_ge (tgt := 35) hx hb (by omega) (by omega) dX4_valueAt_20 (by decide) (fun c_20 => ?_) (fun c_20 => ?_)
    · refine lv_bipush (v := (-5)) hx hb dX4_valueAt_35 (by decide) ?_
      exact xret_i hx hb hr hlk_ dX4_valueAt_37 (by rw [vaI, if_neg (Nat.not_lt.mpr c_20)])
    · refine lv_aload_n hx hb dX4_valueAt_23 rfl (lv_at hl 1 rfl) ?_
      refine va_get (D := G.1) (ci := 4) (v := .ref ra) (C := RX4) (T := TX4) (N := 4) hx hb hts hi_X4_valueAt_RX4 hown hK hP 0 rfl rfl 0 (by decide) (hts _ hw_X4_valueAt_f9) (fun _ h9 => h9) rfl dX4_valueAt_24 ?_
      refine va_get (D := G.1) (ci := 1) (v := .ref va) (C := RX1) (T := TX1) (N := 3) hx hb hts hi_X4_valueAt_RX1 hown hK hP 1 rfl rfl 0 (by decide) (hts _ hw_X4_valueAt_f26) (fun _ h9 => h9) rfl dX4_valueAt_27 ?_
      refine lv_iload_n hx hb dX4_valueAt_30 rfl (lv_at hl 0 rfl) ?_
      refine i_iald hx hb hK hP 2 0 rfl rfl (by omega) (by omega) dX4_valueAt_31 ?_
      refine lv_goto (tgt := 37) hx hb dX4_valueAt_32 (by decide) ?_
      exact xret_i hx hb hr hlk_ dX4_valueAt_37 (by rw [vaI, if_pos c_20])

theorem hw_X4_sum_f23 : Cond.fieldLink RX4 23 "TailVectors$View" "many" "I" ∈ wsX4_sum := by decide +kernel
theorem hi_X4_sum_RX4 : ∀ w ∈ u_ws RX4 TX4 4, w ∈ wsX4_sum := by decide +kernel
set_option maxHeartbeats 4000000 in
set_option maxRecDepth 100000 in
theorem c_X4_sum (l : Launch) (G : xG) (p0 : Nat) (ra : Nat) (wi : Nat) (fi : Nat) (ma : Nat) (va : Nat) (na : Nat) (room : Nat) (vals : Nat → Int32) (nums : Nat → Int32) (len : Nat) (hfi : fi ≤ 300) (hma : ma ≤ 300) (hro3 : room ≤ 300) : Met l yX4_sum wsX4_sum ({ frames := 1, cells := 0, slots := 0, locals := 22 } : Room) (xPc G [.ref p0] (fun H => va_P G.1 vwCl [(p0, .inr (4, [.ref ra, .int (nI wi), .int (nI fi), .int (nI ma)])), (ra, .inr (1, [.ref va, .ref na, .int (nI len)])), (va, .inl (xcI G, room, .inl vals)), (na, .inl (xcI G, 101, .inl nums))] H)) (k2_QcV (.int (sumI (fun z => vaI room vals (fi + z)) ma))) 0 0 (fun _ => False) := by
  refine xMet (cc := cX4_sum) (nL := 3) (ret := (some (.int))) (by decide) rfl (Nat.le_of_ble_eq_true rfl) ?_
  intro p e s m below meth c S hr hlk_ hnm hE hP ls hl
  obtain ⟨hx, hb, hml, hown, hts⟩ := id S
  have hown : s.vm.findClass RX4 = some m.cls := hown
  have hK := hE.1
  have hS : va_S (fun _ : Nat => False) s.heap s.heap [] := va_S.rf
  have hA : ∀ q, (fun _ : Nat => False) q → xB0 G ≤ q := fun _ h => h.elim
  have hP : va_P G.1 vwCl [(p0, .inr (4, [.ref ra, .int (nI wi), .int (nI fi), .int (nI ma)])), (ra, .inr (1, [.ref va, .ref na, .int (nI len)])), (va, .inl (xcI G, room, .inl vals)), (na, .inl (xcI G, 101, .inl nums))] s.heap := hP
  have hl : lv_has ls 3 [(0, .ref p0)] := hl
  refine lv_iconst (v := nI 0) hx hb dX4_sum_0 rfl ?_
  refine lv_istore_n (lv' := [(1, .int (nI 0)), (0, .ref p0)]) hx hb dX4_sum_1 rfl hl (by decide) rfl (fun ls hl => ?_)
  refine lv_iconst (v := nI 0) hx hb dX4_sum_2 rfl ?_
  refine lv_istore_n (lv' := [(2, .int (nI 0)), (1, .int (nI 0)), (0, .ref p0)]) hx hb dX4_sum_3 rfl hl (by decide) rfl (fun ls hl => ?_)
  have hl : lv_has ls 3 [(2, .int (nI 0)), (1, .int (sumI (fun z => vaI room vals (fi + z)) 0)), (0, .ref p0)] := lv_sub hl [0, 1, 2] rfl
  refine xloopR (σ := Nat) (C := (fun (x_ : Nat) ls => (x_ ≤ ma) ∧ lv_has ls 3 [(2, .int (nI x_)), (1, .int (sumI (fun z => vaI room vals (fi + z)) x_)), (0, .ref p0)])) (μ := (fun (x_ : Nat) => ma - x_)) (W' := fun ls => W p l e _ s m _ below meth c _ _ _ _ _ (F0 m 4 ls [])) ?_ 0 _ ⟨(Nat.zero_le _), hl⟩
  intro x_ ls hC ih_4
  obtain ⟨j, rfl⟩ : ∃ z, z = x_ := ⟨x_, rfl⟩
  obtain ⟨hj, hl⟩ := hC
  replace hj : j ≤ ma := hj
  replace hl : lv_has ls 3 [(2, .int (nI j)), (1, .int (sumI (fun z => vaI room vals (fi + z)) j)), (0, .ref p0)] := hl
  refine id ?_
  refine lv_iload_n hx hb dX4_sum_4 rfl (lv_at hl 0 rfl) ?_
  refine lv_aload_n hx hb dX4_sum_5 rfl (lv_at hl 2 rfl) ?_
  refine va_get (D := G.1) (ci := 4) (v := .int (nI ma)) (C := RX4) (T := TX4) (N := 4) hx hb hts hi_X4_sum_RX4 hown hK hP 0 rfl rfl 3 (by decide) (hts _ hw_X4_sum_f23) (fun _ h9 => h9) rfl dX4_sum_6 ?_
  refine n_icmp_ge (tgt := 26) hx hb (by omega) (by omega) dX4_sum_9 (by decide) (fun c_9 => ?_) (fun c_9 => ?_)
  · refine lv_iload_n hx hb dX4_sum_26 rfl (lv_at hl 1 rfl) ?_
    exact xret_i hx hb hr hlk_ dX4_sum_27 (by rw [show j = ma by omega])
  · refine lv_iload_n hx hb dX4_sum_12 rfl (lv_at hl 1 rfl) ?_
    refine lv_aload_n hx hb dX4_sum_13 rfl (lv_at hl 2 rfl) ?_
    refine lv_iload_n hx hb dX4_sum_14 rfl (lv_at hl 0 rfl) ?_
    refine xrd (xrunV (As := [.int (nI j)]) (rest := [.int (sumI (fun z => vaI room vals (fi + z)) j)]) S (c_X4_valueAt l G p0 ra wi fi ma va na room vals nums len j hfi hma hro3 (by omega)) (cwV 1 hts gX4_sum_X4_valueAt rfl rfl rfl (by decide +kernel) ⟨Nat.le_of_ble_eq_true rfl, Nat.le_of_ble_eq_true rfl⟩) hE hS hA 0 4 hP rfl rfl rfl hP rfl rfl hl.1 (Nat.le_of_ble_eq_true rfl) dX4_sum_15 ⟨Nat.le_of_ble_eq_true rfl, Nat.le_of_ble_eq_true rfl⟩) ?_
    refine lv_iadd hx hb dX4_sum_18 ?_
    refine lv_istore_n (lv' := [(1, .int ((sumI (fun z => vaI room vals (fi + z)) j) + (vaI room vals (fi + j)))), (2, .int (nI j)), (0, .ref p0)]) hx hb dX4_sum_19 rfl hl (by decide) rfl (fun ls hl => ?_)
    refine lv_iinc (v := nI (j + 1)) (lv' := [(2, .int (nI (j + 1))), (1, .int ((sumI (fun z => vaI room vals (fi + z)) j) + (vaI room vals (fi + j)))), (0, .ref p0)]) hx hb dX4_sum_20 hl (k := 1) rfl (nI_add j 1) (by decide) rfl (fun ls hl => ?_)
    refine lv_goto (tgt := 4) hx hb dX4_sum_23 (by decide) ?_
    have hl : lv_has ls 3 [(2, .int (nI (j + 1))), (1, .int (sumI (fun z => vaI room vals (fi + z)) (j + 1))), (0, .ref p0)] := lv_sub hl [0, 1, 2] rfl
    exact ih_4 (j + 1) _ (by show ma - (j + 1) < ma - j; omega) ⟨(by (try dsimp only); omega), hl⟩

theorem hw_X4_greatest_f23 : Cond.fieldLink RX4 23 "TailVectors$View" "many" "I" ∈ wsX4_greatest := by decide +kernel
theorem hi_X4_greatest_RX4 : ∀ w ∈ u_ws RX4 TX4 4, w ∈ wsX4_greatest := by decide +kernel
theorem hw_X4_greatest_ma36 : Cond.methodLink RX4 36 Lib.Math.max.name ∈ wsX4_greatest := by decide +kernel
theorem hw_X4_greatest_msmax : Cond.static Lib.Math.max.name ∈ wsX4_greatest := by decide +kernel
theorem hw_X4_greatest_mi : Cond.initialized "java/lang/Math" ∈ wsX4_greatest := by decide +kernel
theorem hw_X4_greatest_mcmax : Cond.code Lib.Math.max.name Lib.Math.max.code 2 (some .int) ∈ wsX4_greatest := by decide +kernel
set_option maxHeartbeats 4000000 in
set_option maxRecDepth 100000 in
theorem c_X4_greatest (l : Launch) (G : xG) (p0 : Nat) (ra : Nat) (wi : Nat) (fi : Nat) (ma : Nat) (va : Nat) (na : Nat) (room : Nat) (vals : Nat → Int32) (nums : Nat → Int32) (len : Nat) (hfi : fi ≤ 300) (hma : ma ≤ 300) (hro3 : room ≤ 300) : Met l yX4_greatest wsX4_greatest ({ frames := 1, cells := 0, slots := 0, locals := 22 } : Room) (xPc G [.ref p0] (fun H => va_P G.1 vwCl [(p0, .inr (4, [.ref ra, .int (nI wi), .int (nI fi), .int (nI ma)])), (ra, .inr (1, [.ref va, .ref na, .int (nI len)])), (va, .inl (xcI G, room, .inl vals)), (na, .inl (xcI G, 101, .inl nums))] H)) (k2_QcV (.int (mxJ (fun z => vaI room vals (fi + z)) ma))) 0 0 (fun _ => False) := by
  refine xMet (cc := cX4_greatest) (nL := 3) (ret := (some (.int))) (by decide) rfl (Nat.le_of_ble_eq_true rfl) ?_
  intro p e s m below meth c S hr hlk_ hnm hE hP ls hl
  obtain ⟨hx, hb, hml, hown, hts⟩ := id S
  have hown : s.vm.findClass RX4 = some m.cls := hown
  have hK := hE.1
  have hS : va_S (fun _ : Nat => False) s.heap s.heap [] := va_S.rf
  have hA : ∀ q, (fun _ : Nat => False) q → xB0 G ≤ q := fun _ h => h.elim
  have hP : va_P G.1 vwCl [(p0, .inr (4, [.ref ra, .int (nI wi), .int (nI fi), .int (nI ma)])), (ra, .inr (1, [.ref va, .ref na, .int (nI len)])), (va, .inl (xcI G, room, .inl vals)), (na, .inl (xcI G, 101, .inl nums))] s.heap := hP
  have hl : lv_has ls 3 [(0, .ref p0)] := hl
  refine lv_bipush (v := (-5)) hx hb dX4_greatest_0 (by decide) ?_
  refine lv_istore_n (lv' := [(1, .int (-5)), (0, .ref p0)]) hx hb dX4_greatest_2 rfl hl (by decide) rfl (fun ls hl => ?_)
  refine lv_iconst (v := nI 0) hx hb dX4_greatest_3 rfl ?_
  refine lv_istore_n (lv' := [(2, .int (nI 0)), (1, .int (-5)), (0, .ref p0)]) hx hb dX4_greatest_4 rfl hl (by decide) rfl (fun ls hl => ?_)
  have hl : lv_has ls 3 [(2, .int (nI 0)), (1, .int (mxJ (fun z => vaI room vals (fi + z)) 0)), (0, .ref p0)] := lv_sub hl [0, 1, 2] rfl
  refine xloopR (σ := Nat) (C := (fun (x_ : Nat) ls => (x_ ≤ ma) ∧ lv_has ls 3 [(2, .int (nI x_)), (1, .int (mxJ (fun z => vaI room vals (fi + z)) x_)), (0, .ref p0)])) (μ := (fun (x_ : Nat) => ma - x_)) (W' := fun ls => W p l e _ s m _ below meth c _ _ _ _ _ (F0 m 5 ls [])) ?_ 0 _ ⟨(Nat.zero_le _), hl⟩
  intro x_ ls hC ih_5
  obtain ⟨j, rfl⟩ : ∃ z, z = x_ := ⟨x_, rfl⟩
  obtain ⟨hj, hl⟩ := hC
  replace hj : j ≤ ma := hj
  replace hl : lv_has ls 3 [(2, .int (nI j)), (1, .int (mxJ (fun z => vaI room vals (fi + z)) j)), (0, .ref p0)] := hl
  refine id ?_
  refine lv_iload_n hx hb dX4_greatest_5 rfl (lv_at hl 0 rfl) ?_
  refine lv_aload_n hx hb dX4_greatest_6 rfl (lv_at hl 2 rfl) ?_
  refine va_get (D := G.1) (ci := 4) (v := .int (nI ma)) (C := RX4) (T := TX4) (N := 4) hx hb hts hi_X4_greatest_RX4 hown hK hP 0 rfl rfl 3 (by decide) (hts _ hw_X4_greatest_f23) (fun _ h9 => h9) rfl dX4_greatest_7 ?_
  refine n_icmp_ge (tgt := 29) hx hb (by omega) (by omega) dX4_greatest_10 (by decide) (fun c_10 => ?_) (fun c_10 => ?_)
  · refine lv_iload_n hx hb dX4_greatest_29 rfl (lv_at hl 1 rfl) ?_
    exact xret_i hx hb hr hlk_ dX4_greatest_30 (by rw [show j = ma by omega])
  · refine lv_iload_n hx hb dX4_greatest_13 rfl (lv_at hl 1 rfl) ?_
    refine lv_aload_n hx hb dX4_greatest_14 rfl (lv_at hl 2 rfl) ?_
    refine lv_iload_n hx hb dX4_greatest_15 rfl (lv_at hl 0 rfl) ?_
    refine xrd (xrunV (As := [.int (nI j)]) (rest := [.int (mxJ (fun z => vaI room vals (fi + z)) j)]) S (c_X4_valueAt l G p0 ra wi fi ma va na room vals nums len j hfi hma hro3 (by omega)) (cwV 1 hts gX4_greatest_X4_valueAt rfl rfl rfl (by decide +kernel) ⟨Nat.le_of_ble_eq_true rfl, Nat.le_of_ble_eq_true rfl⟩) hE hS hA 0 4 hP rfl rfl rfl hP rfl rfl hl.1 (Nat.le_of_ble_eq_true rfl) dX4_greatest_16 ⟨Nat.le_of_ble_eq_true rfl, Nat.le_of_ble_eq_true rfl⟩) ?_
    refine va_mmax hx hb (by rw [hml]; exact hl.1.symm) hown (hts _ hw_X4_greatest_ma36) (hts _ hw_X4_greatest_msmax) (hts _ hw_X4_greatest_mi) (hts _ hw_X4_greatest_mcmax) (Nat.le_of_ble_eq_true rfl) (Nat.le_of_ble_eq_true rfl) (Nat.le_of_ble_eq_true rfl) (Nat.le_of_ble_eq_true rfl) dX4_greatest_19 ?_
    refine lv_istore_n (lv' := [(1, .int (if mxJ (fun z => vaI room vals (fi + z)) j < vaI room vals (fi + j) then vaI room vals (fi + j) else mxJ (fun z => vaI room vals (fi + z)) j)), (2, .int (nI j)), (0, .ref p0)]) hx hb dX4_greatest_22 rfl hl (by decide) rfl (fun ls hl => ?_)
    refine lv_iinc (v := nI (j + 1)) (lv' := [(2, .int (nI (j + 1))), (1, .int (if mxJ (fun z => vaI room vals (fi + z)) j < vaI room vals (fi + j) then vaI room vals (fi + j) else mxJ (fun z => vaI room vals (fi + z)) j)), (0, .ref p0)]) hx hb dX4_greatest_23 hl (k := 1) rfl (nI_add j 1) (by decide) rfl (fun ls hl => ?_)
    refine lv_goto (tgt := 5) hx hb dX4_greatest_26 (by decide) ?_
    have hl : lv_has ls 3 [(2, .int (nI (j + 1))), (1, .int (mxJ (fun z => vaI room vals (fi + z)) (j + 1))), (0, .ref p0)] := lv_sub hl [0, 1, 2] rfl
    exact ih_5 (j + 1) _ (by show ma - (j + 1) < ma - j; omega) ⟨(by (try dsimp only); omega), hl⟩

theorem hw_X4_firstDifference_f23 : Cond.fieldLink RX4 23 "TailVectors$View" "many" "I" ∈ wsX4_firstDifference := by decide +kernel
theorem hi_X4_firstDifference_RX4 : ∀ w ∈ u_ws RX4 TX4 4, w ∈ wsX4_firstDifference := by decide +kernel
theorem hw_X4_firstDifference_ma42 : Cond.methodLink RX4 42 Lib.Math.min.name ∈ wsX4_firstDifference := by decide +kernel
theorem hw_X4_firstDifference_msmin : Cond.static Lib.Math.min.name ∈ wsX4_firstDifference := by decide +kernel
theorem hw_X4_firstDifference_mi : Cond.initialized "java/lang/Math" ∈ wsX4_firstDifference := by decide +kernel
theorem hw_X4_firstDifference_mcmin : Cond.code Lib.Math.min.name Lib.Math.min.code 2 (some .int) ∈ wsX4_firstDifference := by decide +kernel
set_option maxHeartbeats 4000000 in
set_option maxRecDepth 100000 in
theorem c_X4_firstDifference (l : Launch) (G : xG) (p0 : Nat) (ra : Nat) (wi : Nat) (fi : Nat) (ma : Nat) (va : Nat) (na : Nat) (room : Nat) (vals : Nat → Int32) (nums : Nat → Int32) (len : Nat) (p02 : Nat) (ra2 : Nat) (wi2 : Nat) (fi2 : Nat) (ma2 : Nat) (va2 : Nat) (na2 : Nat) (room2 : Nat) (vals2 : Nat → Int32) (nums2 : Nat → Int32) (len2 : Nat) (hfi : fi ≤ 300) (hma : ma ≤ 300) (hro3 : room ≤ 300) (hfi2 : fi2 ≤ 300) (hma2 : ma2 ≤ 300) (hro32 : room2 ≤ 300) : Met l yX4_firstDifference wsX4_firstDifference ({ frames := 1, cells := 0, slots := 0, locals := 22 } : Room) (xPc G [.ref p0, .ref p02] (fun H => va_P G.1 vwCl [(p0, .inr (4, [.ref ra, .int (nI wi), .int (nI fi), .int (nI ma)])), (ra, .inr (1, [.ref va, .ref na, .int (nI len)])), (va, .inl (xcI G, room, .inl vals)), (na, .inl (xcI G, 101, .inl nums)), (p02, .inr (4, [.ref ra2, .int (nI wi2), .int (nI fi2), .int (nI ma2)])), (ra2, .inr (1, [.ref va2, .ref na2, .int (nI len2)])), (va2, .inl (xcI G, room2, .inl vals2)), (na2, .inl (xcI G, 101, .inl nums2))] H)) (k2_QcV (.int (dfI (fun z => vaI room vals (fi + z)) (fun z => vaI room2 vals2 (fi2 + z)) ma ma2))) 0 0 (fun _ => False) := by
  refine xMet (cc := cX4_firstDifference) (nL := 4) (ret := (some (.int))) (by decide) rfl (Nat.le_of_ble_eq_true rfl) ?_
  intro p e s m below meth c S hr hlk_ hnm hE hP ls hl
  obtain ⟨hx, hb, hml, hown, hts⟩ := id S
  have hown : s.vm.findClass RX4 = some m.cls := hown
  have hK := hE.1
  have hS : va_S (fun _ : Nat => False) s.heap s.heap [] := va_S.rf
  have hA : ∀ q, (fun _ : Nat => False) q → xB0 G ≤ q := fun _ h => h.elim
  have hP : va_P G.1 vwCl [(p0, .inr (4, [.ref ra, .int (nI wi), .int (nI fi), .int (nI ma)])), (ra, .inr (1, [.ref va, .ref na, .int (nI len)])), (va, .inl (xcI G, room, .inl vals)), (na, .inl (xcI G, 101, .inl nums)), (p02, .inr (4, [.ref ra2, .int (nI wi2), .int (nI fi2), .int (nI ma2)])), (ra2, .inr (1, [.ref va2, .ref na2, .int (nI len2)])), (va2, .inl (xcI G, room2, .inl vals2)), (na2, .inl (xcI G, 101, .inl nums2))] s.heap := hP
  have hl : lv_has ls 4 [(0, .ref p0), (1, .ref p02)] := hl
  refine lv_aload_n hx hb dX4_firstDifference_0 rfl (lv_at hl 0 rfl) ?_
  refine va_get (D := G.1) (ci := 4) (v := .int (nI ma)) (C := RX4) (T := TX4) (N := 4) hx hb hts hi_X4_firstDifference_RX4 hown hK hP 0 rfl rfl 3 (by decide) (hts _ hw_X4_firstDifference_f23) (fun _ h9 => h9) rfl dX4_firstDifference_1 ?_
  refine lv_aload_n hx hb dX4_firstDifference_4 rfl (lv_at hl 1 rfl) ?_
  refine va_get (D := G.1) (ci := 4) (v := .int (nI ma2)) (C := RX4) (T := TX4) (N := 4) hx hb hts hi_X4_firstDifference_RX4 hown hK hP 4 rfl rfl 3 (by decide) (hts _ hw_X4_firstDifference_f23) (fun _ h9 => h9) rfl dX4_firstDifference_5 ?_
  refine va_mmin hx hb (by rw [hml]; exact hl.1.symm) hown (hts _ hw_X4_firstDifference_ma42) (hts _ hw_X4_firstDifference_msmin) (hts _ hw_X4_firstDifference_mi) (hts _ hw_X4_firstDifference_mcmin) (Nat.le_of_ble_eq_true rfl) (Nat.le_of_ble_eq_true rfl) (Nat.le_of_ble_eq_true rfl) (Nat.le_of_ble_eq_true rfl) dX4_firstDifference_8 ?_
  refine n_top (y := nI (miN ma ma2)) (min_c (by omega) (by omega)) ?_
  refine lv_istore_n (lv' := [(2, .int (nI (miN ma ma2))), (0, .ref p0), (1, .ref p02)]) hx hb dX4_firstDifference_11 rfl hl (by decide) rfl (fun ls hl => ?_)
  refine lv_iconst (v := nI 0) hx hb dX4_firstDifference_12 rfl ?_
  refine lv_istore_n (lv' := [(3, .int (nI 0)), (2, .int (nI (miN ma ma2))), (0, .ref p0), (1, .ref p02)]) hx hb dX4_firstDifference_13 rfl hl (by decide) rfl (fun ls hl => ?_)
  have hmi := miN_le ma ma2
  have hl : lv_has ls 4 [(3, .int (nI 0)), (2, .int (nI (miN ma ma2))), (0, .ref p0), (1, .ref p02)] := lv_sub hl [0, 1, 2, 3] rfl
  refine xloopR (σ := Nat) (C := (fun (x_ : Nat) ls => (x_ ≤ miN ma ma2) ∧ (lstN (dfQ (fun z => vaI room vals (fi + z)) (fun z => vaI room2 vals2 (fi2 + z))) (miN ma ma2 - x_) x_ = lstN (dfQ (fun z => vaI room vals (fi + z)) (fun z => vaI room2 vals2 (fi2 + z))) (miN ma ma2) 0) ∧ lv_has ls 4 [(3, .int (nI x_)), (2, .int (nI (miN ma ma2))), (0, .ref p0), (1, .ref p02)])) (μ := (fun (x_ : Nat) => miN ma ma2 - x_)) (W' := fun ls => W p l e _ s m _ below meth c _ _ _ _ _ (F0 m 14 ls [])) ?_ 0 _ ⟨(Nat.zero_le _), rfl, hl⟩
  intro x_ ls hC ih_14
  obtain ⟨j, rfl⟩ : ∃ z, z = x_ := ⟨x_, rfl⟩
  obtain ⟨hj, hL, hl⟩ := hC
  replace hj : j ≤ miN ma ma2 := hj
  replace hL : lstN (dfQ (fun z => vaI room vals (fi + z)) (fun z => vaI room2 vals2 (fi2 + z))) (miN ma ma2 - j) j = lstN (dfQ (fun z => vaI room vals (fi + z)) (fun z => vaI room2 vals2 (fi2 + z))) (miN ma ma2) 0 := hL
  replace hl : lv_has ls 4 [(3, .int (nI j)), (2, .int (nI (miN ma ma2))), (0, .ref p0), (1, .ref p02)] := hl
  refine id ?_
  refine lv_iload_n hx hb dX4_firstDifference_14 rfl (lv_at hl 0 rfl) ?_
  refine lv_iload_n hx hb dX4_firstDifference_15 rfl (lv_at hl 1 rfl) ?_
  refine n_icmp_ge (tgt := 40) hx hb (by omega) (by omega) dX4_firstDifference_16 (by decide) (fun c_16 => ?_) (fun c_16 => ?_)
  · refine lv_aload_n hx hb dX4_firstDifference_40 rfl (lv_at hl 2 rfl) ?_
    refine va_get (D := G.1) (ci := 4) (v := .int (nI ma)) (C := RX4) (T := TX4) (N := 4) hx hb hts hi_X4_firstDifference_RX4 hown hK hP 0 rfl rfl 3 (by decide) (hts _ hw_X4_firstDifference_f23) (fun _ h9 => h9) rfl dX4_firstDifference_41 ?_
    refine lv_aload_n hx hb dX4_firstDifference_44 rfl (lv_at hl 3 rfl) ?_
    refine va_get (D := G.1) (ci := 4) (v := .int (nI ma2)) (C := RX4) (T := TX4) (N := 4) hx hb hts hi_X4_firstDifference_RX4 hown hK hP 4 rfl rfl 3 (by decide) (hts _ hw_X4_firstDifference_f23) (fun _ h9 => h9) rfl dX4_firstDifference_45 ?_
    refine n_icmp_ne (tgt := 56) hx hb (by omega) (by omega) dX4_firstDifference_48 (by decide) (fun c_48 => ?_) (fun c_48 => ?_)
    · refine lv_iload_n hx hb dX4_firstDifference_56 rfl (lv_at hl 1 rfl) ?_
      exact xret_i hx hb hr hlk_ dX4_firstDifference_57 (by rw [dfI, ← hL, lstN_stop (Or.inr (by omega)), if_neg (by omega), if_neg c_48])
    · refine lv_bipush (v := (-5)) hx hb dX4_firstDifference_51 (by decide) ?_
      refine lv_goto (tgt := 57) hx hb dX4_firstDifference_53 (by decide) ?_
      exact xret_i hx hb hr hlk_ dX4_firstDifference_57 (by rw [dfI, ← hL, lstN_stop (Or.inr (by omega)), if_neg (by omega), if_pos c_48])
  · refine lv_aload_n hx hb dX4_firstDifference_19 rfl (lv_at hl 2 rfl) ?_
    refine lv_iload_n hx hb dX4_firstDifference_20 rfl (lv_at hl 0 rfl) ?_
    refine xrd (xrunV (As := [.int (nI j)]) (rest := []) S (c_X4_valueAt l G p0 ra wi fi ma va na room vals nums len j hfi hma hro3 (by omega)) (cwV 1 hts gX4_firstDifference_X4_valueAt rfl rfl rfl (by decide +kernel) ⟨Nat.le_of_ble_eq_true rfl, Nat.le_of_ble_eq_true rfl⟩) hE hS hA 0 4 hP rfl rfl rfl (hP.sub [0, 1, 2, 3] rfl) rfl rfl hl.1 (Nat.le_of_ble_eq_true rfl) dX4_firstDifference_21 ⟨Nat.le_of_ble_eq_true rfl, Nat.le_of_ble_eq_true rfl⟩) ?_
    refine lv_aload_n hx hb dX4_firstDifference_24 rfl (lv_at hl 3 rfl) ?_
    refine lv_iload_n hx hb dX4_firstDifference_25 rfl (lv_at hl 0 rfl) ?_
    refine xrd (xrunV (As := [.int (nI j)]) (rest := [.int (vaI room vals (fi + j))]) S (c_X4_valueAt l G p02 ra2 wi2 fi2 ma2 va2 na2 room2 vals2 nums2 len2 j hfi2 hma2 hro32 (by omega)) (cwV 1 hts gX4_firstDifference_X4_valueAt rfl rfl rfl (by decide +kernel) ⟨Nat.le_of_ble_eq_true rfl, Nat.le_of_ble_eq_true rfl⟩) hE hS hA 4 4 hP rfl rfl rfl (hP.sub [4, 5, 6, 7] rfl) rfl rfl hl.1 (Nat.le_of_ble_eq_true rfl) dX4_firstDifference_26 ⟨Nat.le_of_ble_eq_true rfl, Nat.le_of_ble_eq_true rfl⟩) ?_
    refine lv_icmp_eq (tgt := 34) hx hb dX4_firstDifference_29 (by decide) (fun c_29 => ?_) (fun c_29 => ?_)
    · refine lv_iinc (v := nI (j + 1)) (lv' := [(3, .int (nI (j + 1))), (2, .int (nI (miN ma ma2))), (0, .ref p0), (1, .ref p02)]) hx hb dX4_firstDifference_34 hl (k := 0) rfl (nI_add j 1) (by decide) rfl (fun ls hl => ?_)
      refine lv_goto (tgt := 14) hx hb dX4_firstDifference_37 (by decide) ?_
      have hl : lv_has ls 4 [(3, .int (nI (j + 1))), (2, .int (nI (miN ma ma2))), (0, .ref p0), (1, .ref p02)] := lv_sub hl [0, 1, 2, 3] rfl
      exact ih_14 (j + 1) _ (by show miN ma ma2 - (j + 1) < miN ma ma2 - j; omega) ⟨(by omega), (by rw [← hL, lstN_go (n := miN ma ma2 - j) (fun z => (of_decide_eq_true z) c_29) (by omega), show miN ma ma2 - (j + 1) = miN ma ma2 - j - 1 by omega]), hl⟩
    · refine lv_iload_n hx hb dX4_firstDifference_32 rfl (lv_at hl 0 rfl) ?_
      exact xret_i hx hb hr hlk_ dX4_firstDifference_33 (by rw [dfI, ← hL, lstN_stop (Or.inl (decide_eq_true c_29)), if_pos c_16])

theorem hw_X4_placeOf_f23 : Cond.fieldLink RX4 23 "TailVectors$View" "many" "I" ∈ wsX4_placeOf := by decide +kernel
theorem hi_X4_placeOf_RX4 : ∀ w ∈ u_ws RX4 TX4 4, w ∈ wsX4_placeOf := by decide +kernel
set_option maxHeartbeats 4000000 in
set_option maxRecDepth 100000 in
theorem c_X4_placeOf (l : Launch) (G : xG) (p0 : Nat) (ra : Nat) (wi : Nat) (fi : Nat) (ma : Nat) (va : Nat) (na : Nat) (room : Nat) (vals : Nat → Int32) (nums : Nat → Int32) (len : Nat) (x : Int32) (a0 : Nat) (hfi : fi ≤ 300) (hma : ma ≤ 300) (hro3 : room ≤ 300) (ha0 : a0 < 2 ^ 31) : Met l yX4_placeOf wsX4_placeOf ({ frames := 1, cells := 0, slots := 0, locals := 22 } : Room) (xPc G [.ref p0, .int x, .int (nI a0)] (fun H => va_P G.1 vwCl [(p0, .inr (4, [.ref ra, .int (nI wi), .int (nI fi), .int (nI ma)])), (ra, .inr (1, [.ref va, .ref na, .int (nI len)])), (va, .inl (xcI G, room, .inl vals)), (na, .inl (xcI G, 101, .inl nums))] H)) (k2_QcV (.int (fnI (fun z => vaI room vals (fi + z)) ma x a0))) 0 0 (fun _ => False) := by
  refine xMet (cc := cX4_placeOf) (nL := 4) (ret := (some (.int))) (by decide) rfl (Nat.le_of_ble_eq_true rfl) ?_
  intro p e s m below meth c S hr hlk_ hnm hE hP ls hl
  obtain ⟨hx, hb, hml, hown, hts⟩ := id S
  have hown : s.vm.findClass RX4 = some m.cls := hown
  have hK := hE.1
  have hS : va_S (fun _ : Nat => False) s.heap s.heap [] := va_S.rf
  have hA : ∀ q, (fun _ : Nat => False) q → xB0 G ≤ q := fun _ h => h.elim
  have hP : va_P G.1 vwCl [(p0, .inr (4, [.ref ra, .int (nI wi), .int (nI fi), .int (nI ma)])), (ra, .inr (1, [.ref va, .ref na, .int (nI len)])), (va, .inl (xcI G, room, .inl vals)), (na, .inl (xcI G, 101, .inl nums))] s.heap := hP
  have hl : lv_has ls 4 [(0, .ref p0), (1, .int x), (2, .int (nI a0))] := hl
  refine lv_iload_n hx hb dX4_placeOf_0 rfl (lv_at hl 2 rfl) ?_
  refine lv_istore_n (lv' := [(3, .int (nI a0)), (0, .ref p0), (1, .int x), (2, .int (nI a0))]) hx hb dX4_placeOf_1 rfl hl (by decide) rfl (fun ls hl => ?_)
  have hl : lv_has ls 4 [(3, .int (nI a0)), (0, .ref p0), (1, .int x)] := lv_sub hl [0, 1, 2] rfl
  refine xloopR (σ := Nat) (C := (fun (x_ : Nat) ls => (x_ < 2 ^ 31) ∧ (lstN (fnQ (fun z => vaI room vals (fi + z)) x) (ma - x_) x_ = lstN (fnQ (fun z => vaI room vals (fi + z)) x) (ma - a0) a0) ∧ lv_has ls 4 [(3, .int (nI x_)), (0, .ref p0), (1, .int x)])) (μ := (fun (x_ : Nat) => ma - x_)) (W' := fun ls => W p l e _ s m _ below meth c _ _ _ _ _ (F0 m 2 ls [])) ?_ a0 _ ⟨ha0, rfl, hl⟩
  intro x_ ls hC ih_2
  obtain ⟨j, rfl⟩ : ∃ z, z = x_ := ⟨x_, rfl⟩
  obtain ⟨hj, hL, hl⟩ := hC
  replace hj : j < 2 ^ 31 := hj
  replace hL : lstN (fnQ (fun z => vaI room vals (fi + z)) x) (ma - j) j = lstN (fnQ (fun z => vaI room vals (fi + z)) x) (ma - a0) a0 := hL
  replace hl : lv_has ls 4 [(3, .int (nI j)), (0, .ref p0), (1, .int x)] := hl
  refine id ?_
  refine lv_iload_n hx hb dX4_placeOf_2 rfl (lv_at hl 0 rfl) ?_
  refine lv_aload_n hx hb dX4_placeOf_3 rfl (lv_at hl 1 rfl) ?_
  refine va_get (D := G.1) (ci := 4) (v := .int (nI ma)) (C := RX4) (T := TX4) (N := 4) hx hb hts hi_X4_placeOf_RX4 hown hK hP 0 rfl rfl 3 (by decide) (hts _ hw_X4_placeOf_f23) (fun _ h9 => h9) rfl dX4_placeOf_4 ?_
  refine n_icmp_ge (tgt := 27) hx hb (by omega) (by omega) dX4_placeOf_7 (by decide) (fun c_7 => ?_) (fun c_7 => ?_)
  · refine lv_bipush (v := (-5)) hx hb dX4_placeOf_27 (by decide) ?_
    exact xret_i hx hb hr hlk_ dX4_placeOf_29 (by rw [fnI, ← hL, lstN_stop (Or.inr (by omega)), if_neg (by omega)])
  · refine lv_aload_n hx hb dX4_placeOf_10 rfl (lv_at hl 1 rfl) ?_
    refine lv_iload_n hx hb dX4_placeOf_11 rfl (lv_at hl 0 rfl) ?_
    refine xrd (xrunV (As := [.int (nI j)]) (rest := []) S (c_X4_valueAt l G p0 ra wi fi ma va na room vals nums len j hfi hma hro3 (by omega)) (cwV 1 hts gX4_placeOf_X4_valueAt rfl rfl rfl (by decide +kernel) ⟨Nat.le_of_ble_eq_true rfl, Nat.le_of_ble_eq_true rfl⟩) hE hS hA 0 4 hP rfl rfl rfl hP rfl rfl hl.1 (Nat.le_of_ble_eq_true rfl) dX4_placeOf_12 ⟨Nat.le_of_ble_eq_true rfl, Nat.le_of_ble_eq_true rfl⟩) ?_
    refine lv_iload_n hx hb dX4_placeOf_15 rfl (lv_at hl 2 rfl) ?_
    refine lv_icmp_ne (tgt := 21) hx hb dX4_placeOf_16 (by decide) (fun c_16 => ?_) (fun c_16 => ?_)
    · refine lv_iinc (v := nI (j + 1)) (lv' := [(3, .int (nI (j + 1))), (0, .ref p0), (1, .int x)]) hx hb dX4_placeOf_21 hl (k := 0) rfl (nI_add j 1) (by decide) rfl (fun ls hl => ?_)
      refine lv_goto (tgt := 2) hx hb dX4_placeOf_24 (by decide) ?_
      have hl : lv_has ls 4 [(3, .int (nI (j + 1))), (0, .ref p0), (1, .int x)] := lv_sub hl [0, 1, 2] rfl
      exact ih_2 (j + 1) _ (by show ma - (j + 1) < ma - j; omega) ⟨(by omega), (by rw [← hL, lstN_go (n := ma - j) (fun z => c_16 (of_decide_eq_true z)) (by omega), show ma - (j + 1) = ma - j - 1 by omega]), hl⟩
    · refine lv_iload_n hx hb dX4_placeOf_19 rfl (lv_at hl 0 rfl) ?_
      exact xret_i hx hb hr hlk_ dX4_placeOf_20 (by rw [fnI, ← hL, lstN_stop (Or.inl (decide_eq_true c_16)), if_pos c_7])

theorem hw_X4_init_oi : Cond.methodLink RX4 3 objectInit ∈ wsX4_init := by decide +kernel
theorem hw_X4_init_om : Cond.instanceMethod objectInit ∈ wsX4_init := by decide +kernel
theorem hw_X4_init_oc : Cond.code objectInit ⟨#[0xb1]⟩ 1 none ∈ wsX4_init := by decide +kernel
theorem hw_X4_init_f9 : Cond.fieldLink RX4 9 "TailVectors$View" "row" "LTailVectors$Row;" ∈ wsX4_init := by decide +kernel
theorem hi_X4_init_RX4 : ∀ w ∈ u_ws RX4 TX4 4, w ∈ wsX4_init := by decide +kernel
theorem hw_X4_init_f15 : Cond.fieldLink RX4 15 "TailVectors$View" "window" "Z" ∈ wsX4_init := by decide +kernel
theorem hw_X4_init_f19 : Cond.fieldLink RX4 19 "TailVectors$View" "first" "I" ∈ wsX4_init := by decide +kernel
theorem hw_X4_init_f23 : Cond.fieldLink RX4 23 "TailVectors$View" "many" "I" ∈ wsX4_init := by decide +kernel
set_option maxHeartbeats 4000000 in
set_option maxRecDepth 100000 in
theorem c_X4_init (l : Launch) (G : xG) (p0 : Nat) (ra : Nat) (wi : Nat) (fi : Nat) (ma : Nat) (hdis : xDis (xB0 G) [p0]) (hwi : wi < 2) : Met l yX4_init wsX4_init ({ frames := 1, cells := 0, slots := 0, locals := 12 } : Room) (xPc G [.ref p0, .ref ra, .int (nI wi), .int (nI fi), .int (nI ma)] (fun H => va_P G.1 vwCl [(p0, .inr (4, [.null, .int (nI 0), .int (nI 0), .int (nI 0)]))] H)) (xQ (σ := Unit) (fun _ => none) (fun _ H => va_P G.1 vwCl [(p0, .inr (4, [.ref ra, .int (nI wi), .int (nI fi), .int (nI ma)]))] H) (fun q => q ∈ [p0])) 0 0 (fun q => q ∈ [p0]) := by
  refine xMet (cc := cX4_init) (nL := 5) (ret := none) (by decide) rfl (Nat.le_of_ble_eq_true rfl) ?_
  intro p e s m below meth c S hr hlk_ hnm hE hP ls hl
  obtain ⟨hx, hb, hml, hown, hts⟩ := id S
  have hown : s.vm.findClass RX4 = some m.cls := hown
  have hK := hE.1
  have hS : va_S (fun q => q ∈ [p0]) s.heap s.heap [] := va_S.rf
  have hA : ∀ q, (fun q => q ∈ [p0]) q → xB0 G ≤ q := hdis.2
  have hP : va_P G.1 vwCl [(p0, .inr (4, [.null, .int (nI 0), .int (nI 0), .int (nI 0)]))] s.heap := hP
  have hD : va_D (fun q => q ∈ [p0]) [(p0, .inr (4, [.null, .int (nI 0), .int (nI 0), .int (nI 0)]))] := (hdis.to rfl)
  have hl : lv_has ls 5 [(0, .ref p0), (1, .ref ra), (2, .int (nI wi)), (3, .int (nI fi)), (4, .int (nI ma))] := hl
  refine lv_aload_n hx hb dX4_init_0 rfl (lv_at hl 0 rfl) ?_
  refine W.objInit hx hb hown (hts _ hw_X4_init_oi) (hts _ hw_X4_init_om) (hts _ hw_X4_init_oc) rfl (by rw [hml]; exact hl.1) rfl dX4_init_1 (Nat.le_of_ble_eq_true rfl) (Nat.le_of_ble_eq_true rfl) ?_
  refine W.eq (g2 := F0 m 4 ls []) rfl ?_
  refine lv_aload_n hx hb dX4_init_4 rfl (lv_at hl 0 rfl) ?_
  refine lv_aload_n hx hb dX4_init_5 rfl (lv_at hl 1 rfl) ?_
  refine va_putF (D := G.1) (ci := 4) (v := .ref ra) (ty := (.object "TailVectors$Row")) (C := RX4) (T := TX4) (N := 4) hx hb hts hi_X4_init_RX4 tyX4 tyX4_ok nmX4 hown hK hP hD hS 0 rfl rfl 0 (by decide) (hts _ hw_X4_init_f9) (fun _ h9 => h9) rfl hnm rfl (by decide +kernel) rfl rfl (Nat.le_of_ble_eq_true rfl) dX4_init_6 (fun H locs hP hD hS => ?_)
  have hP : va_P G.1 vwCl [(p0, .inr (4, [.ref ra, .int (nI 0), .int (nI 0), .int (nI 0)]))] H := hP
  have hD : va_D (fun q => q ∈ [p0]) [(p0, .inr (4, [.ref ra, .int (nI 0), .int (nI 0), .int (nI 0)]))] := hD
  refine lv_aload_n hx hb dX4_init_9 rfl (lv_at hl 0 rfl) ?_
  refine lv_iload_n hx hb dX4_init_10 rfl (lv_at hl 2 rfl) ?_
  refine va_putF (D := G.1) (ci := 4) (v := .int (nI wi)) (ty := .boolean) (C := RX4) (T := TX4) (N := 4) hx hb hts hi_X4_init_RX4 tyX4 tyX4_ok nmX4 hown hK hP hD hS 0 rfl rfl 1 (by decide) (hts _ hw_X4_init_f15) (fun _ h9 => h9) rfl hnm rfl (by decide +kernel) (narZ hwi) (fitZ hwi) (Nat.le_of_ble_eq_true rfl) dX4_init_11 (fun H locs hP hD hS => ?_)
  have hP : va_P G.1 vwCl [(p0, .inr (4, [.ref ra, .int (nI wi), .int (nI 0), .int (nI 0)]))] H := hP
  have hD : va_D (fun q => q ∈ [p0]) [(p0, .inr (4, [.ref ra, .int (nI wi), .int (nI 0), .int (nI 0)]))] := hD
  refine lv_aload_n hx hb dX4_init_14 rfl (lv_at hl 0 rfl) ?_
  refine lv_iload_n hx hb dX4_init_15 rfl (lv_at hl 3 rfl) ?_
  refine va_putF (D := G.1) (ci := 4) (v := .int (nI fi)) (ty := .int) (C := RX4) (T := TX4) (N := 4) hx hb hts hi_X4_init_RX4 tyX4 tyX4_ok nmX4 hown hK hP hD hS 0 rfl rfl 2 (by decide) (hts _ hw_X4_init_f19) (fun _ h9 => h9) rfl hnm rfl (by decide +kernel) rfl rfl (Nat.le_of_ble_eq_true rfl) dX4_init_16 (fun H locs hP hD hS => ?_)
  have hP : va_P G.1 vwCl [(p0, .inr (4, [.ref ra, .int (nI wi), .int (nI fi), .int (nI 0)]))] H := hP
  have hD : va_D (fun q => q ∈ [p0]) [(p0, .inr (4, [.ref ra, .int (nI wi), .int (nI fi), .int (nI 0)]))] := hD
  refine lv_aload_n hx hb dX4_init_19 rfl (lv_at hl 0 rfl) ?_
  refine lv_iload hx hb dX4_init_20 (lv_at hl 4 rfl) ?_
  refine va_putF (D := G.1) (ci := 4) (v := .int (nI ma)) (ty := .int) (C := RX4) (T := TX4) (N := 4) hx hb hts hi_X4_init_RX4 tyX4 tyX4_ok nmX4 hown hK hP hD hS 0 rfl rfl 3 (by decide) (hts _ hw_X4_init_f23) (fun _ h9 => h9) rfl hnm rfl (by decide +kernel) rfl rfl (Nat.le_of_ble_eq_true rfl) dX4_init_22 (fun H locs hP hD hS => ?_)
  have hP : va_P G.1 vwCl [(p0, .inr (4, [.ref ra, .int (nI wi), .int (nI fi), .int (nI ma)]))] H := hP
  have hD : va_D (fun q => q ∈ [p0]) [(p0, .inr (4, [.ref ra, .int (nI wi), .int (nI fi), .int (nI ma)]))] := hD
  exact xend_v () hx hb hr hlk_ hS (fun _ h => h) dX4_init_25 rfl hP (Nat.le_refl _) (Nat.le_refl _)

theorem hw_X3_characterAt_f9 : Cond.fieldLink RX3 9 "TailVectors$Text" "characters" "[C" ∈ wsX3_characterAt := by decide +kernel
theorem hi_X3_characterAt_RX3 : ∀ w ∈ u_ws RX3 TX3 2, w ∈ wsX3_characterAt := by decide +kernel
set_option maxHeartbeats 4000000 in
set_option maxRecDepth 100000 in
theorem c_X3_characterAt (l : Launch) (G : xG) (t0 : Nat) (tc : Nat) (tl : Nat) (ch : Nat → Nat) (i : Nat) (htl : tl ≤ 60) (hch : ∀ j, ch j < 65536) (hi60 : i < 60) : Met l yX3_characterAt wsX3_characterAt ({ frames := 0, cells := 0, slots := 0, locals := 0 } : Room) (xPc G [.ref t0, .int (nI i)] (fun H => va_P G.1 vwCl [(t0, .inr (3, [.ref tc, .int (nI tl)])), (tc, .inl (xcC G, 60, .inl (nf ch)))] H)) (k2_QcV (.int (nI (ch i)))) 0 0 (fun _ => False) := by
  refine xMet (cc := cX3_characterAt) (nL := 2) (ret := (some (.char))) (by decide) rfl (Nat.le_of_ble_eq_true rfl) ?_
  intro p e s m below meth c S hr hlk_ hnm hE hP ls hl
  obtain ⟨hx, hb, hml, hown, hts⟩ := id S
  have hown : s.vm.findClass RX3 = some m.cls := hown
  have hK := hE.1
  have hS : va_S (fun _ : Nat => False) s.heap s.heap [] := va_S.rf
  have hA : ∀ q, (fun _ : Nat => False) q → xB0 G ≤ q := fun _ h => h.elim
  have hP : va_P G.1 vwCl [(t0, .inr (3, [.ref tc, .int (nI tl)])), (tc, .inl (xcC G, 60, .inl (nf ch)))] s.heap := hP
  have hl : lv_has ls 2 [(0, .ref t0), (1, .int (nI i))] := hl
  refine lv_iload_n hx hb dX3_characterAt_0 rfl (lv_at hl 1 rfl) ?_
  refine n_if_lt (tgt := 19) hx hb (by omega) dX3_characterAt_1 (by decide) (fun c_1 => ?_) (fun c_1 => ?_)
  · exact absurd c_1 (by omega)
  · refine lv_iload_n hx hb dX3_characterAt_4 rfl (lv_at hl 1 rfl) ?_
    refine lv_bipush (v := nI 60) hx hb dX3_characterAt_5 (by decide) ?_
    refine n_icmp_ge (tgt := 19) hx hb (by omega) (by omega) dX3_characterAt_7 (by decide) (fun c_7 => ?_) (fun c_7 => ?_)
    · exact absurd c_7 (by omega)
    · refine lv_aload_n hx hb dX3_characterAt_10 rfl (lv_at hl 0 rfl) ?_
      refine va_get (D := G.1) (ci := 3) (v := .ref tc) (C := RX3) (T := TX3) (N := 2) hx hb hts hi_X3_characterAt_RX3 hown hK hP 0 rfl rfl 0 (by decide) (hts _ hw_X3_characterAt_f9) (fun _ h9 => h9) rfl dX3_characterAt_11 ?_
      refine lv_iload_n hx hb dX3_characterAt_14 rfl (lv_at hl 1 rfl) ?_
      refine n_cald hx hb hK hP 1 1 rfl rfl (by omega) (by decide) dX3_characterAt_15 ?_
      refine lv_goto (tgt := 20) hx hb dX3_characterAt_16 (by decide) ?_
      exact xret_c hx hb hr hlk_ dX3_characterAt_20 (pk_charN (hch i)).1 rfl

set_option maxHeartbeats 4000000 in
set_option maxRecDepth 100000 in
theorem c_X3_isDigit (l : Launch) (G : xG) (x : Nat) (hx16 : x < 65536) : Met l yX3_isDigit wsX3_isDigit ({ frames := 0, cells := 0, slots := 0, locals := 0 } : Room) (xPc G [.int (nI x)] (fun _ => True)) (k2_QcV (.int (bI (48 ≤ x ∧ x ≤ 57)))) 0 0 (fun _ => False) := by
  refine xMet (cc := cX3_isDigit) (nL := 1) (ret := (some (.boolean))) (by decide) rfl (Nat.le_of_ble_eq_true rfl) ?_
  intro p e s m below meth c S hr hlk_ hnm hE hP ls hl
  obtain ⟨hx, hb, hml, hown, hts⟩ := id S
  have hown : s.vm.findClass RX3 = some m.cls := hown
  have hK := hE.1
  have hS : va_S (fun _ : Nat => False) s.heap s.heap [] := va_S.rf
  have hA : ∀ q, (fun _ : Nat => False) q → xB0 G ≤ q := fun _ h => h.elim
  have hl : lv_has ls 1 [(0, .int (nI x))] := hl
  refine lv_iload_n hx hb dX3_isDigit_0 rfl (lv_at hl 0 rfl) ?_
  refine lv_bipush (v := nI 48) hx hb dX3_isDigit_1 (by decide) ?_
  refine n_icmp_lt (tgt := 16) hx hb (by omega) (by omega) dX3_isDigit_3 (by decide) (fun c_3 => ?_) (fun c_3 => ?_)
  · refine lv_iconst (v := nI 0) hx hb dX3_isDigit_16 rfl ?_
    exact xret_z hx hb hr hlk_ dX3_isDigit_17 (by first | exact Or.inl rfl | exact Or.inr rfl) (xb0 (by omega))
  · refine lv_iload_n hx hb dX3_isDigit_6 rfl (lv_at hl 0 rfl) ?_
    refine lv_bipush (v := nI 57) hx hb dX3_isDigit_7 (by decide) ?_
    refine n_icmp_gt (tgt := 16) hx hb (by omega) (by omega) dX3_isDigit_9 (by decide) (fun c_9 => ?_) (fun c_9 => ?_)
    · refine lv_iconst (v := nI 0) hx hb dX3_isDigit_16 rfl ?_
      exact xret_z hx hb hr hlk_ dX3_isDigit_17 (by first | exact Or.inl rfl | exact Or.inr rfl) (xb0 (by omega))
    · refine lv_iconst (v := nI 1) hx hb dX3_isDigit_12 rfl ?_
      refine lv_goto (tgt := 17) hx hb dX3_isDigit_13 (by decide) ?_
      exact xret_z hx hb hr hlk_ dX3_isDigit_17 (by first | exact Or.inl rfl | exact Or.inr rfl) (xb1 (by omega))

theorem hw_X3_add_f15 : Cond.fieldLink RX3 15 "TailVectors$Text" "length" "I" ∈ wsX3_add := by decide +kernel
theorem hi_X3_add_RX3 : ∀ w ∈ u_ws RX3 TX3 2, w ∈ wsX3_add := by decide +kernel
theorem hw_X3_add_f9 : Cond.fieldLink RX3 9 "TailVectors$Text" "characters" "[C" ∈ wsX3_add := by decide +kernel
set_option maxHeartbeats 4000000 in
set_option maxRecDepth 100000 in
theorem c_X3_add (l : Launch) (G : xG) (t0 : Nat) (tc : Nat) (tl : Nat) (ch : Nat → Nat) (x : Nat) (hdis : xDis (xB0 G) [t0, tc]) (htl : tl ≤ 60) (hch : ∀ j, ch j < 65536) (hx16 : x < 65536) : Met l yX3_add wsX3_add ({ frames := 0, cells := 0, slots := 0, locals := 0 } : Room) (xPc G [.ref t0, .int (nI x)] (fun H => va_P G.1 vwCl [(t0, .inr (3, [.ref tc, .int (nI tl)])), (tc, .inl (xcC G, 60, .inl (nf ch)))] H)) (xQ (σ := Unit) (fun _ => some (.int (bI (tl < 60)))) (fun _ H => va_P G.1 vwCl [(t0, .inr (3, [.ref tc, .int (nI (if tl < 60 then tl + 1 else tl))])), (tc, .inl (xcC G, 60, .inl (nf (if tl < 60 then updN ch tl x else ch))))] H) (fun q => q ∈ [t0, tc])) 0 0 (fun q => q ∈ [t0, tc]) := by
  refine xMet (cc := cX3_add) (nL := 2) (ret := (some (.boolean))) (by decide) rfl (Nat.le_of_ble_eq_true rfl) ?_
  intro p e s m below meth c S hr hlk_ hnm hE hP ls hl
  obtain ⟨hx, hb, hml, hown, hts⟩ := id S
  have hown : s.vm.findClass RX3 = some m.cls := hown
  have hK := hE.1
  have hS : va_S (fun q => q ∈ [t0, tc]) s.heap s.heap [] := va_S.rf
  have hA : ∀ q, (fun q => q ∈ [t0, tc]) q → xB0 G ≤ q := hdis.2
  have hP : va_P G.1 vwCl [(t0, .inr (3, [.ref tc, .int (nI tl)])), (tc, .inl (xcC G, 60, .inl (nf ch)))] s.heap := hP
  have hD : va_D (fun q => q ∈ [t0, tc]) [(t0, .inr (3, [.ref tc, .int (nI tl)])), (tc, .inl (xcC G, 60, .inl (nf ch)))] := (hdis.to rfl)
  have hl : lv_has ls 2 [(0, .ref t0), (1, .int (nI x))] := hl
  refine lv_aload_n hx hb dX3_add_0 rfl (lv_at hl 0 rfl) ?_
  refine va_get (D := G.1) (ci := 3) (v := .int (nI tl)) (C := RX3) (T := TX3) (N := 2) hx hb hts hi_X3_add_RX3 hown hK hP 0 rfl rfl 1 (by decide) (hts _ hw_X3_add_f15) (fun _ h9 => h9) rfl dX3_add_1 ?_
  refine n_if_lt (tgt := 16) hx hb (by omega) dX3_add_4 (by decide) (fun c_4 => ?_) (fun c_4 => ?_)
  · exact absurd c_4 (by omega)
  · refine lv_aload_n hx hb dX3_add_7 rfl (lv_at hl 0 rfl) ?_
    refine va_get (D := G.1) (ci := 3) (v := .int (nI tl)) (C := RX3) (T := TX3) (N := 2) hx hb hts hi_X3_add_RX3 hown hK hP 0 rfl rfl 1 (by decide) (hts _ hw_X3_add_f15) (fun _ h9 => h9) rfl dX3_add_8 ?_
    refine lv_bipush (v := nI 60) hx hb dX3_add_11 (by decide) ?_
    refine n_icmp_lt (tgt := 18) hx hb (by omega) (by omega) dX3_add_13 (by decide) (fun c_13 => ?_) (fun c_13 => ?_)
    · refine lv_aload_n hx hb dX3_add_18 rfl (lv_at hl 0 rfl) ?_
      refine va_get (D := G.1) (ci := 3) (v := .ref tc) (C := RX3) (T := TX3) (N := 2) hx hb hts hi_X3_add_RX3 hown hK hP 0 rfl rfl 0 (by decide) (hts _ hw_X3_add_f9) (fun _ h9 => h9) rfl dX3_add_19 ?_
      refine lv_aload_n hx hb dX3_add_22 rfl (lv_at hl 0 rfl) ?_
      refine va_get (D := G.1) (ci := 3) (v := .int (nI tl)) (C := RX3) (T := TX3) (N := 2) hx hb hts hi_X3_add_RX3 hown hK hP 0 rfl rfl 1 (by decide) (hts _ hw_X3_add_f15) (fun _ h9 => h9) rfl dX3_add_23 ?_
      refine lv_iload_n hx hb dX3_add_26 rfl (lv_at hl 1 rfl) ?_
      refine n_cast hx hb hK hP hD hS 1 1 rfl rfl (by omega) (by decide) hx16 dX3_add_27 (fun H locs hP hD hS => ?_)
      have hP : va_P G.1 vwCl [(t0, .inr (3, [.ref tc, .int (nI tl)])), (tc, .inl (xcC G, 60, .inl (nf (updN ch tl x))))] H := hP
      have hD : va_D (fun q => q ∈ [t0, tc]) [(t0, .inr (3, [.ref tc, .int (nI tl)])), (tc, .inl (xcC G, 60, .inl (nf (updN ch tl x))))] := hD
      refine lv_aload_n hx hb dX3_add_28 rfl (lv_at hl 0 rfl) ?_
      refine lv_dup hx hb dX3_add_29 rfl ?_
      refine va_get (D := G.1) (ci := 3) (v := .int (nI tl)) (C := RX3) (T := TX3) (N := 2) hx hb hts hi_X3_add_RX3 hown hK hP 0 rfl rfl 1 (by decide) (hts _ hw_X3_add_f15) (fun _ h9 => h9) rfl dX3_add_30 ?_
      refine lv_iconst (v := nI 1) hx hb dX3_add_33 rfl ?_
      refine n_iadd hx hb dX3_add_34 ?_
      refine va_put (D := G.1) (ci := 3) (v := .int (nI (tl + 1))) (ty := .int) (C := RX3) (T := TX3) (N := 2) hx hb hts hi_X3_add_RX3 tyX3 tyX3_ok nmX3 hown hK hP hD hS 0 rfl rfl 1 (by decide) (hts _ hw_X3_add_f15) (fun _ h9 => h9) rfl (by decide +kernel) rfl rfl (Nat.le_of_ble_eq_true rfl) dX3_add_35 (fun H locs hP hD hS => ?_)
      have hP : va_P G.1 vwCl [(t0, .inr (3, [.ref tc, .int (nI (tl + 1))])), (tc, .inl (xcC G, 60, .inl (nf (updN ch tl x))))] H := hP
      have hD : va_D (fun q => q ∈ [t0, tc]) [(t0, .inr (3, [.ref tc, .int (nI (tl + 1))])), (tc, .inl (xcC G, 60, .inl (nf (updN ch tl x))))] := hD
      refine lv_iconst (v := nI 1) hx hb dX3_add_38 rfl ?_
      exact xend_z () hx hb hr hlk_ hS (fun _ h => h) dX3_add_39 (by first | exact Or.inl rfl | exact Or.inr rfl) (by rw [bI_t c_13]; rfl) (by rw [if_pos c_13, if_pos c_13]; exact hP) (Nat.le_refl _) (Nat.le_refl _)
    · refine lv_iconst (v := nI 0) hx hb dX3_add_16 rfl ?_
      exact xend_z () hx hb hr hlk_ hS (fun _ h => h) dX3_add_17 (by first | exact Or.inl rfl | exact Or.inr rfl) (by rw [bI_f (Nat.not_lt.mpr c_13)]; rfl) (by rw [if_neg (Nat.not_lt.mpr c_13), if_neg (Nat.not_lt.mpr c_13)]; exact hP) (Nat.le_refl _) (Nat.le_refl _)

theorem hw_X3_empty_f15 : Cond.fieldLink RX3 15 "TailVectors$Text" "length" "I" ∈ wsX3_empty := by decide +kernel
theorem hi_X3_empty_RX3 : ∀ w ∈ u_ws RX3 TX3 2, w ∈ wsX3_empty := by decide +kernel
set_option maxHeartbeats 4000000 in
set_option maxRecDepth 100000 in
theorem c_X3_empty (l : Launch) (G : xG) (t0 : Nat) (tc : Nat) (tl : Nat) (ch : Nat → Nat) (hdis : xDis (xB0 G) [t0, tc]) (htl : tl ≤ 60) (hch : ∀ j, ch j < 65536) : Met l yX3_empty wsX3_empty ({ frames := 0, cells := 0, slots := 0, locals := 0 } : Room) (xPc G [.ref t0] (fun H => va_P G.1 vwCl [(t0, .inr (3, [.ref tc, .int (nI tl)])), (tc, .inl (xcC G, 60, .inl (nf ch)))] H)) (xQ (σ := Unit) (fun _ => none) (fun _ H => va_P G.1 vwCl [(t0, .inr (3, [.ref tc, .int (nI 0)])), (tc, .inl (xcC G, 60, .inl (nf ch)))] H) (fun q => q ∈ [t0, tc])) 0 0 (fun q => q ∈ [t0, tc]) := by
  refine xMet (cc := cX3_empty) (nL := 1) (ret := none) (by decide) rfl (Nat.le_of_ble_eq_true rfl) ?_
  intro p e s m below meth c S hr hlk_ hnm hE hP ls hl
  obtain ⟨hx, hb, hml, hown, hts⟩ := id S
  have hown : s.vm.findClass RX3 = some m.cls := hown
  have hK := hE.1
  have hS : va_S (fun q => q ∈ [t0, tc]) s.heap s.heap [] := va_S.rf
  have hA : ∀ q, (fun q => q ∈ [t0, tc]) q → xB0 G ≤ q := hdis.2
  have hP : va_P G.1 vwCl [(t0, .inr (3, [.ref tc, .int (nI tl)])), (tc, .inl (xcC G, 60, .inl (nf ch)))] s.heap := hP
  have hD : va_D (fun q => q ∈ [t0, tc]) [(t0, .inr (3, [.ref tc, .int (nI tl)])), (tc, .inl (xcC G, 60, .inl (nf ch)))] := (hdis.to rfl)
  have hl : lv_has ls 1 [(0, .ref t0)] := hl
  refine lv_aload_n hx hb dX3_empty_0 rfl (lv_at hl 0 rfl) ?_
  refine lv_iconst (v := nI 0) hx hb dX3_empty_1 rfl ?_
  refine va_put (D := G.1) (ci := 3) (v := .int (nI 0)) (ty := .int) (C := RX3) (T := TX3) (N := 2) hx hb hts hi_X3_empty_RX3 tyX3 tyX3_ok nmX3 hown hK hP hD hS 0 rfl rfl 1 (by decide) (hts _ hw_X3_empty_f15) (fun _ h9 => h9) rfl (by decide +kernel) rfl rfl (Nat.le_of_ble_eq_true rfl) dX3_empty_2 (fun H locs hP hD hS => ?_)
  have hP : va_P G.1 vwCl [(t0, .inr (3, [.ref tc, .int (nI 0)])), (tc, .inl (xcC G, 60, .inl (nf ch)))] H := hP
  have hD : va_D (fun q => q ∈ [t0, tc]) [(t0, .inr (3, [.ref tc, .int (nI 0)])), (tc, .inl (xcC G, 60, .inl (nf ch)))] := hD
  exact xend_v () hx hb hr hlk_ hS (fun _ h => h) dX3_empty_5 rfl hP (Nat.le_refl _) (Nat.le_refl _)

def ftL (ch : Nat → Nat) (tl : Nat) : Nat → Nat → Nat → Int32
  | 0, _, d => if d = 0 then nI tl else -1
  | f + 1, i, d => if 48 ≤ ch i ∧ ch i ≤ 57 then (if (d = 1 ∧ ch (i - 1) = 48) ∨ d = 3 then nI i else ftL ch tl f (i + 1) (d + 1))
    else if ch i = 44 ∧ 0 < d then ftL ch tl f (i + 1) 0 else nI i
theorem ftL_s {ch : Nat → Nat} {tl f i d : Nat} (h : 0 < f) : ftL ch tl f i d = if 48 ≤ ch i ∧ ch i ≤ 57 then (if (d = 1 ∧ ch (i - 1) = 48) ∨ d = 3 then nI i else ftL ch tl (f - 1) (i + 1) (d + 1))
    else if ch i = 44 ∧ 0 < d then ftL ch tl (f - 1) (i + 1) 0 else nI i := by
  cases f with
  | zero => omega
  | succ f => rfl
noncomputable def cmN (ch : Nat → Nat) : Nat → Nat := sumN (fun z => bN (ch z = 44))
def vlS (ch : Nat → Nat) (n : Nat) : Nat → Nat × (Nat → Int32)
  | 0 => (0, fun _ => 0)
  | i + 1 => if ch i = 44 then ((vlS ch n i).1 + 1, (vlS ch n i).2)
    else if (vlS ch n i).1 < n then ((vlS ch n i).1, upd (vlS ch n i).2 (vlS ch n i).1 ((vlS ch n i).2 (vlS ch n i).1 * nI 10 + (nI (ch i) - nI 48)))
    else vlS ch n i
theorem vlS_at (ch : Nat → Nat) (n : Nat) : ∀ i, (vlS ch n i).1 ≤ i
  | 0 => Nat.le_refl _
  | i + 1 => by
    have h := vlS_at ch n i
    unfold vlS
    split
    · show (vlS ch n i).1 + 1 ≤ i + 1; omega
    · split
      · show (vlS ch n i).1 ≤ i + 1; omega
      · omega
theorem sumN_b (P : Nat → Prop) : ∀ k, sumN (fun z => bN (P z)) k ≤ k
  | 0 => Nat.le_refl _
  | k + 1 => by
    have h1 := sumN_b P k
    have h2 := bN_le (P k)
    show _ + bN _ ≤ _
    omega

theorem hw_X3_fault_f15 : Cond.fieldLink RX3 15 "TailVectors$Text" "length" "I" ∈ wsX3_fault := by decide +kernel
theorem hi_X3_fault_RX3 : ∀ w ∈ u_ws RX3 TX3 2, w ∈ wsX3_fault := by decide +kernel
set_option maxHeartbeats 4000000 in
set_option maxRecDepth 100000 in
theorem c_X3_fault (l : Launch) (G : xG) (t0 : Nat) (tc : Nat) (tl : Nat) (ch : Nat → Nat) (htl : tl ≤ 60) (hch : ∀ j, ch j < 65536) : Met l yX3_fault wsX3_fault ({ frames := 1, cells := 0, slots := 0, locals := 21 } : Room) (xPc G [.ref t0] (fun H => va_P G.1 vwCl [(t0, .inr (3, [.ref tc, .int (nI tl)])), (tc, .inl (xcC G, 60, .inl (nf ch)))] H)) (k2_QcV (.int (ftL ch tl tl 0 0))) 0 0 (fun _ => False) := by
  refine xMet (cc := cX3_fault) (nL := 5) (ret := (some (.int))) (by decide) rfl (Nat.le_of_ble_eq_true rfl) ?_
  intro p e s m below meth c S hr hlk_ hnm hE hP ls hl
  obtain ⟨hx, hb, hml, hown, hts⟩ := id S
  have hown : s.vm.findClass RX3 = some m.cls := hown
  have hK := hE.1
  have hS : va_S (fun _ : Nat => False) s.heap s.heap [] := va_S.rf
  have hA : ∀ q, (fun _ : Nat => False) q → xB0 G ≤ q := fun _ h => h.elim
  have hP : va_P G.1 vwCl [(t0, .inr (3, [.ref tc, .int (nI tl)])), (tc, .inl (xcC G, 60, .inl (nf ch)))] s.heap := hP
  have hl : lv_has ls 5 [(0, .ref t0)] := hl
  refine lv_iconst (v := nI 0) hx hb dX3_fault_0 rfl ?_
  refine lv_istore_n (lv' := [(1, .int (nI 0)), (0, .ref t0)]) hx hb dX3_fault_1 rfl hl (by decide) rfl (fun ls hl => ?_)
  refine lv_iconst (v := nI 0) hx hb dX3_fault_2 rfl ?_
  refine lv_istore_n (lv' := [(2, .int (nI 0)), (1, .int (nI 0)), (0, .ref t0)]) hx hb dX3_fault_3 rfl hl (by decide) rfl (fun ls hl => ?_)
  have hl : lv_has ls 5 [(2, .int (nI 0)), (1, .int (nI 0)), (0, .ref t0)] := lv_sub hl [0, 1, 2] rfl
  refine xloopR (σ := Nat × Nat) (C := (fun (x_ : Nat × Nat) ls => (x_.1 ≤ tl) ∧ (ftL ch tl (tl - x_.1) x_.1 x_.2 = ftL ch tl tl 0 0) ∧ (x_.2 ≤ x_.1) ∧ lv_has ls 5 [(2, .int (nI x_.1)), (1, .int (nI x_.2)), (0, .ref t0)])) (μ := (fun (x_ : Nat × Nat) => tl - x_.1)) (W' := fun ls => W p l e _ s m _ below meth c _ _ _ _ _ (F0 m 4 ls [])) ?_ ⟨0, 0⟩ _ ⟨(Nat.zero_le _), rfl, (Nat.le_refl _), hl⟩
  intro x_ ls hC ih_4
  obtain ⟨i, d⟩ := x_
  obtain ⟨hi, hL, hd, hl⟩ := hC
  replace hi : i ≤ tl := hi
  replace hL : ftL ch tl (tl - i) i d = ftL ch tl tl 0 0 := hL
  replace hd : d ≤ i := hd
  replace hl : lv_has ls 5 [(2, .int (nI i)), (1, .int (nI d)), (0, .ref t0)] := hl
  refine id ?_
  refine lv_iload_n hx hb dX3_fault_4 rfl (lv_at hl 0 rfl) ?_
  refine lv_aload_n hx hb dX3_fault_5 rfl (lv_at hl 2 rfl) ?_
  refine va_get (D := G.1) (ci := 3) (v := .int (nI tl)) (C := RX3) (T := TX3) (N := 2) hx hb hts hi_X3_fault_RX3 hown hK hP 0 rfl rfl 1 (by decide) (hts _ hw_X3_fault_f15) (fun _ h9 => h9) rfl dX3_fault_6 ?_
  refine n_icmp_ge (tgt := 90) hx hb (by omega) (by omega) dX3_fault_9 (by decide) (fun c_9 => ?_) (fun c_9 => ?_)
  · refine lv_iload_n hx hb dX3_fault_90 rfl (lv_at hl 1 rfl) ?_
    refine n_if_ne (tgt := 101) hx hb (by omega) dX3_fault_91 (by decide) (fun c_91 => ?_) (fun c_91 => ?_)
    · refine lv_iconst (v := (-1)) hx hb dX3_fault_101 rfl ?_
      have hL := hL
      rw [show tl - i = 0 by omega] at hL
      exact xret_i hx hb hr hlk_ dX3_fault_102 (by rw [← hL]; exact (if_neg c_91).symm)
    · refine lv_aload_n hx hb dX3_fault_94 rfl (lv_at hl 2 rfl) ?_
      refine va_get (D := G.1) (ci := 3) (v := .int (nI tl)) (C := RX3) (T := TX3) (N := 2) hx hb hts hi_X3_fault_RX3 hown hK hP 0 rfl rfl 1 (by decide) (hts _ hw_X3_fault_f15) (fun _ h9 => h9) rfl dX3_fault_95 ?_
      refine lv_goto (tgt := 102) hx hb dX3_fault_98 (by decide) ?_
      have hL := hL
      rw [show tl - i = 0 by omega] at hL
      exact xret_i hx hb hr hlk_ dX3_fault_102 (by rw [← hL]; exact (if_pos c_91).symm)
  · refine lv_aload_n hx hb dX3_fault_12 rfl (lv_at hl 2 rfl) ?_
    refine lv_iload_n hx hb dX3_fault_13 rfl (lv_at hl 0 rfl) ?_
    refine xrd (xrunV (As := [.int (nI i)]) (rest := []) S (c_X3_characterAt l G t0 tc tl ch i htl hch (by omega)) (cwV 1 hts gX3_fault_X3_characterAt rfl rfl rfl (by decide +kernel) ⟨Nat.le_of_ble_eq_true rfl, Nat.le_of_ble_eq_true rfl⟩) hE hS hA 0 3 hP rfl rfl rfl hP rfl rfl hl.1 (Nat.le_of_ble_eq_true rfl) dX3_fault_14 ⟨Nat.le_of_ble_eq_true rfl, Nat.le_of_ble_eq_true rfl⟩) ?_
    refine lv_istore_n (lv' := [(3, .int (nI (ch i))), (2, .int (nI i)), (1, .int (nI d)), (0, .ref t0)]) hx hb dX3_fault_17 rfl hl (by decide) rfl (fun ls hl => ?_)
    refine lv_iload_n hx hb dX3_fault_18 rfl (lv_at hl 0 rfl) ?_
    refine xrd (xrunS (As := [.int (nI (ch i))]) (rest := []) S (c_X3_isDigit l G (ch i) (hch i)) (va_cwS 1 hts gX3_fault_X3_isDigit rfl rfl rfl (by decide +kernel) ⟨Nat.le_of_ble_eq_true rfl, Nat.le_of_ble_eq_true rfl⟩) hE hS hA trivial rfl rfl hl.1 (Nat.le_of_ble_eq_true rfl) dX3_fault_19 ⟨Nat.le_of_ble_eq_true rfl, Nat.le_of_ble_eq_true rfl⟩) ?_
    refine b_if_eq (tgt := 67) hx hb dX3_fault_22 (by decide) (fun c_22 => ?_) (fun c_22 => ?_)
    · refine lv_iload_n hx hb dX3_fault_67 rfl (lv_at hl 0 rfl) ?_
      refine lv_bipush (v := nI 44) hx hb dX3_fault_68 (by decide) ?_
      refine n_icmp_ne (tgt := 82) hx hb (by have := hch i; omega) (by omega) dX3_fault_70 (by decide) (fun c_70 => ?_) (fun c_70 => ?_)
      · refine lv_iload_n hx hb dX3_fault_82 rfl (lv_at hl 1 rfl) ?_
        exact xret_i hx hb hr hlk_ dX3_fault_83 (by rw [← hL, ftL_s (f := tl - i) (by omega), if_neg c_22, if_neg (fun z => c_70 z.1)])
      · refine lv_iload_n hx hb dX3_fault_73 rfl (lv_at hl 2 rfl) ?_
        refine n_if_le (tgt := 82) hx hb (by omega) dX3_fault_74 (by decide) (fun c_74 => ?_) (fun c_74 => ?_)
        · refine lv_iload_n hx hb dX3_fault_82 rfl (lv_at hl 1 rfl) ?_
          exact xret_i hx hb hr hlk_ dX3_fault_83 (by rw [← hL, ftL_s (f := tl - i) (by omega), if_neg c_22, if_neg (fun z => absurd z.2 (Nat.not_lt.mpr c_74))])
        · refine lv_iconst (v := nI 0) hx hb dX3_fault_77 rfl ?_
          refine lv_istore_n (lv' := [(1, .int (nI 0)), (3, .int (nI (ch i))), (2, .int (nI i)), (0, .ref t0)]) hx hb dX3_fault_78 rfl hl (by decide) rfl (fun ls hl => ?_)
          refine lv_goto (tgt := 84) hx hb dX3_fault_79 (by decide) ?_
          refine lv_iinc (v := nI (i + 1)) (lv' := [(2, .int (nI (i + 1))), (1, .int (nI 0)), (3, .int (nI (ch i))), (0, .ref t0)]) hx hb dX3_fault_84 hl (k := 2) rfl (nI_add i 1) (by decide) rfl (fun ls hl => ?_)
          refine lv_goto (tgt := 4) hx hb dX3_fault_87 (by decide) ?_
          have hl : lv_has ls 5 [(2, .int (nI (i + 1))), (1, .int (nI 0)), (0, .ref t0)] := lv_sub hl [0, 1, 3] rfl
          exact ih_4 ⟨i + 1, 0⟩ _ (by show tl - (i + 1) < tl - i; omega) ⟨(by dsimp only; omega), (by dsimp only; rw [← hL, ftL_s (f := tl - i) (by omega), if_neg c_22, if_pos ⟨c_70, c_74⟩, show tl - (i + 1) = tl - i - 1 by omega]), (by dsimp only; omega), hl⟩
    · refine lv_iload_n hx hb dX3_fault_25 rfl (lv_at hl 2 rfl) ?_
      refine lv_iconst (v := nI 1) hx hb dX3_fault_26 rfl ?_
      refine n_icmp_ne (tgt := 46) hx hb (by omega) (by omega) dX3_fault_27 (by decide) (fun c_27 => ?_) (fun c_27 => ?_)
      · refine lv_iconst (v := nI 0) hx hb dX3_fault_46 rfl ?_
        refine lv_istore (lv' := [(4, .int (nI 0)), (3, .int (nI (ch i))), (2, .int (nI i)), (1, .int (nI d)), (0, .ref t0)]) hx hb dX3_fault_47 hl (by decide) rfl (fun ls hl => ?_)
        refine lv_iload hx hb dX3_fault_49 (lv_at hl 0 rfl) ?_
        refine n_if_ne (tgt := 59) hx hb (by omega) dX3_fault_51 (by decide) (fun c_51 => ?_) (fun c_51 => ?_)
        · exact absurd c_51 (by decide)
        · refine lv_iload_n hx hb dX3_fault_54 rfl (lv_at hl 3 rfl) ?_
          refine lv_iconst (v := nI 3) hx hb dX3_fault_55 rfl ?_
          refine n_icmp_ne (tgt := 61) hx hb (by omega) (by omega) dX3_fault_56 (by decide) (fun c_56 => ?_) (fun c_56 => ?_)
          · refine lv_iinc (v := nI (d + 1)) (lv' := [(1, .int (nI (d + 1))), (4, .int (nI 0)), (3, .int (nI (ch i))), (2, .int (nI i)), (0, .ref t0)]) hx hb dX3_fault_61 hl (k := 3) rfl (nI_add d 1) (by decide) rfl (fun ls hl => ?_)
            refine lv_goto (tgt := 84) hx hb dX3_fault_64 (by decide) ?_
            refine lv_iinc (v := nI (i + 1)) (lv' := [(2, .int (nI (i + 1))), (1, .int (nI (d + 1))), (4, .int (nI 0)), (3, .int (nI (ch i))), (0, .ref t0)]) hx hb dX3_fault_84 hl (k := 3) rfl (nI_add i 1) (by decide) rfl (fun ls hl => ?_)
            refine lv_goto (tgt := 4) hx hb dX3_fault_87 (by decide) ?_
            have hl : lv_has ls 5 [(2, .int (nI (i + 1))), (1, .int (nI (d + 1))), (0, .ref t0)] := lv_sub hl [0, 1, 4] rfl
            exact ih_4 ⟨i + 1, d + 1⟩ _ (by show tl - (i + 1) < tl - i; omega) ⟨(by dsimp only; omega), (by dsimp only; rw [← hL, ftL_s (f := tl - i) (by omega), if_pos c_22, if_neg (fun q => q.elim (fun w => c_27 w.1) c_56), show tl - (i + 1) = tl - i - 1 by omega]), (by dsimp only; omega), hl⟩
          · refine lv_iload_n hx hb dX3_fault_59 rfl (lv_at hl 2 rfl) ?_
            exact xret_i hx hb hr hlk_ dX3_fault_60 (by rw [← hL, ftL_s (f := tl - i) (by omega), if_pos c_22, if_pos (Or.inr c_56)])
      · refine lv_aload_n hx hb dX3_fault_30 rfl (lv_at hl 3 rfl) ?_
        refine lv_iload_n hx hb dX3_fault_31 rfl (lv_at hl 1 rfl) ?_
        refine lv_iconst (v := nI 1) hx hb dX3_fault_32 rfl ?_
        refine n_isub hx hb (by omega) dX3_fault_33 ?_
        refine xrd (xrunV (As := [.int (nI (i - 1))]) (rest := []) S (c_X3_characterAt l G t0 tc tl ch (i - 1) htl hch (by omega)) (cwV 1 hts gX3_fault_X3_characterAt rfl rfl rfl (by decide +kernel) ⟨Nat.le_of_ble_eq_true rfl, Nat.le_of_ble_eq_true rfl⟩) hE hS hA 0 3 hP rfl rfl rfl hP rfl rfl hl.1 (Nat.le_of_ble_eq_true rfl) dX3_fault_34 ⟨Nat.le_of_ble_eq_true rfl, Nat.le_of_ble_eq_true rfl⟩) ?_
        refine lv_bipush (v := nI 48) hx hb dX3_fault_37 (by decide) ?_
        refine n_icmp_ne (tgt := 46) hx hb (by have := hch (i - 1); omega) (by omega) dX3_fault_39 (by decide) (fun c_39 => ?_) (fun c_39 => ?_)
        · refine lv_iconst (v := nI 0) hx hb dX3_fault_46 rfl ?_
          refine lv_istore (lv' := [(4, .int (nI 0)), (3, .int (nI (ch i))), (2, .int (nI i)), (1, .int (nI d)), (0, .ref t0)]) hx hb dX3_fault_47 hl (by decide) rfl (fun ls hl => ?_)
          refine lv_iload hx hb dX3_fault_49 (lv_at hl 0 rfl) ?_
          refine n_if_ne (tgt := 59) hx hb (by omega) dX3_fault_51 (by decide) (fun c_51 => ?_) (fun c_51 => ?_)
          · exact absurd c_51 (by decide)
          · refine lv_iload_n hx hb dX3_fault_54 rfl (lv_at hl 3 rfl) ?_
            refine lv_iconst (v := nI 3) hx hb dX3_fault_55 rfl ?_
            refine n_icmp_ne (tgt := 61) hx hb (by omega) (by omega) dX3_fault_56 (by decide) (fun c_56 => ?_) (fun c_56 => ?_)
            · refine lv_iinc (v := nI (d + 1)) (lv' := [(1, .int (nI (d + 1))), (4, .int (nI 0)), (3, .int (nI (ch i))), (2, .int (nI i)), (0, .ref t0)]) hx hb dX3_fault_61 hl (k := 3) rfl (nI_add d 1) (by decide) rfl (fun ls hl => ?_)
              refine lv_goto (tgt := 84) hx hb dX3_fault_64 (by decide) ?_
              refine lv_iinc (v := nI (i + 1)) (lv' := [(2, .int (nI (i + 1))), (1, .int (nI (d + 1))), (4, .int (nI 0)), (3, .int (nI (ch i))), (0, .ref t0)]) hx hb dX3_fault_84 hl (k := 3) rfl (nI_add i 1) (by decide) rfl (fun ls hl => ?_)
              refine lv_goto (tgt := 4) hx hb dX3_fault_87 (by decide) ?_
              have hl : lv_has ls 5 [(2, .int (nI (i + 1))), (1, .int (nI (d + 1))), (0, .ref t0)] := lv_sub hl [0, 1, 4] rfl
              exact ih_4 ⟨i + 1, d + 1⟩ _ (by show tl - (i + 1) < tl - i; omega) ⟨(by dsimp only; omega), (by dsimp only; rw [← hL, ftL_s (f := tl - i) (by omega), if_pos c_22, if_neg (fun q => q.elim (fun w => c_39 w.2) c_56), show tl - (i + 1) = tl - i - 1 by omega]), (by dsimp only; omega), hl⟩
            · refine lv_iload_n hx hb dX3_fault_59 rfl (lv_at hl 2 rfl) ?_
              exact xret_i hx hb hr hlk_ dX3_fault_60 (by rw [← hL, ftL_s (f := tl - i) (by omega), if_pos c_22, if_pos (Or.inr c_56)])
        · refine lv_iconst (v := nI 1) hx hb dX3_fault_42 rfl ?_
          refine lv_goto (tgt := 47) hx hb dX3_fault_43 (by decide) ?_
          refine lv_istore (lv' := [(4, .int (nI 1)), (3, .int (nI (ch i))), (2, .int (nI i)), (1, .int (nI d)), (0, .ref t0)]) hx hb dX3_fault_47 hl (by decide) rfl (fun ls hl => ?_)
          refine lv_iload hx hb dX3_fault_49 (lv_at hl 0 rfl) ?_
          refine n_if_ne (tgt := 59) hx hb (by omega) dX3_fault_51 (by decide) (fun c_51 => ?_) (fun c_51 => ?_)
          · refine lv_iload_n hx hb dX3_fault_59 rfl (lv_at hl 2 rfl) ?_
            exact xret_i hx hb hr hlk_ dX3_fault_60 (by rw [← hL, ftL_s (f := tl - i) (by omega), if_pos c_22, if_pos (Or.inl ⟨c_27, c_39⟩)])
          · exact absurd c_51 (by decide)

theorem hw_X3_commas_f15 : Cond.fieldLink RX3 15 "TailVectors$Text" "length" "I" ∈ wsX3_commas := by decide +kernel
theorem hi_X3_commas_RX3 : ∀ w ∈ u_ws RX3 TX3 2, w ∈ wsX3_commas := by decide +kernel
set_option maxHeartbeats 4000000 in
set_option maxRecDepth 100000 in
theorem c_X3_commas (l : Launch) (G : xG) (t0 : Nat) (tc : Nat) (tl : Nat) (ch : Nat → Nat) (htl : tl ≤ 60) (hch : ∀ j, ch j < 65536) : Met l yX3_commas wsX3_commas ({ frames := 1, cells := 0, slots := 0, locals := 21 } : Room) (xPc G [.ref t0] (fun H => va_P G.1 vwCl [(t0, .inr (3, [.ref tc, .int (nI tl)])), (tc, .inl (xcC G, 60, .inl (nf ch)))] H)) (k2_QcV (.int (nI (cmN ch tl)))) 0 0 (fun _ => False) := by
  refine xMet (cc := cX3_commas) (nL := 3) (ret := (some (.int))) (by decide) rfl (Nat.le_of_ble_eq_true rfl) ?_
  intro p e s m below meth c S hr hlk_ hnm hE hP ls hl
  obtain ⟨hx, hb, hml, hown, hts⟩ := id S
  have hown : s.vm.findClass RX3 = some m.cls := hown
  have hK := hE.1
  have hS : va_S (fun _ : Nat => False) s.heap s.heap [] := va_S.rf
  have hA : ∀ q, (fun _ : Nat => False) q → xB0 G ≤ q := fun _ h => h.elim
  have hP : va_P G.1 vwCl [(t0, .inr (3, [.ref tc, .int (nI tl)])), (tc, .inl (xcC G, 60, .inl (nf ch)))] s.heap := hP
  have hl : lv_has ls 3 [(0, .ref t0)] := hl
  refine lv_iconst (v := nI 0) hx hb dX3_commas_0 rfl ?_
  refine lv_istore_n (lv' := [(1, .int (nI 0)), (0, .ref t0)]) hx hb dX3_commas_1 rfl hl (by decide) rfl (fun ls hl => ?_)
  refine lv_iconst (v := nI 0) hx hb dX3_commas_2 rfl ?_
  refine lv_istore_n (lv' := [(2, .int (nI 0)), (1, .int (nI 0)), (0, .ref t0)]) hx hb dX3_commas_3 rfl hl (by decide) rfl (fun ls hl => ?_)
  have hl : lv_has ls 3 [(2, .int (nI 0)), (1, .int (nI (cmN ch 0))), (0, .ref t0)] := lv_sub hl [0, 1, 2] rfl
  refine xloopR (σ := Nat) (C := (fun (x_ : Nat) ls => (x_ ≤ tl) ∧ lv_has ls 3 [(2, .int (nI x_)), (1, .int (nI (cmN ch x_))), (0, .ref t0)])) (μ := (fun (x_ : Nat) => tl - x_)) (W' := fun ls => W p l e _ s m _ below meth c _ _ _ _ _ (F0 m 4 ls [])) ?_ 0 _ ⟨(Nat.zero_le _), hl⟩
  intro x_ ls hC ih_4
  obtain ⟨j, rfl⟩ : ∃ z, z = x_ := ⟨x_, rfl⟩
  obtain ⟨hj, hl⟩ := hC
  replace hj : j ≤ tl := hj
  replace hl : lv_has ls 3 [(2, .int (nI j)), (1, .int (nI (cmN ch j))), (0, .ref t0)] := hl
  refine id ?_
  refine lv_iload_n hx hb dX3_commas_4 rfl (lv_at hl 0 rfl) ?_
  refine lv_aload_n hx hb dX3_commas_5 rfl (lv_at hl 2 rfl) ?_
  refine va_get (D := G.1) (ci := 3) (v := .int (nI tl)) (C := RX3) (T := TX3) (N := 2) hx hb hts hi_X3_commas_RX3 hown hK hP 0 rfl rfl 1 (by decide) (hts _ hw_X3_commas_f15) (fun _ h9 => h9) rfl dX3_commas_6 ?_
  refine n_icmp_ge (tgt := 31) hx hb (by omega) (by omega) dX3_commas_9 (by decide) (fun c_9 => ?_) (fun c_9 => ?_)
  · refine lv_iload_n hx hb dX3_commas_31 rfl (lv_at hl 1 rfl) ?_
    exact xret_i hx hb hr hlk_ dX3_commas_32 (by rw [show j = tl by omega])
  · refine lv_aload_n hx hb dX3_commas_12 rfl (lv_at hl 2 rfl) ?_
    refine lv_iload_n hx hb dX3_commas_13 rfl (lv_at hl 0 rfl) ?_
    refine xrd (xrunV (As := [.int (nI j)]) (rest := []) S (c_X3_characterAt l G t0 tc tl ch j htl hch (by omega)) (cwV 1 hts gX3_commas_X3_characterAt rfl rfl rfl (by decide +kernel) ⟨Nat.le_of_ble_eq_true rfl, Nat.le_of_ble_eq_true rfl⟩) hE hS hA 0 3 hP rfl rfl rfl hP rfl rfl hl.1 (Nat.le_of_ble_eq_true rfl) dX3_commas_14 ⟨Nat.le_of_ble_eq_true rfl, Nat.le_of_ble_eq_true rfl⟩) ?_
    refine lv_bipush (v := nI 44) hx hb dX3_commas_17 (by decide) ?_
    refine n_icmp_ne (tgt := 25) hx hb (by have := hch j; omega) (by omega) dX3_commas_19 (by decide) (fun c_19 => ?_) (fun c_19 => ?_)
    · refine lv_iinc (v := nI (j + 1)) (lv' := [(2, .int (nI (j + 1))), (1, .int (nI (cmN ch j))), (0, .ref t0)]) hx hb dX3_commas_25 hl (k := 0) rfl (nI_add j 1) (by decide) rfl (fun ls hl => ?_)
      refine lv_goto (tgt := 4) hx hb dX3_commas_28 (by decide) ?_
      rw [show cmN ch j = cmN ch (j + 1) from sumB_f (Q := fun z => ch z = 44) c_19] at hl
      have hl : lv_has ls 3 [(2, .int (nI (j + 1))), (1, .int (nI (cmN ch (j + 1)))), (0, .ref t0)] := lv_sub hl [0, 1, 2] rfl
      exact ih_4 (j + 1) _ (by show tl - (j + 1) < tl - j; omega) ⟨(by (try dsimp only); omega), hl⟩
    · refine lv_iinc (v := nI (cmN ch j + 1)) (lv' := [(1, .int (nI (cmN ch j + 1))), (2, .int (nI j)), (0, .ref t0)]) hx hb dX3_commas_22 hl (k := 1) rfl (nI_add (cmN ch j) 1) (by decide) rfl (fun ls hl => ?_)
      refine lv_iinc (v := nI (j + 1)) (lv' := [(2, .int (nI (j + 1))), (1, .int (nI (cmN ch j + 1))), (0, .ref t0)]) hx hb dX3_commas_25 hl (k := 1) rfl (nI_add j 1) (by decide) rfl (fun ls hl => ?_)
      refine lv_goto (tgt := 4) hx hb dX3_commas_28 (by decide) ?_
      rw [show cmN ch j + 1 = cmN ch (j + 1) from sumB_t (Q := fun z => ch z = 44) c_19] at hl
      have hl : lv_has ls 3 [(2, .int (nI (j + 1))), (1, .int (nI (cmN ch (j + 1)))), (0, .ref t0)] := lv_sub hl [0, 1, 2] rfl
      exact ih_4 (j + 1) _ (by show tl - (j + 1) < tl - j; omega) ⟨(by (try dsimp only); omega), hl⟩

theorem hw_X3_values_acint : Cond.arrayClass .int ∈ wsX3_values := by decide +kernel
theorem hw_X3_values_f15 : Cond.fieldLink RX3 15 "TailVectors$Text" "length" "I" ∈ wsX3_values := by decide +kernel
theorem hi_X3_values_RX3 : ∀ w ∈ u_ws RX3 TX3 2, w ∈ wsX3_values := by decide +kernel
set_option maxHeartbeats 4000000 in
set_option maxRecDepth 100000 in
theorem c_X3_values (l : Launch) (G : xG) (t0 : Nat) (tc : Nat) (tl : Nat) (ch : Nat → Nat) (sz : Nat) (htl : tl ≤ 60) (hch : ∀ j, ch j < 65536) (hsz0 : xB0 G ≤ sz) : Met l yX3_values wsX3_values ({ frames := 2, cells := 1, slots := 61, locals := 43 } : Room) (xPc G [.ref t0] (fun H => H.size = sz ∧ va_P G.1 vwCl [(t0, .inr (3, [.ref tc, .int (nI tl)])), (tc, .inl (xcC G, 60, .inl (nf ch)))] H)) (xQ (σ := Nat) (fun u => some (.ref u)) (fun u H => va_P G.1 vwCl [(u, .inl (xcI G, cmN ch tl + 1, .inl (vlS ch (cmN ch tl + 1) tl).2))] H ∧ xDis (xB0 G) [u] ∧ sz ≤ u) (fun q => q ∈ ([] : List Nat) ∨ sz ≤ q)) 1 61 (fun q => q ∈ ([] : List Nat) ∨ sz ≤ q) := by
  refine xMet (cc := cX3_values) (nL := 5) (ret := (some ((.array .int)))) (by decide) rfl (Nat.le_of_ble_eq_true rfl) ?_
  intro p e s m below meth c S hr hlk_ hnm hE hP ls hl
  obtain ⟨hx, hb, hml, hown, hts⟩ := id S
  have hown : s.vm.findClass RX3 = some m.cls := hown
  have hK := hE.1
  have hS : va_S (fun q => q ∈ ([] : List Nat) ∨ sz ≤ q) s.heap s.heap [] := va_S.rf
  have hA : ∀ q, (fun q => q ∈ ([] : List Nat) ∨ sz ≤ q) q → xB0 G ≤ q := (fun q h => h.elim (fun z => absurd z List.not_mem_nil) (fun z => Nat.le_trans hsz0 z))
  obtain ⟨hsz, hPo⟩ := hP
  have hAn : ∀ q, s.heap.size ≤ q → (fun q => q ∈ ([] : List Nat) ∨ sz ≤ q) q := fun q h => Or.inr (by rw [← hsz]; exact h)
  have hPoA : ∀ q ∈ ([(t0, .inr (3, [.ref tc, .int (nI tl)])), (tc, .inl (xcC G, 60, .inl (nf ch)))] : va_W).map (fun x => x.1), ¬ (q ∈ ([] : List Nat) ∨ sz ≤ q) := fun q hq z => z.elim (fun y => absurd y List.not_mem_nil) (fun y => absurd (x_lt hPo hq) (Nat.not_lt.mpr (by rw [hsz]; exact y)))
  have hP : va_P G.1 vwCl [] s.heap := fun k q h => by simp at h
  have hD : va_D (fun q => q ∈ ([] : List Nat) ∨ sz ≤ q) [] := ⟨fun i j p q h => by simp at h, fun k q h => by simp at h⟩
  have hcm : cmN ch tl ≤ 60 := Nat.le_trans (sumN_b _ _) htl
  have hl : lv_has ls 5 [(0, .ref t0)] := hl
  refine lv_aload_n hx hb dX3_values_0 rfl (lv_at hl 0 rfl) ?_
  refine xrd (xrunV (As := []) (rest := []) S (c_X3_commas l G t0 tc tl ch htl hch) (cwV 0 hts gX3_values_X3_commas rfl rfl rfl (by decide +kernel) ⟨Nat.le_of_ble_eq_true rfl, Nat.le_of_ble_eq_true rfl⟩) hE hS hA 0 3 (x_ro hPo hS hPoA) rfl rfl rfl (x_ro hPo hS hPoA) rfl rfl hl.1 (Nat.le_of_ble_eq_true rfl) dX3_values_1 ⟨Nat.le_of_ble_eq_true rfl, Nat.le_of_ble_eq_true rfl⟩) ?_
  refine lv_iconst (v := nI 1) hx hb dX3_values_4 rfl ?_
  refine n_iadd hx hb dX3_values_5 ?_
  refine va_newa (atype := .int) (ty := .int) (a0 := ((cmN ch tl) + 1, .inl (fun _ => 0))) hx hb (hts _ hw_X3_values_acint) rfl hK hP hD hS hAn (fun _ => rfl) (n := nI ((cmN ch tl) + 1)) (nI_pos (by omega)) (nI_clamp (by omega)) (by show ((cmN ch tl) + 1) * 4 ≤ 536870912; omega) (Nat.le_of_ble_eq_true rfl) (by show 0 + (cmN ch tl + 1) ≤ 61; omega) dX3_values_6 (fun q1 cA_ H hK_ hP hD hS => ?_)
  obtain rfl := x_sameA (t0 := 0) hK rfl hK_
  have hq1 : sz ≤ q1 := x_fresh hD (by simp)
  have hP : va_P G.1 vwCl [(q1, .inl (xcI G, (cmN ch tl) + 1, .inl (fun _ => 0)))] H := hP
  have hD : va_D (fun q => q ∈ ([] : List Nat) ∨ sz ≤ q) [(q1, .inl (xcI G, (cmN ch tl) + 1, .inl (fun _ => 0)))] := hD
  refine W.widen (k := 1) (n := 61) (Nat.le_of_ble_eq_true rfl) (by show 0 + (cmN ch tl + 1) ≤ 61; omega) ?_
  refine lv_astore_n (lv' := [(1, .ref q1), (0, .ref t0)]) hx hb dX3_values_8 rfl hl (by decide) rfl (fun ls hl => ?_)
  refine lv_iconst (v := nI 0) hx hb dX3_values_9 rfl ?_
  refine lv_istore_n (lv' := [(2, .int (nI 0)), (1, .ref q1), (0, .ref t0)]) hx hb dX3_values_10 rfl hl (by decide) rfl (fun ls hl => ?_)
  refine lv_iconst (v := nI 0) hx hb dX3_values_11 rfl ?_
  refine lv_istore_n (lv' := [(3, .int (nI 0)), (2, .int (nI 0)), (1, .ref q1), (0, .ref t0)]) hx hb dX3_values_12 rfl hl (by decide) rfl (fun ls hl => ?_)
  have hD0 := hD
  have hP : va_P G.1 vwCl [(q1, .inl (xcI G, cmN ch tl + 1, .inl ((vlS ch (cmN ch tl + 1) 0).2)))] H := hP
  have hl : lv_has ls 5 [(3, .int (nI 0)), (2, .int (nI ((vlS ch (cmN ch tl + 1) 0).1))), (1, .ref q1), (0, .ref t0)] := lv_sub hl [0, 1, 2, 3] rfl
  refine xloop (σ := Nat) (C := (fun (x_ : Nat) H locs ls => (x_ ≤ tl) ∧ va_P G.1 vwCl [(q1, .inl (xcI G, cmN ch tl + 1, .inl ((vlS ch (cmN ch tl + 1) x_).2)))] H ∧ va_S (fun q => q ∈ ([] : List Nat) ∨ sz ≤ q) s.heap H locs ∧ lv_has ls 5 [(3, .int (nI x_)), (2, .int (nI ((vlS ch (cmN ch tl + 1) x_).1))), (1, .ref q1), (0, .ref t0)])) (μ := (fun (x_ : Nat) => tl - x_)) (W' := fun H locs ls => W p l e _ s m _ below meth c H locs _ _ _ (F0 m 13 ls [])) ?_ 0 _ _ _ ⟨(Nat.zero_le _), hP, hS, hl⟩
  intro x_ H locs ls hC ih_13
  obtain ⟨i, rfl⟩ : ∃ z, z = x_ := ⟨x_, rfl⟩
  obtain ⟨hi, hP, hS, hl⟩ := hC
  replace hi : i ≤ tl := hi
  replace hP : va_P G.1 vwCl [(q1, .inl (xcI G, cmN ch tl + 1, .inl ((vlS ch (cmN ch tl + 1) i).2)))] H := hP
  have hD : va_D (fun q => q ∈ ([] : List Nat) ∨ sz ≤ q) [(q1, .inl (xcI G, cmN ch tl + 1, .inl ((vlS ch (cmN ch tl + 1) i).2)))] := (x_Dadr hD0 rfl)
  replace hl : lv_has ls 5 [(3, .int (nI i)), (2, .int (nI ((vlS ch (cmN ch tl + 1) i).1))), (1, .ref q1), (0, .ref t0)] := hl
  refine id ?_
  refine lv_iload_n hx hb dX3_values_13 rfl (lv_at hl 0 rfl) ?_
  refine lv_aload_n hx hb dX3_values_14 rfl (lv_at hl 3 rfl) ?_
  refine va_get (D := G.1) (ci := 3) (v := .int (nI tl)) (C := RX3) (T := TX3) (N := 2) hx hb hts hi_X3_values_RX3 hown hK (x_ro hPo hS hPoA) 0 rfl rfl 1 (by decide) (hts _ hw_X3_values_f15) (fun _ h9 => h9) rfl dX3_values_15 ?_
  refine n_icmp_ge (tgt := 68) hx hb (by omega) (by omega) dX3_values_18 (by decide) (fun c_18 => ?_) (fun c_18 => ?_)
  · refine lv_aload_n hx hb dX3_values_68 rfl (lv_at hl 2 rfl) ?_
    have hi9 : tl = i := by omega
    subst hi9
    have hdd := xDis1 (Nat.le_trans hsz0 hq1)
    exact xend_a q1 hx hb hr (Or.inr ⟨_, rfl⟩) hlk_ hS (fun _ h => h) dX3_values_69 rfl ⟨hP, hdd, hq1⟩ (Nat.le_refl _) (Nat.le_refl _)
  · refine lv_aload_n hx hb dX3_values_21 rfl (lv_at hl 3 rfl) ?_
    refine lv_iload_n hx hb dX3_values_22 rfl (lv_at hl 0 rfl) ?_
    refine xrd (xrunV (As := [.int (nI i)]) (rest := []) S (c_X3_characterAt l G t0 tc tl ch i htl hch (by omega)) (cwV 1 hts gX3_values_X3_characterAt rfl rfl rfl (by decide +kernel) ⟨Nat.le_of_ble_eq_true rfl, Nat.le_of_ble_eq_true rfl⟩) hE hS hA 0 3 (x_ro hPo hS hPoA) rfl rfl rfl (x_ro hPo hS hPoA) rfl rfl hl.1 (Nat.le_of_ble_eq_true rfl) dX3_values_23 ⟨Nat.le_of_ble_eq_true rfl, Nat.le_of_ble_eq_true rfl⟩) ?_
    refine lv_istore (lv' := [(4, .int (nI (ch i))), (3, .int (nI i)), (2, .int (nI ((vlS ch (cmN ch tl + 1) i).1))), (1, .ref q1), (0, .ref t0)]) hx hb dX3_values_26 hl (by decide) rfl (fun ls hl => ?_)
    refine lv_iload hx hb dX3_values_28 (lv_at hl 0 rfl) ?_
    refine lv_bipush (v := nI 44) hx hb dX3_values_30 (by decide) ?_
    refine n_icmp_ne (tgt := 41) hx hb (by have := hch i; omega) (by omega) dX3_values_32 (by decide) (fun c_32 => ?_) (fun c_32 => ?_)
    · refine lv_iload_n hx hb dX3_values_41 rfl (lv_at hl 2 rfl) ?_
      refine lv_aload_n hx hb dX3_values_42 rfl (lv_at hl 3 rfl) ?_
      refine va_alen (v := nI (cmN ch tl + 1)) hx hb hK hP 0 0 rfl rfl rfl dX3_values_43 ?_
      refine n_icmp_ge (tgt := 62) hx hb (by have := vlS_at ch (cmN ch tl + 1) i; omega) (by have := hch tl; omega) dX3_values_44 (by decide) (fun c_44 => ?_) (fun c_44 => ?_)
      · refine lv_iinc (v := nI (i + 1)) (lv' := [(3, .int (nI (i + 1))), (4, .int (nI (ch i))), (2, .int (nI ((vlS ch (cmN ch tl + 1) i).1))), (1, .ref q1), (0, .ref t0)]) hx hb dX3_values_62 hl (k := 1) rfl (nI_add i 1) (by decide) rfl (fun ls hl => ?_)
        refine lv_goto (tgt := 13) hx hb dX3_values_65 (by decide) ?_
        have eV : vlS ch (cmN ch tl + 1) (i + 1) = vlS ch (cmN ch tl + 1) i := by rw [vlS, if_neg c_32, if_neg (Nat.not_lt.mpr c_44)]
        have hl : lv_has ls 5 [(3, .int (nI (i + 1))), (2, .int (nI ((vlS ch (cmN ch tl + 1) (i + 1)).1))), (1, .ref q1), (0, .ref t0)] := (by rw [eV]; exact lv_sub hl [0, 2, 3, 4] rfl)
        have hP : va_P G.1 vwCl [(q1, .inl (xcI G, cmN ch tl + 1, .inl ((vlS ch (cmN ch tl + 1) (i + 1)).2)))] H := (by rw [eV]; exact hP)
        exact ih_13 (i + 1) _ _ _ (by show tl - (i + 1) < tl - i; omega) ⟨(by (try dsimp only); omega), hP, hS, hl⟩
      · refine lv_aload_n hx hb dX3_values_47 rfl (lv_at hl 3 rfl) ?_
        refine lv_iload_n hx hb dX3_values_48 rfl (lv_at hl 2 rfl) ?_
        refine lv_aload_n hx hb dX3_values_49 rfl (lv_at hl 3 rfl) ?_
        refine lv_iload_n hx hb dX3_values_50 rfl (lv_at hl 2 rfl) ?_
        refine i_iald hx hb hK hP 0 0 rfl rfl (by have := hch (cmN ch tl + 1); have := hch tl; omega) (by omega) dX3_values_51 ?_
        refine lv_bipush (v := nI 10) hx hb dX3_values_52 (by decide) ?_
        refine lv_imul hx hb dX3_values_54 ?_
        refine lv_iload hx hb dX3_values_55 (lv_at hl 0 rfl) ?_
        refine lv_bipush (v := nI 48) hx hb dX3_values_57 (by decide) ?_
        refine lv_isub hx hb dX3_values_59 ?_
        refine lv_iadd hx hb dX3_values_60 ?_
        refine i_iast hx hb hK hP hD hS 0 0 rfl rfl (by have := hch (cmN ch tl + 1); have := hch tl; omega) (by omega) dX3_values_61 (fun H locs hP hD hS => ?_)
        have hP : va_P G.1 vwCl [(q1, .inl (xcI G, cmN ch tl + 1, .inl (upd ((vlS ch (cmN ch tl + 1) i).2) ((vlS ch (cmN ch tl + 1) i).1) (((((vlS ch (cmN ch tl + 1) i).2) ((vlS ch (cmN ch tl + 1) i).1)) * (nI 10)) + ((nI (ch i)) - (nI 48))))))] H := hP
        have hD : va_D (fun q => q ∈ ([] : List Nat) ∨ sz ≤ q) [(q1, .inl (xcI G, cmN ch tl + 1, .inl (upd ((vlS ch (cmN ch tl + 1) i).2) ((vlS ch (cmN ch tl + 1) i).1) (((((vlS ch (cmN ch tl + 1) i).2) ((vlS ch (cmN ch tl + 1) i).1)) * (nI 10)) + ((nI (ch i)) - (nI 48))))))] := hD
        refine lv_iinc (v := nI (i + 1)) (lv' := [(3, .int (nI (i + 1))), (4, .int (nI (ch i))), (2, .int (nI ((vlS ch (cmN ch tl + 1) i).1))), (1, .ref q1), (0, .ref t0)]) hx hb dX3_values_62 hl (k := 1) rfl (nI_add i 1) (by decide) rfl (fun ls hl => ?_)
        refine lv_goto (tgt := 13) hx hb dX3_values_65 (by decide) ?_
        have eV : vlS ch (cmN ch tl + 1) (i + 1) = ((vlS ch (cmN ch tl + 1) i).1, upd (vlS ch (cmN ch tl + 1) i).2 (vlS ch (cmN ch tl + 1) i).1 ((vlS ch (cmN ch tl + 1) i).2 (vlS ch (cmN ch tl + 1) i).1 * nI 10 + (nI (ch i) - nI 48))) := by rw [vlS, if_neg c_32, if_pos c_44]
        have hl : lv_has ls 5 [(3, .int (nI (i + 1))), (2, .int (nI ((vlS ch (cmN ch tl + 1) (i + 1)).1))), (1, .ref q1), (0, .ref t0)] := (by rw [eV]; exact lv_sub hl [0, 2, 3, 4] rfl)
        have hP : va_P G.1 vwCl [(q1, .inl (xcI G, cmN ch tl + 1, .inl ((vlS ch (cmN ch tl + 1) (i + 1)).2)))] H := (by rw [eV]; exact hP)
        exact ih_13 (i + 1) _ _ _ (by show tl - (i + 1) < tl - i; omega) ⟨(by (try dsimp only); omega), hP, hS, hl⟩
    · refine lv_iinc (v := nI ((vlS ch (cmN ch tl + 1) i).1 + 1)) (lv' := [(2, .int (nI ((vlS ch (cmN ch tl + 1) i).1 + 1))), (4, .int (nI (ch i))), (3, .int (nI i)), (1, .ref q1), (0, .ref t0)]) hx hb dX3_values_35 hl (k := 2) rfl (nI_add ((vlS ch (cmN ch tl + 1) i).1) 1) (by decide) rfl (fun ls hl => ?_)
      refine lv_goto (tgt := 62) hx hb dX3_values_38 (by decide) ?_
      refine lv_iinc (v := nI (i + 1)) (lv' := [(3, .int (nI (i + 1))), (2, .int (nI ((vlS ch (cmN ch tl + 1) i).1 + 1))), (4, .int (nI (ch i))), (1, .ref q1), (0, .ref t0)]) hx hb dX3_values_62 hl (k := 2) rfl (nI_add i 1) (by decide) rfl (fun ls hl => ?_)
      refine lv_goto (tgt := 13) hx hb dX3_values_65 (by decide) ?_
      have eV : vlS ch (cmN ch tl + 1) (i + 1) = ((vlS ch (cmN ch tl + 1) i).1 + 1, (vlS ch (cmN ch tl + 1) i).2) := by rw [vlS, if_pos c_32]
      have hl : lv_has ls 5 [(3, .int (nI (i + 1))), (2, .int (nI ((vlS ch (cmN ch tl + 1) (i + 1)).1))), (1, .ref q1), (0, .ref t0)] := (by rw [eV]; exact lv_sub hl [0, 1, 3, 4] rfl)
      have hP : va_P G.1 vwCl [(q1, .inl (xcI G, cmN ch tl + 1, .inl ((vlS ch (cmN ch tl + 1) (i + 1)).2)))] H := (by rw [eV]; exact hP)
      exact ih_13 (i + 1) _ _ _ (by show tl - (i + 1) < tl - i; omega) ⟨(by (try dsimp only); omega), hP, hS, hl⟩
