theorem mx_t {f : Nat → Nat} {j : Nat} (h : mxI f j < nI (f j)) : nI (f j) = mxI f (j + 1) := (if_pos h).symm
theorem mx_f {f : Nat → Nat} {j : Nat} (h : nI (f j) ≤ mxI f j) : mxI f j = mxI f (j + 1) := (if_neg (Int32.not_lt.mpr h)).symm
theorem rId_lt {N : Nat → Nat} (hN : ∀ j, N j < 2 ^ 24) (r k j : Nat) : rId N r k j < 2 ^ 24 := hN _
theorem rVal_lt {N : Nat → Nat} (hN : ∀ j, N j < 2 ^ 24) (k j : Nat) : rVal N k j < 2 ^ 24 := hN _
theorem nI_ne5 {o : Nat} (h : o < 2 ^ 31) : ¬ nI o = -5 := by
  intro q
  have h2 := congrArg Int32.toInt q
  rw [nI_toInt h] at h2
  have : (-5 : Int32).toInt = -5 := rfl
  omega
abbrev rHas (N : Nat → Nat) (r x : Nat) : Prop := ∃ lv, lv < 5 ∧ ∃ pl, pl < rBl (rLv (N (403 * r))) lv ∧ rId N r lv pl = x
abbrev rIsOf (N : Nat → Nat) (x : Nat) : Prop := ∃ v, v < N 10171 ∧ ¬ rNo N (nI v) ∧ rHas N v x
noncomputable def rLs (N : Nat → Nat) (v : Nat) : Nat := @ite _ (rNo N (nI v)) (Classical.propDecidable _) 0 (rLen N v)
theorem rLs_t {N : Nat → Nat} {v : Nat} (h : rNo N (nI v)) : nI 0 = nI (rLs N v) := by rw [rLs, if_pos h]
theorem rLs_f {N : Nat → Nat} {v : Nat} (h : ¬ rNo N (nI v)) : nI (rLen N v) = nI (rLs N v) := by rw [rLs, if_neg h]
noncomputable def rSh (N : Nat → Nat) (r : Nat) (P : Nat → Prop) (lv : Nat) : Nat := sumN (fun z => bN (P (rId N r lv z))) (rBl (rLv (N (403 * r))) lv)
def rOwn (N : Nat → Nat) (lv : Nat) : Nat := sumN (fun z => N (10174 + rBg lv + z)) (rBl (rLv (N (403 * 24))) lv)
theorem bN_tt {P : Prop} (h : P) : nI 1 = nI (bN P) := by rw [bN_t h]
theorem bN_ff {P : Prop} (h : ¬ P) : nI 0 = nI (bN P) := by rw [bN_f h]
abbrev rUs (N : Nat → Nat) (x : Nat) : Prop := (¬ N 10173 = 0 ∧ rHas N 24 x) ∨ rIsOf N x

theorem hw_X6_there_f7 : Cond.fieldLink RX6 7 "TailVectorsModel" "now" "[I" ∈ wsX6_there := by decide +kernel
theorem hi_X6_there_RX6 : ∀ w ∈ u_ws RX6 TX6 9, w ∈ wsX6_there := by decide +kernel
set_option maxHeartbeats 4000000 in
set_option maxRecDepth 100000 in
theorem c_X6_there (l : Launch) (G : xG) (m0 : Nat) (aN : Nat) (aH : Nat) (aS : Nat) (aT : Nat) (N : Nat → Nat) (Hs : Nat → Nat) (Sl : Nat → Nat) (tx : Nat → Nat) (kept : Nat) (fil : Nat) (ty : Nat) (at_ : Nat) (nu : Nat) (hN : ∀ j, N j < 2 ^ 24) (hev : 1 ≤ N 10171) (hev2 : N 10171 ≤ 24) : Met l yX6_there wsX6_there ({ frames := 0, cells := 0, slots := 0, locals := 0 } : Room) (xPc G [.ref m0] (fun H => va_P G.1 vwCl [(m0, .inr (6, [.ref aN, .ref aH, .int (nI kept), .ref aS, .int (nI fil), .int (nI ty), .ref aT, .int (nI at_), .int (nI nu)])), (aN, .inl (xcI G, 10276, .inl (nf N))), (aH, .inl (xcI G, 41104, .inl (nf Hs))), (aS, .inl (xcI G, 10276, .inl (nf Sl))), (aT, .inl (xcC G, 60, .inl (nf tx)))] H)) (k2_QcV (.int (nI (sumN (fun z => N (10075 + 4 * z)) (N 10171))))) 0 0 (fun _ => False) := by
  refine xMet (cc := cX6_there) (nL := 3) (ret := (some (.int))) (by decide) rfl (Nat.le_of_ble_eq_true rfl) ?_
  intro p e s m below meth c S hr hk hnm hE hP ls hl
  obtain ⟨hx, hb, hml, hown, hts⟩ := id S
  have hown : s.vm.findClass RX6 = some m.cls := hown
  have hK := hE.1
  have hS : va_S (fun _ : Nat => False) s.heap s.heap [] := va_S.rf
  have hA : ∀ q, (fun _ : Nat => False) q → xB0 G ≤ q := fun _ h => h.elim
  have hP : va_P G.1 vwCl [(m0, .inr (6, [.ref aN, .ref aH, .int (nI kept), .ref aS, .int (nI fil), .int (nI ty), .ref aT, .int (nI at_), .int (nI nu)])), (aN, .inl (xcI G, 10276, .inl (nf N))), (aH, .inl (xcI G, 41104, .inl (nf Hs))), (aS, .inl (xcI G, 10276, .inl (nf Sl))), (aT, .inl (xcC G, 60, .inl (nf tx)))] s.heap := hP
  have hl : lv_has ls 3 [(0, .ref m0)] := hl
  refine lv_iconst (v := nI 0) hx hb dX6_there_0 rfl ?_
  refine lv_istore_n (lv' := [(1, .int (nI 0)), (0, .ref m0)]) hx hb dX6_there_1 rfl hl (by decide) rfl (fun ls hl => ?_)
  refine lv_iconst (v := nI 0) hx hb dX6_there_2 rfl ?_
  refine lv_istore_n (lv' := [(2, .int (nI 0)), (1, .int (nI 0)), (0, .ref m0)]) hx hb dX6_there_3 rfl hl (by decide) rfl (fun ls hl => ?_)
  have hl : lv_has ls 3 [(2, .int (nI 0)), (1, .int (nI (sumN (fun z => N (10075 + 4 * z)) 0))), (0, .ref m0)] := lv_sub hl [0, 1, 2] rfl
  refine xloopR (σ := Nat) (C := (fun (x_ : Nat) ls => (x_ ≤ N 10171) ∧ lv_has ls 3 [(2, .int (nI x_)), (1, .int (nI (sumN (fun z => N (10075 + 4 * z)) x_))), (0, .ref m0)])) (μ := (fun (x_ : Nat) => N 10171 - x_)) (W' := fun ls => W p l e _ s m _ below meth c _ _ _ _ _ (F0 m 4 ls [])) ?_ 0 _ ⟨(by omega), hl⟩
  intro x_ ls hC ih_4
  obtain ⟨v, rfl⟩ : ∃ z, z = x_ := ⟨x_, rfl⟩
  obtain ⟨hv, hl⟩ := hC
  have hv : v ≤ N 10171 := hv
  have hl : lv_has ls 3 [(2, .int (nI v)), (1, .int (nI (sumN (fun z => N (10075 + 4 * z)) v))), (0, .ref m0)] := hl
  refine id ?_
  refine lv_iload_n hx hb dX6_there_4 rfl (lv_at hl 0 rfl) ?_
  refine lv_aload_n hx hb dX6_there_5 rfl (lv_at hl 2 rfl) ?_
  refine va_get (D := G.1) (ci := 6) (v := .ref aN) (C := RX6) (T := TX6) (N := 9) hx hb hts hi_X6_there_RX6 hown hK hP 0 rfl rfl 0 (by decide) (hts _ hw_X6_there_f7) (fun _ h9 => h9) rfl dX6_there_6 ?_
  refine lv_sipush (v := nI 10171) hx hb dX6_there_9 (by decide) ?_
  refine n_iald hx hb hK hP 1 0 rfl rfl (by omega) (by decide) dX6_there_12 ?_
  refine n_icmp_ge (tgt := 37) hx hb (by omega) (by have := hN 10171; omega) dX6_there_13 (by decide) (fun c_13 => ?_) (fun c_13 => ?_)
  · refine lv_iload_n hx hb dX6_there_37 rfl (lv_at hl 1 rfl) ?_
    exact xret_i hx hb hr hk dX6_there_38 (by rw [show v = N 10171 by omega])
  · refine lv_iload_n hx hb dX6_there_16 rfl (lv_at hl 1 rfl) ?_
    refine lv_aload_n hx hb dX6_there_17 rfl (lv_at hl 2 rfl) ?_
    refine va_get (D := G.1) (ci := 6) (v := .ref aN) (C := RX6) (T := TX6) (N := 9) hx hb hts hi_X6_there_RX6 hown hK hP 0 rfl rfl 0 (by decide) (hts _ hw_X6_there_f7) (fun _ h9 => h9) rfl dX6_there_18 ?_
    refine lv_sipush (v := nI 10075) hx hb dX6_there_21 (by decide) ?_
    refine lv_iconst (v := nI 4) hx hb dX6_there_24 rfl ?_
    refine lv_iload_n hx hb dX6_there_25 rfl (lv_at hl 0 rfl) ?_
    refine n_imul hx hb dX6_there_26 ?_
    refine n_iadd hx hb dX6_there_27 ?_
    refine n_iald hx hb hK hP 1 0 rfl rfl (by omega) (by decide) dX6_there_28 ?_
    refine n_iadd hx hb dX6_there_29 ?_
    refine lv_istore_n (lv' := [(1, .int (nI ((sumN (fun z => N (10075 + 4 * z)) v) + (N (10075 + (4 * v)))))), (2, .int (nI v)), (0, .ref m0)]) hx hb dX6_there_30 rfl hl (by decide) rfl (fun ls hl => ?_)
    refine lv_iinc (v := nI (v + 1)) (lv' := [(2, .int (nI (v + 1))), (1, .int (nI ((sumN (fun z => N (10075 + 4 * z)) v) + (N (10075 + (4 * v)))))), (0, .ref m0)]) hx hb dX6_there_31 hl (k := 1) rfl (nI_add v 1) (by decide) rfl (fun ls hl => ?_)
    refine lv_goto (tgt := 4) hx hb dX6_there_34 (by decide) ?_
    have hl : lv_has ls 3 [(2, .int (nI (v + 1))), (1, .int (nI (sumN (fun z => N (10075 + 4 * z)) (v + 1)))), (0, .ref m0)] := lv_sub hl [0, 1, 2] rfl
    exact ih_4 (v + 1) _ (by show N 10171 - (v + 1) < N 10171 - v; omega) ⟨(by omega), hl⟩

set_option maxHeartbeats 4000000 in
set_option maxRecDepth 100000 in
theorem c_X6_sum (l : Launch) (G : xG) (m0 : Nat) (aN : Nat) (aH : Nat) (aS : Nat) (aT : Nat) (N : Nat → Nat) (Hs : Nat → Nat) (Sl : Nat → Nat) (tx : Nat → Nat) (kept : Nat) (fil : Nat) (ty : Nat) (at_ : Nat) (nu : Nat) (k : Nat) (hN : ∀ j, N j < 2 ^ 24) (hk24 : k ≤ 24) (hwd : N (10075 + 4 * k + 2) + rLen N k ≤ 300) : Met l yX6_sum wsX6_sum ({ frames := 2, cells := 0, slots := 0, locals := 43 } : Room) (xPc G [.ref m0, .int (nI k)] (fun H => va_P G.1 vwCl [(m0, .inr (6, [.ref aN, .ref aH, .int (nI kept), .ref aS, .int (nI fil), .int (nI ty), .ref aT, .int (nI at_), .int (nI nu)])), (aN, .inl (xcI G, 10276, .inl (nf N))), (aH, .inl (xcI G, 41104, .inl (nf Hs))), (aS, .inl (xcI G, 10276, .inl (nf Sl))), (aT, .inl (xcC G, 60, .inl (nf tx)))] H)) (k2_QcV (.int (nI (sumN (rVal N k) (rLen N k))))) 0 0 (fun _ => False) := by
  refine xMet (cc := cX6_sum) (nL := 4) (ret := (some (.int))) (by decide) rfl (Nat.le_of_ble_eq_true rfl) ?_
  intro p e s m below meth c S hr hk hnm hE hP ls hl
  obtain ⟨hx, hb, hml, hown, hts⟩ := id S
  have hown : s.vm.findClass RX6 = some m.cls := hown
  have hK := hE.1
  have hS : va_S (fun _ : Nat => False) s.heap s.heap [] := va_S.rf
  have hA : ∀ q, (fun _ : Nat => False) q → xB0 G ≤ q := fun _ h => h.elim
  have hP : va_P G.1 vwCl [(m0, .inr (6, [.ref aN, .ref aH, .int (nI kept), .ref aS, .int (nI fil), .int (nI ty), .ref aT, .int (nI at_), .int (nI nu)])), (aN, .inl (xcI G, 10276, .inl (nf N))), (aH, .inl (xcI G, 41104, .inl (nf Hs))), (aS, .inl (xcI G, 10276, .inl (nf Sl))), (aT, .inl (xcC G, 60, .inl (nf tx)))] s.heap := hP
  have hl : lv_has ls 4 [(0, .ref m0), (1, .int (nI k))] := hl
  refine lv_iconst (v := nI 0) hx hb dX6_sum_0 rfl ?_
  refine lv_istore_n (lv' := [(2, .int (nI 0)), (0, .ref m0), (1, .int (nI k))]) hx hb dX6_sum_1 rfl hl (by decide) rfl (fun ls hl => ?_)
  refine lv_iconst (v := nI 0) hx hb dX6_sum_2 rfl ?_
  refine lv_istore_n (lv' := [(3, .int (nI 0)), (2, .int (nI 0)), (0, .ref m0), (1, .int (nI k))]) hx hb dX6_sum_3 rfl hl (by decide) rfl (fun ls hl => ?_)
  have hl : lv_has ls 4 [(3, .int (nI 0)), (2, .int (nI (sumN (rVal N k) 0))), (0, .ref m0), (1, .int (nI k))] := lv_sub hl [0, 1, 2, 3] rfl
  refine xloopR (σ := Nat) (C := (fun (x_ : Nat) ls => (x_ ≤ rLen N k) ∧ lv_has ls 4 [(3, .int (nI x_)), (2, .int (nI (sumN (rVal N k) x_))), (0, .ref m0), (1, .int (nI k))])) (μ := (fun (x_ : Nat) => rLen N k - x_)) (W' := fun ls => W p l e _ s m _ below meth c _ _ _ _ _ (F0 m 4 ls [])) ?_ 0 _ ⟨(by omega), hl⟩
  intro x_ ls hC ih_4
  obtain ⟨j, rfl⟩ : ∃ z, z = x_ := ⟨x_, rfl⟩
  obtain ⟨hj, hl⟩ := hC
  have hj : j ≤ rLen N k := hj
  have hl : lv_has ls 4 [(3, .int (nI j)), (2, .int (nI (sumN (rVal N k) j))), (0, .ref m0), (1, .int (nI k))] := hl
  refine id ?_
  refine lv_iload_n hx hb dX6_sum_4 rfl (lv_at hl 0 rfl) ?_
  refine lv_aload_n hx hb dX6_sum_5 rfl (lv_at hl 2 rfl) ?_
  refine lv_iload_n hx hb dX6_sum_6 rfl (lv_at hl 3 rfl) ?_
  refine xrd (xrunV (As := [.int (nI k)]) (rest := [.int (nI j)]) S (c_X6_length l G m0 aN aH aS aT N Hs Sl tx kept fil ty at_ nu k hN (by omega)) (cwV 1 hts gX6_sum_X6_length rfl rfl rfl (by decide +kernel) ⟨Nat.le_of_ble_eq_true rfl, Nat.le_of_ble_eq_true rfl⟩) hE hS hA 0 6 hP rfl rfl rfl hP rfl rfl hl.1 (Nat.le_of_ble_eq_true rfl) dX6_sum_7 ⟨Nat.le_of_ble_eq_true rfl, Nat.le_of_ble_eq_true rfl⟩) ?_
  refine n_icmp_ge (tgt := 28) hx hb (by omega) (by have := hN k; omega) dX6_sum_10 (by decide) (fun c_10 => ?_) (fun c_10 => ?_)
  · refine lv_iload_n hx hb dX6_sum_28 rfl (lv_at hl 1 rfl) ?_
    exact xret_i hx hb hr hk dX6_sum_29 (by rw [show j = rLen N k by omega])
  · refine lv_iload_n hx hb dX6_sum_13 rfl (lv_at hl 1 rfl) ?_
    refine lv_aload_n hx hb dX6_sum_14 rfl (lv_at hl 2 rfl) ?_
    refine lv_iload_n hx hb dX6_sum_15 rfl (lv_at hl 3 rfl) ?_
    refine lv_iload_n hx hb dX6_sum_16 rfl (lv_at hl 0 rfl) ?_
    refine xrd (xrunV (As := [.int (nI k), .int (nI j)]) (rest := [.int (nI (sumN (rVal N k) j))]) S (c_X6_value l G m0 aN aH aS aT N Hs Sl tx kept fil ty at_ nu k j hN (by omega) (by omega)) (cwV 2 hts gX6_sum_X6_value rfl rfl rfl (by decide +kernel) ⟨Nat.le_of_ble_eq_true rfl, Nat.le_of_ble_eq_true rfl⟩) hE hS hA 0 6 hP rfl rfl rfl hP rfl rfl hl.1 (Nat.le_of_ble_eq_true rfl) dX6_sum_17 ⟨Nat.le_of_ble_eq_true rfl, Nat.le_of_ble_eq_true rfl⟩) ?_
    refine n_iadd hx hb dX6_sum_20 ?_
    refine lv_istore_n (lv' := [(2, .int (nI ((sumN (rVal N k) j) + (rVal N k j)))), (3, .int (nI j)), (0, .ref m0), (1, .int (nI k))]) hx hb dX6_sum_21 rfl hl (by decide) rfl (fun ls hl => ?_)
    refine lv_iinc (v := nI (j + 1)) (lv' := [(3, .int (nI (j + 1))), (2, .int (nI ((sumN (rVal N k) j) + (rVal N k j)))), (0, .ref m0), (1, .int (nI k))]) hx hb dX6_sum_22 hl (k := 1) rfl (nI_add j 1) (by decide) rfl (fun ls hl => ?_)
    refine lv_goto (tgt := 4) hx hb dX6_sum_25 (by decide) ?_
    have hl : lv_has ls 4 [(3, .int (nI (j + 1))), (2, .int (nI (sumN (rVal N k) (j + 1)))), (0, .ref m0), (1, .int (nI k))] := lv_sub hl [0, 1, 2, 3] rfl
    exact ih_4 (j + 1) _ (by show rLen N k - (j + 1) < rLen N k - j; omega) ⟨(by omega), hl⟩

set_option maxHeartbeats 4000000 in
set_option maxRecDepth 100000 in
theorem c_X6_greatest (l : Launch) (G : xG) (m0 : Nat) (aN : Nat) (aH : Nat) (aS : Nat) (aT : Nat) (N : Nat → Nat) (Hs : Nat → Nat) (Sl : Nat → Nat) (tx : Nat → Nat) (kept : Nat) (fil : Nat) (ty : Nat) (at_ : Nat) (nu : Nat) (k : Nat) (hN : ∀ j, N j < 2 ^ 24) (hk24 : k ≤ 24) (hwd : N (10075 + 4 * k + 2) + rLen N k ≤ 300) : Met l yX6_greatest wsX6_greatest ({ frames := 2, cells := 0, slots := 0, locals := 43 } : Room) (xPc G [.ref m0, .int (nI k)] (fun H => va_P G.1 vwCl [(m0, .inr (6, [.ref aN, .ref aH, .int (nI kept), .ref aS, .int (nI fil), .int (nI ty), .ref aT, .int (nI at_), .int (nI nu)])), (aN, .inl (xcI G, 10276, .inl (nf N))), (aH, .inl (xcI G, 41104, .inl (nf Hs))), (aS, .inl (xcI G, 10276, .inl (nf Sl))), (aT, .inl (xcC G, 60, .inl (nf tx)))] H)) (k2_QcV (.int (mxI (rVal N k) (rLen N k)))) 0 0 (fun _ => False) := by
  refine xMet (cc := cX6_greatest) (nL := 4) (ret := (some (.int))) (by decide) rfl (Nat.le_of_ble_eq_true rfl) ?_
  intro p e s m below meth c S hr hk hnm hE hP ls hl
  obtain ⟨hx, hb, hml, hown, hts⟩ := id S
  have hown : s.vm.findClass RX6 = some m.cls := hown
  have hK := hE.1
  have hS : va_S (fun _ : Nat => False) s.heap s.heap [] := va_S.rf
  have hA : ∀ q, (fun _ : Nat => False) q → xB0 G ≤ q := fun _ h => h.elim
  have hP : va_P G.1 vwCl [(m0, .inr (6, [.ref aN, .ref aH, .int (nI kept), .ref aS, .int (nI fil), .int (nI ty), .ref aT, .int (nI at_), .int (nI nu)])), (aN, .inl (xcI G, 10276, .inl (nf N))), (aH, .inl (xcI G, 41104, .inl (nf Hs))), (aS, .inl (xcI G, 10276, .inl (nf Sl))), (aT, .inl (xcC G, 60, .inl (nf tx)))] s.heap := hP
  have hl : lv_has ls 4 [(0, .ref m0), (1, .int (nI k))] := hl
  refine lv_bipush (v := (-5)) hx hb dX6_greatest_0 (by decide) ?_
  refine lv_istore_n (lv' := [(2, .int (-5)), (0, .ref m0), (1, .int (nI k))]) hx hb dX6_greatest_2 rfl hl (by decide) rfl (fun ls hl => ?_)
  refine lv_iconst (v := nI 0) hx hb dX6_greatest_3 rfl ?_
  refine lv_istore_n (lv' := [(3, .int (nI 0)), (2, .int (-5)), (0, .ref m0), (1, .int (nI k))]) hx hb dX6_greatest_4 rfl hl (by decide) rfl (fun ls hl => ?_)
  have hl : lv_has ls 4 [(3, .int (nI 0)), (2, .int (mxI (rVal N k) 0)), (0, .ref m0), (1, .int (nI k))] := lv_sub hl [0, 1, 2, 3] rfl
  refine xloopR (σ := Nat) (C := (fun (x_ : Nat) ls => (x_ ≤ rLen N k) ∧ lv_has ls 4 [(3, .int (nI x_)), (2, .int (mxI (rVal N k) x_)), (0, .ref m0), (1, .int (nI k))])) (μ := (fun (x_ : Nat) => rLen N k - x_)) (W' := fun ls => W p l e _ s m _ below meth c _ _ _ _ _ (F0 m 5 ls [])) ?_ 0 _ ⟨(by omega), hl⟩
  intro x_ ls hC ih_5
  obtain ⟨j, rfl⟩ : ∃ z, z = x_ := ⟨x_, rfl⟩
  obtain ⟨hj, hl⟩ := hC
  have hj : j ≤ rLen N k := hj
  have hl : lv_has ls 4 [(3, .int (nI j)), (2, .int (mxI (rVal N k) j)), (0, .ref m0), (1, .int (nI k))] := hl
  refine id ?_
  refine lv_iload_n hx hb dX6_greatest_5 rfl (lv_at hl 0 rfl) ?_
  refine lv_aload_n hx hb dX6_greatest_6 rfl (lv_at hl 2 rfl) ?_
  refine lv_iload_n hx hb dX6_greatest_7 rfl (lv_at hl 3 rfl) ?_
  refine xrd (xrunV (As := [.int (nI k)]) (rest := [.int (nI j)]) S (c_X6_length l G m0 aN aH aS aT N Hs Sl tx kept fil ty at_ nu k hN (by omega)) (cwV 1 hts gX6_greatest_X6_length rfl rfl rfl (by decide +kernel) ⟨Nat.le_of_ble_eq_true rfl, Nat.le_of_ble_eq_true rfl⟩) hE hS hA 0 6 hP rfl rfl rfl hP rfl rfl hl.1 (Nat.le_of_ble_eq_true rfl) dX6_greatest_8 ⟨Nat.le_of_ble_eq_true rfl, Nat.le_of_ble_eq_true rfl⟩) ?_
  refine n_icmp_ge (tgt := 41) hx hb (by omega) (by have := hN k; omega) dX6_greatest_11 (by decide) (fun c_11 => ?_) (fun c_11 => ?_)
  · refine lv_iload_n hx hb dX6_greatest_41 rfl (lv_at hl 1 rfl) ?_
    exact xret_i hx hb hr hk dX6_greatest_42 (by rw [show j = rLen N k by omega])
  · refine lv_aload_n hx hb dX6_greatest_14 rfl (lv_at hl 2 rfl) ?_
    refine lv_iload_n hx hb dX6_greatest_15 rfl (lv_at hl 3 rfl) ?_
    refine lv_iload_n hx hb dX6_greatest_16 rfl (lv_at hl 0 rfl) ?_
    refine xrd (xrunV (As := [.int (nI k), .int (nI j)]) (rest := []) S (c_X6_value l G m0 aN aH aS aT N Hs Sl tx kept fil ty at_ nu k j hN (by omega) (by omega)) (cwV 2 hts gX6_greatest_X6_value rfl rfl rfl (by decide +kernel) ⟨Nat.le_of_ble_eq_true rfl, Nat.le_of_ble_eq_true rfl⟩) hE hS hA 0 6 hP rfl rfl rfl hP rfl rfl hl.1 (Nat.le_of_ble_eq_true rfl) dX6_greatest_17 ⟨Nat.le_of_ble_eq_true rfl, Nat.le_of_ble_eq_true rfl⟩) ?_
    refine lv_iload_n hx hb dX6_greatest_20 rfl (lv_at hl 1 rfl) ?_
    refine lv_icmp_le (tgt := 33) hx hb dX6_greatest_21 (by decide) (fun c_21 => ?_) (fun c_21 => ?_)
    · refine lv_iload_n hx hb dX6_greatest_33 rfl (lv_at hl 1 rfl) ?_
      refine n_top (y := mxI (rVal N k) (j + 1)) (mx_f c_21) ?_
      refine lv_istore_n (lv' := [(2, .int (mxI (rVal N k) (j + 1))), (3, .int (nI j)), (0, .ref m0), (1, .int (nI k))]) hx hb dX6_greatest_34 rfl hl (by decide) rfl (fun ls hl => ?_)
      refine lv_iinc (v := nI (j + 1)) (lv' := [(3, .int (nI (j + 1))), (2, .int (mxI (rVal N k) (j + 1))), (0, .ref m0), (1, .int (nI k))]) hx hb dX6_greatest_35 hl (k := 1) rfl (nI_add j 1) (by decide) rfl (fun ls hl => ?_)
      refine lv_goto (tgt := 5) hx hb dX6_greatest_38 (by decide) ?_
      have hl : lv_has ls 4 [(3, .int (nI (j + 1))), (2, .int (mxI (rVal N k) (j + 1))), (0, .ref m0), (1, .int (nI k))] := lv_sub hl [0, 1, 2, 3] rfl
      exact ih_5 (j + 1) _ (by show rLen N k - (j + 1) < rLen N k - j; omega) ⟨(by omega), hl⟩
    · refine lv_aload_n hx hb dX6_greatest_24 rfl (lv_at hl 2 rfl) ?_
      refine lv_iload_n hx hb dX6_greatest_25 rfl (lv_at hl 3 rfl) ?_
      refine lv_iload_n hx hb dX6_greatest_26 rfl (lv_at hl 0 rfl) ?_
      refine xrd (xrunV (As := [.int (nI k), .int (nI j)]) (rest := []) S (c_X6_value l G m0 aN aH aS aT N Hs Sl tx kept fil ty at_ nu k j hN (by omega) (by omega)) (cwV 2 hts gX6_greatest_X6_value rfl rfl rfl (by decide +kernel) ⟨Nat.le_of_ble_eq_true rfl, Nat.le_of_ble_eq_true rfl⟩) hE hS hA 0 6 hP rfl rfl rfl hP rfl rfl hl.1 (Nat.le_of_ble_eq_true rfl) dX6_greatest_27 ⟨Nat.le_of_ble_eq_true rfl, Nat.le_of_ble_eq_true rfl⟩) ?_
      refine n_top (y := mxI (rVal N k) (j + 1)) (mx_t (Int32.not_le.mp c_21)) ?_
      refine lv_goto (tgt := 34) hx hb dX6_greatest_30 (by decide) ?_
      refine lv_istore_n (lv' := [(2, .int (mxI (rVal N k) (j + 1))), (3, .int (nI j)), (0, .ref m0), (1, .int (nI k))]) hx hb dX6_greatest_34 rfl hl (by decide) rfl (fun ls hl => ?_)
      refine lv_iinc (v := nI (j + 1)) (lv' := [(3, .int (nI (j + 1))), (2, .int (mxI (rVal N k) (j + 1))), (0, .ref m0), (1, .int (nI k))]) hx hb dX6_greatest_35 hl (k := 1) rfl (nI_add j 1) (by decide) rfl (fun ls hl => ?_)
      refine lv_goto (tgt := 5) hx hb dX6_greatest_38 (by decide) ?_
      have hl : lv_has ls 4 [(3, .int (nI (j + 1))), (2, .int (mxI (rVal N k) (j + 1))), (0, .ref m0), (1, .int (nI k))] := lv_sub hl [0, 1, 2, 3] rfl
      exact ih_5 (j + 1) _ (by show rLen N k - (j + 1) < rLen N k - j; omega) ⟨(by omega), hl⟩

set_option maxHeartbeats 4000000 in
set_option maxRecDepth 100000 in
theorem c_X6_has (l : Launch) (G : xG) (m0 : Nat) (aN : Nat) (aH : Nat) (aS : Nat) (aT : Nat) (N : Nat → Nat) (Hs : Nat → Nat) (Sl : Nat → Nat) (tx : Nat → Nat) (kept : Nat) (fil : Nat) (ty : Nat) (at_ : Nat) (nu : Nat) (r : Nat) (x : Nat) (hN : ∀ j, N j < 2 ^ 24) (hrows : ∀ v, v ≤ 24 → N (403 * v) ≤ 300) (hr24 : r ≤ 24) (hx24 : x < 2 ^ 24) : Met l yX6_has wsX6_has ({ frames := 3, cells := 0, slots := 0, locals := 62 } : Room) (xPc G [.ref m0, .int (nI r), .int (nI x)] (fun H => va_P G.1 vwCl [(m0, .inr (6, [.ref aN, .ref aH, .int (nI kept), .ref aS, .int (nI fil), .int (nI ty), .ref aT, .int (nI at_), .int (nI nu)])), (aN, .inl (xcI G, 10276, .inl (nf N))), (aH, .inl (xcI G, 41104, .inl (nf Hs))), (aS, .inl (xcI G, 10276, .inl (nf Sl))), (aT, .inl (xcC G, 60, .inl (nf tx)))] H)) (k2_QcV (.int (bI (rHas N r x)))) 0 0 (fun _ => False) := by
  refine xMet (cc := cX6_has) (nL := 6) (ret := (some (.boolean))) (by decide) rfl (Nat.le_of_ble_eq_true rfl) ?_
  intro p e s m below meth c S hr hk hnm hE hP ls hl
  obtain ⟨hx, hb, hml, hown, hts⟩ := id S
  have hown : s.vm.findClass RX6 = some m.cls := hown
  have hK := hE.1
  have hS : va_S (fun _ : Nat => False) s.heap s.heap [] := va_S.rf
  have hA : ∀ q, (fun _ : Nat => False) q → xB0 G ≤ q := fun _ h => h.elim
  have hP : va_P G.1 vwCl [(m0, .inr (6, [.ref aN, .ref aH, .int (nI kept), .ref aS, .int (nI fil), .int (nI ty), .ref aT, .int (nI at_), .int (nI nu)])), (aN, .inl (xcI G, 10276, .inl (nf N))), (aH, .inl (xcI G, 41104, .inl (nf Hs))), (aS, .inl (xcI G, 10276, .inl (nf Sl))), (aT, .inl (xcC G, 60, .inl (nf tx)))] s.heap := hP
  have hl : lv_has ls 6 [(0, .ref m0), (1, .int (nI r)), (2, .int (nI x))] := hl
  refine lv_aload_n hx hb dX6_has_0 rfl (lv_at hl 0 rfl) ?_
  refine lv_iload_n hx hb dX6_has_1 rfl (lv_at hl 1 rfl) ?_
  refine xrd (xrunV (As := [.int (nI r)]) (rest := []) S (c_X6_rowLength l G m0 aN aH aS aT N Hs Sl tx kept fil ty at_ nu r hN (by omega)) (cwV 1 hts gX6_has_X6_rowLength rfl rfl rfl (by decide +kernel) ⟨Nat.le_of_ble_eq_true rfl, Nat.le_of_ble_eq_true rfl⟩) hE hS hA 0 6 hP rfl rfl rfl hP rfl rfl hl.1 (Nat.le_of_ble_eq_true rfl) dX6_has_2 ⟨Nat.le_of_ble_eq_true rfl, Nat.le_of_ble_eq_true rfl⟩) ?_
  refine xrd (xrunS (As := [.int (nI (N (403 * r)))]) (rest := []) S (c_X6_leaves l G (N (403 * r)) (by have := hrows r hr24; omega)) (va_cwS 1 hts gX6_has_X6_leaves rfl rfl rfl (by decide +kernel) ⟨Nat.le_of_ble_eq_true rfl, Nat.le_of_ble_eq_true rfl⟩) hE hS hA trivial rfl rfl hl.1 (Nat.le_of_ble_eq_true rfl) dX6_has_5 ⟨Nat.le_of_ble_eq_true rfl, Nat.le_of_ble_eq_true rfl⟩) ?_
  refine lv_istore_n (lv' := [(3, .int (nI (rLv (N (403 * r))))), (0, .ref m0), (1, .int (nI r)), (2, .int (nI x))]) hx hb dX6_has_8 rfl hl (by decide) rfl (fun ls hl => ?_)
  refine lv_iconst (v := nI 0) hx hb dX6_has_9 rfl ?_
  refine lv_istore (lv' := [(4, .int (nI 0)), (3, .int (nI (rLv (N (403 * r))))), (0, .ref m0), (1, .int (nI r)), (2, .int (nI x))]) hx hb dX6_has_10 hl (by decide) rfl (fun ls hl => ?_)
  have hl : lv_has ls 6 [(4, .int (nI 0)), (3, .int (nI (rLv (N (403 * r))))), (0, .ref m0), (1, .int (nI r)), (2, .int (nI x))] := lv_sub hl [0, 1, 2, 3, 4] rfl
  refine xloopR (σ := Nat) (C := (fun (x_ : Nat) ls => (x_ ≤ 5) ∧ (∀ a, a < x_ → ∀ b, b < rBl (rLv (N (403 * r))) a → ¬ rId N r a b = x) ∧ lv_has ls 6 [(4, .int (nI x_)), (3, .int (nI (rLv (N (403 * r))))), (0, .ref m0), (1, .int (nI r)), (2, .int (nI x))])) (μ := (fun (x_ : Nat) => 5 - x_)) (W' := fun ls => W p l e _ s m _ below meth c _ _ _ _ _ (F0 m 12 ls [])) ?_ 0 _ ⟨(by omega), (fun a ha => absurd ha (Nat.not_lt_zero _)), hl⟩
  intro x_ ls hC ih_12
  obtain ⟨lv, rfl⟩ : ∃ z, z = x_ := ⟨x_, rfl⟩
  obtain ⟨hlv, ho, hl⟩ := hC
  have hlv : lv ≤ 5 := hlv
  have ho : ∀ a, a < lv → ∀ b, b < rBl (rLv (N (403 * r))) a → ¬ rId N r a b = x := ho
  have hl : lv_has ls 6 [(4, .int (nI lv)), (3, .int (nI (rLv (N (403 * r))))), (0, .ref m0), (1, .int (nI r)), (2, .int (nI x))] := hl
  refine id ?_
  refine lv_iload hx hb dX6_has_12 (lv_at hl 0 rfl) ?_
  refine lv_iconst (v := nI 5) hx hb dX6_has_14 rfl ?_
  refine n_icmp_ge (tgt := 59) hx hb (by omega) (by omega) dX6_has_15 (by decide) (fun c_15 => ?_) (fun c_15 => ?_)
  · refine lv_iconst (v := nI 0) hx hb dX6_has_59 rfl ?_
    exact xret_z hx hb hr hk dX6_has_60 (by first | exact Or.inl rfl | exact Or.inr rfl) (xb0 (fun ⟨a, ha, b, hb, hc⟩ => ho a (by omega) b hb hc))
  · refine lv_iconst (v := nI 0) hx hb dX6_has_18 rfl ?_
    refine lv_istore (lv' := [(5, .int (nI 0)), (4, .int (nI lv)), (3, .int (nI (rLv (N (403 * r))))), (0, .ref m0), (1, .int (nI r)), (2, .int (nI x))]) hx hb dX6_has_19 hl (by decide) rfl (fun ls hl => ?_)
    have hl : lv_has ls 6 [(5, .int (nI 0)), (4, .int (nI lv)), (3, .int (nI (rLv (N (403 * r))))), (0, .ref m0), (1, .int (nI r)), (2, .int (nI x))] := lv_sub hl [0, 1, 2, 3, 4, 5] rfl
    refine xloopR (σ := Nat) (C := (fun (x_ : Nat) ls => (x_ ≤ rBl (rLv (N (403 * r))) lv) ∧ (∀ b, b < x_ → ¬ rId N r lv b = x) ∧ lv_has ls 6 [(5, .int (nI x_)), (4, .int (nI lv)), (3, .int (nI (rLv (N (403 * r))))), (0, .ref m0), (1, .int (nI r)), (2, .int (nI x))])) (μ := (fun (x_ : Nat) => rBl (rLv (N (403 * r))) lv - x_)) (W' := fun ls => W p l e _ s m _ below meth c _ _ _ _ _ (F0 m 21 ls [])) ?_ 0 _ ⟨(Nat.zero_le _), (fun a ha => absurd ha (Nat.not_lt_zero _)), hl⟩
    intro x_ ls hC ih_21
    obtain ⟨pl, rfl⟩ : ∃ z, z = x_ := ⟨x_, rfl⟩
    obtain ⟨hpl, hi, hl⟩ := hC
    have hpl : pl ≤ rBl (rLv (N (403 * r))) lv := hpl
    have hi : ∀ b, b < pl → ¬ rId N r lv b = x := hi
    have hl : lv_has ls 6 [(5, .int (nI pl)), (4, .int (nI lv)), (3, .int (nI (rLv (N (403 * r))))), (0, .ref m0), (1, .int (nI r)), (2, .int (nI x))] := hl
    refine id ?_
    refine lv_iload hx hb dX6_has_21 (lv_at hl 0 rfl) ?_
    refine lv_iload_n hx hb dX6_has_23 rfl (lv_at hl 2 rfl) ?_
    refine lv_iload hx hb dX6_has_24 (lv_at hl 1 rfl) ?_
    refine xrd (xrunS (As := [.int (nI (rLv (N (403 * r)))), .int (nI lv)]) (rest := [.int (nI pl)]) S (c_X6_blocks l G (rLv (N (403 * r))) lv (by have := rLv_le (hrows r hr24); omega) (by omega)) (va_cwS 2 hts gX6_has_X6_blocks rfl rfl rfl (by decide +kernel) ⟨Nat.le_of_ble_eq_true rfl, Nat.le_of_ble_eq_true rfl⟩) hE hS hA trivial rfl rfl hl.1 (Nat.le_of_ble_eq_true rfl) dX6_has_26 ⟨Nat.le_of_ble_eq_true rfl, Nat.le_of_ble_eq_true rfl⟩) ?_
    refine n_icmp_ge (tgt := 53) hx hb (by have := rBl_lt lv (rLv_le (hrows r hr24)); omega) (by have := rBl_lt lv (rLv_le (hrows r hr24)); omega) dX6_has_29 (by decide) (fun c_29 => ?_) (fun c_29 => ?_)
    · refine lv_iinc (v := nI (lv + 1)) (lv' := [(4, .int (nI (lv + 1))), (5, .int (nI pl)), (3, .int (nI (rLv (N (403 * r))))), (0, .ref m0), (1, .int (nI r)), (2, .int (nI x))]) hx hb dX6_has_53 hl (k := 1) rfl (nI_add lv 1) (by decide) rfl (fun ls hl => ?_)
      refine lv_goto (tgt := 12) hx hb dX6_has_56 (by decide) ?_
      have hl : lv_has ls 6 [(4, .int (nI (lv + 1))), (3, .int (nI (rLv (N (403 * r))))), (0, .ref m0), (1, .int (nI r)), (2, .int (nI x))] := lv_sub hl [0, 2, 3, 4, 5] rfl
      exact ih_12 (lv + 1) _ (by show 5 - (lv + 1) < 5 - lv; omega) ⟨(by omega), (fun a ha b hb => (Nat.lt_succ_iff_lt_or_eq.mp ha).elim (fun h => ho a h b hb) (fun h => by subst h; exact hi b (by omega))), hl⟩
    · refine lv_aload_n hx hb dX6_has_32 rfl (lv_at hl 3 rfl) ?_
      refine lv_iload_n hx hb dX6_has_33 rfl (lv_at hl 4 rfl) ?_
      refine lv_iload hx hb dX6_has_34 (lv_at hl 1 rfl) ?_
      refine lv_iload hx hb dX6_has_36 (lv_at hl 0 rfl) ?_
      refine xrd (xrunV (As := [.int (nI r), .int (nI lv), .int (nI pl)]) (rest := []) S (c_X6_id l G m0 aN aH aS aT N Hs Sl tx kept fil ty at_ nu r lv pl hN (by omega) (by have := rBl_bd (Nat.le_succ_of_le (rLv_le (hrows r hr24))) (show lv < 5 by omega) c_29; omega)) (cwV 3 hts gX6_has_X6_id rfl rfl rfl (by decide +kernel) ⟨Nat.le_of_ble_eq_true rfl, Nat.le_of_ble_eq_true rfl⟩) hE hS hA 0 6 hP rfl rfl rfl hP rfl rfl hl.1 (Nat.le_of_ble_eq_true rfl) dX6_has_38 ⟨Nat.le_of_ble_eq_true rfl, Nat.le_of_ble_eq_true rfl⟩) ?_
      refine lv_iload_n hx hb dX6_has_41 rfl (lv_at hl 5 rfl) ?_
      refine n_icmp_ne (tgt := 47) hx hb (by have := rId_lt hN r lv pl; omega) (by omega) dX6_has_42 (by decide) (fun c_42 => ?_) (fun c_42 => ?_)
      · refine lv_iinc (v := nI (pl + 1)) (lv' := [(5, .int (nI (pl + 1))), (4, .int (nI lv)), (3, .int (nI (rLv (N (403 * r))))), (0, .ref m0), (1, .int (nI r)), (2, .int (nI x))]) hx hb dX6_has_47 hl (k := 0) rfl (nI_add pl 1) (by decide) rfl (fun ls hl => ?_)
        refine lv_goto (tgt := 21) hx hb dX6_has_50 (by decide) ?_
        have hl : lv_has ls 6 [(5, .int (nI (pl + 1))), (4, .int (nI lv)), (3, .int (nI (rLv (N (403 * r))))), (0, .ref m0), (1, .int (nI r)), (2, .int (nI x))] := lv_sub hl [0, 1, 2, 3, 4, 5] rfl
        exact ih_21 (pl + 1) _ (by show rBl (rLv (N (403 * r))) lv - (pl + 1) < rBl (rLv (N (403 * r))) lv - pl; omega) ⟨(by omega), (fun b hb => (Nat.lt_succ_iff_lt_or_eq.mp hb).elim (fun h => hi b h) (fun h => by subst h; exact c_42)), hl⟩
      · refine lv_iconst (v := nI 1) hx hb dX6_has_45 rfl ?_
        exact xret_z hx hb hr hk dX6_has_46 (by first | exact Or.inl rfl | exact Or.inr rfl) (xb1 ⟨lv, by omega, pl, c_29, c_42⟩)

theorem hw_X6_isOfVector_f7 : Cond.fieldLink RX6 7 "TailVectorsModel" "now" "[I" ∈ wsX6_isOfVector := by decide +kernel
theorem hi_X6_isOfVector_RX6 : ∀ w ∈ u_ws RX6 TX6 9, w ∈ wsX6_isOfVector := by decide +kernel
set_option maxHeartbeats 4000000 in
set_option maxRecDepth 100000 in
theorem c_X6_isOfVector (l : Launch) (G : xG) (m0 : Nat) (aN : Nat) (aH : Nat) (aS : Nat) (aT : Nat) (N : Nat → Nat) (Hs : Nat → Nat) (Sl : Nat → Nat) (tx : Nat → Nat) (kept : Nat) (fil : Nat) (ty : Nat) (at_ : Nat) (nu : Nat) (x : Nat) (hN : ∀ j, N j < 2 ^ 24) (hev : 1 ≤ N 10171) (hev2 : N 10171 ≤ 24) (hrows : ∀ v, v ≤ 24 → N (403 * v) ≤ 300) (hx24 : x < 2 ^ 24) : Met l yX6_isOfVector wsX6_isOfVector ({ frames := 4, cells := 0, slots := 0, locals := 87 } : Room) (xPc G [.ref m0, .int (nI x)] (fun H => va_P G.1 vwCl [(m0, .inr (6, [.ref aN, .ref aH, .int (nI kept), .ref aS, .int (nI fil), .int (nI ty), .ref aT, .int (nI at_), .int (nI nu)])), (aN, .inl (xcI G, 10276, .inl (nf N))), (aH, .inl (xcI G, 41104, .inl (nf Hs))), (aS, .inl (xcI G, 10276, .inl (nf Sl))), (aT, .inl (xcC G, 60, .inl (nf tx)))] H)) (k2_QcV (.int (bI (rIsOf N x)))) 0 0 (fun _ => False) := by
  refine xMet (cc := cX6_isOfVector) (nL := 3) (ret := (some (.boolean))) (by decide) rfl (Nat.le_of_ble_eq_true rfl) ?_
  intro p e s m below meth c S hr hk hnm hE hP ls hl
  obtain ⟨hx, hb, hml, hown, hts⟩ := id S
  have hown : s.vm.findClass RX6 = some m.cls := hown
  have hK := hE.1
  have hS : va_S (fun _ : Nat => False) s.heap s.heap [] := va_S.rf
  have hA : ∀ q, (fun _ : Nat => False) q → xB0 G ≤ q := fun _ h => h.elim
  have hP : va_P G.1 vwCl [(m0, .inr (6, [.ref aN, .ref aH, .int (nI kept), .ref aS, .int (nI fil), .int (nI ty), .ref aT, .int (nI at_), .int (nI nu)])), (aN, .inl (xcI G, 10276, .inl (nf N))), (aH, .inl (xcI G, 41104, .inl (nf Hs))), (aS, .inl (xcI G, 10276, .inl (nf Sl))), (aT, .inl (xcC G, 60, .inl (nf tx)))] s.heap := hP
  have hl : lv_has ls 3 [(0, .ref m0), (1, .int (nI x))] := hl
  refine lv_iconst (v := nI 0) hx hb dX6_isOfVector_0 rfl ?_
  refine lv_istore_n (lv' := [(2, .int (nI 0)), (0, .ref m0), (1, .int (nI x))]) hx hb dX6_isOfVector_1 rfl hl (by decide) rfl (fun ls hl => ?_)
  have hl : lv_has ls 3 [(2, .int (nI 0)), (0, .ref m0), (1, .int (nI x))] := lv_sub hl [0, 1, 2] rfl
  refine xloopR (σ := Nat) (C := (fun (x_ : Nat) ls => (x_ ≤ N 10171) ∧ (∀ a, a < x_ → ¬ (¬ rNo N (nI a) ∧ rHas N a x)) ∧ lv_has ls 3 [(2, .int (nI x_)), (0, .ref m0), (1, .int (nI x))])) (μ := (fun (x_ : Nat) => N 10171 - x_)) (W' := fun ls => W p l e _ s m _ below meth c _ _ _ _ _ (F0 m 2 ls [])) ?_ 0 _ ⟨(by omega), (fun a ha => absurd ha (Nat.not_lt_zero _)), hl⟩
  intro x_ ls hC ih_2
  obtain ⟨v, rfl⟩ : ∃ z, z = x_ := ⟨x_, rfl⟩
  obtain ⟨hv, ho, hl⟩ := hC
  have hv : v ≤ N 10171 := hv
  have ho : ∀ a, a < v → ¬ (¬ rNo N (nI a) ∧ rHas N a x) := ho
  have hl : lv_has ls 3 [(2, .int (nI v)), (0, .ref m0), (1, .int (nI x))] := hl
  refine id ?_
  refine lv_iload_n hx hb dX6_isOfVector_2 rfl (lv_at hl 0 rfl) ?_
  refine lv_aload_n hx hb dX6_isOfVector_3 rfl (lv_at hl 1 rfl) ?_
  refine va_get (D := G.1) (ci := 6) (v := .ref aN) (C := RX6) (T := TX6) (N := 9) hx hb hts hi_X6_isOfVector_RX6 hown hK hP 0 rfl rfl 0 (by decide) (hts _ hw_X6_isOfVector_f7) (fun _ h9 => h9) rfl dX6_isOfVector_4 ?_
  refine lv_sipush (v := nI 10171) hx hb dX6_isOfVector_7 (by decide) ?_
  refine n_iald hx hb hK hP 1 0 rfl rfl (by omega) (by decide) dX6_isOfVector_10 ?_
  refine n_icmp_ge (tgt := 39) hx hb (by omega) (by have := hN 10171; omega) dX6_isOfVector_11 (by decide) (fun c_11 => ?_) (fun c_11 => ?_)
  · refine lv_iconst (v := nI 0) hx hb dX6_isOfVector_39 rfl ?_
    exact xret_z hx hb hr hk dX6_isOfVector_40 (by first | exact Or.inl rfl | exact Or.inr rfl) (xb0 (fun ⟨a, ha, hb⟩ => ho a (by omega) hb))
  · refine lv_aload_n hx hb dX6_isOfVector_14 rfl (lv_at hl 1 rfl) ?_
    refine lv_iload_n hx hb dX6_isOfVector_15 rfl (lv_at hl 0 rfl) ?_
    refine xrd (xrunV (As := [.int (nI v)]) (rest := []) S (c_X6_no l G m0 aN aH aS aT N Hs Sl tx kept fil ty at_ nu (nI v) hN hev hev2) (cwV 1 hts gX6_isOfVector_X6_no rfl rfl rfl (by decide +kernel) ⟨Nat.le_of_ble_eq_true rfl, Nat.le_of_ble_eq_true rfl⟩) hE hS hA 0 6 hP rfl rfl rfl hP rfl rfl hl.1 (Nat.le_of_ble_eq_true rfl) dX6_isOfVector_16 ⟨Nat.le_of_ble_eq_true rfl, Nat.le_of_ble_eq_true rfl⟩) ?_
    refine b_if_ne (tgt := 33) hx hb dX6_isOfVector_19 (by decide) (fun c_19 => ?_) (fun c_19 => ?_)
    · refine lv_iinc (v := nI (v + 1)) (lv' := [(2, .int (nI (v + 1))), (0, .ref m0), (1, .int (nI x))]) hx hb dX6_isOfVector_33 hl (k := 0) rfl (nI_add v 1) (by decide) rfl (fun ls hl => ?_)
      refine lv_goto (tgt := 2) hx hb dX6_isOfVector_36 (by decide) ?_
      have hl : lv_has ls 3 [(2, .int (nI (v + 1))), (0, .ref m0), (1, .int (nI x))] := lv_sub hl [0, 1, 2] rfl
      exact ih_2 (v + 1) _ (by show N 10171 - (v + 1) < N 10171 - v; omega) ⟨(by omega), (fun a ha => (Nat.lt_succ_iff_lt_or_eq.mp ha).elim (fun h => ho a h) (fun h => by subst h; exact fun q => q.1 c_19)), hl⟩
    · refine lv_aload_n hx hb dX6_isOfVector_22 rfl (lv_at hl 1 rfl) ?_
      refine lv_iload_n hx hb dX6_isOfVector_23 rfl (lv_at hl 0 rfl) ?_
      refine lv_iload_n hx hb dX6_isOfVector_24 rfl (lv_at hl 2 rfl) ?_
      refine xrd (xrunV (As := [.int (nI v), .int (nI x)]) (rest := []) S (c_X6_has l G m0 aN aH aS aT N Hs Sl tx kept fil ty at_ nu v x hN hrows (by omega) hx24) (cwV 2 hts gX6_isOfVector_X6_has rfl rfl rfl (by decide +kernel) ⟨Nat.le_of_ble_eq_true rfl, Nat.le_of_ble_eq_true rfl⟩) hE hS hA 0 6 hP rfl rfl rfl hP rfl rfl hl.1 (Nat.le_of_ble_eq_true rfl) dX6_isOfVector_25 ⟨Nat.le_of_ble_eq_true rfl, Nat.le_of_ble_eq_true rfl⟩) ?_
      refine b_if_eq (tgt := 33) hx hb dX6_isOfVector_28 (by decide) (fun c_28 => ?_) (fun c_28 => ?_)
      · refine lv_iinc (v := nI (v + 1)) (lv' := [(2, .int (nI (v + 1))), (0, .ref m0), (1, .int (nI x))]) hx hb dX6_isOfVector_33 hl (k := 0) rfl (nI_add v 1) (by decide) rfl (fun ls hl => ?_)
        refine lv_goto (tgt := 2) hx hb dX6_isOfVector_36 (by decide) ?_
        have hl : lv_has ls 3 [(2, .int (nI (v + 1))), (0, .ref m0), (1, .int (nI x))] := lv_sub hl [0, 1, 2] rfl
        exact ih_2 (v + 1) _ (by show N 10171 - (v + 1) < N 10171 - v; omega) ⟨(by omega), (fun a ha => (Nat.lt_succ_iff_lt_or_eq.mp ha).elim (fun h => ho a h) (fun h => by subst h; exact fun q => c_28 q.2)), hl⟩
      · refine lv_iconst (v := nI 1) hx hb dX6_isOfVector_31 rfl ?_
        exact xret_z hx hb hr hk dX6_isOfVector_32 (by first | exact Or.inl rfl | exact Or.inr rfl) (xb1 ⟨v, c_11, c_19, c_28⟩)

set_option maxHeartbeats 4000000 in
set_option maxRecDepth 100000 in
theorem c_X6_sharedOf (l : Launch) (G : xG) (m0 : Nat) (aN : Nat) (aH : Nat) (aS : Nat) (aT : Nat) (N : Nat → Nat) (Hs : Nat → Nat) (Sl : Nat → Nat) (tx : Nat → Nat) (kept : Nat) (fil : Nat) (ty : Nat) (at_ : Nat) (nu : Nat) (r : Nat) (o : Nat) (hN : ∀ j, N j < 2 ^ 24) (hrows : ∀ v, v ≤ 24 → N (403 * v) ≤ 300) (hr24 : r ≤ 24) (ho24 : o ≤ 24) : Met l yX6_sharedOf wsX6_sharedOf ({ frames := 4, cells := 0, slots := 0, locals := 87 } : Room) (xPc G [.ref m0, .int (nI r), .int (nI o)] (fun H => va_P G.1 vwCl [(m0, .inr (6, [.ref aN, .ref aH, .int (nI kept), .ref aS, .int (nI fil), .int (nI ty), .ref aT, .int (nI at_), .int (nI nu)])), (aN, .inl (xcI G, 10276, .inl (nf N))), (aH, .inl (xcI G, 41104, .inl (nf Hs))), (aS, .inl (xcI G, 10276, .inl (nf Sl))), (aT, .inl (xcC G, 60, .inl (nf tx)))] H)) (k2_QcV (.int (nI (sumN (rSh N r (fun z => rHas N o z)) 5)))) 0 0 (fun _ => False) := by
  refine xMet (cc := cX6_sharedOf) (nL := 8) (ret := (some (.int))) (by decide) rfl (Nat.le_of_ble_eq_true rfl) ?_
  intro p e s m below meth c S hr hk hnm hE hP ls hl
  obtain ⟨hx, hb, hml, hown, hts⟩ := id S
  have hown : s.vm.findClass RX6 = some m.cls := hown
  have hK := hE.1
  have hS : va_S (fun _ : Nat => False) s.heap s.heap [] := va_S.rf
  have hA : ∀ q, (fun _ : Nat => False) q → xB0 G ≤ q := fun _ h => h.elim
  have hP : va_P G.1 vwCl [(m0, .inr (6, [.ref aN, .ref aH, .int (nI kept), .ref aS, .int (nI fil), .int (nI ty), .ref aT, .int (nI at_), .int (nI nu)])), (aN, .inl (xcI G, 10276, .inl (nf N))), (aH, .inl (xcI G, 41104, .inl (nf Hs))), (aS, .inl (xcI G, 10276, .inl (nf Sl))), (aT, .inl (xcC G, 60, .inl (nf tx)))] s.heap := hP
  have hl : lv_has ls 8 [(0, .ref m0), (1, .int (nI r)), (2, .int (nI o))] := hl
  refine lv_aload_n hx hb dX6_sharedOf_0 rfl (lv_at hl 0 rfl) ?_
  refine lv_iload_n hx hb dX6_sharedOf_1 rfl (lv_at hl 1 rfl) ?_
  refine xrd (xrunV (As := [.int (nI r)]) (rest := []) S (c_X6_rowLength l G m0 aN aH aS aT N Hs Sl tx kept fil ty at_ nu r hN (by omega)) (cwV 1 hts gX6_sharedOf_X6_rowLength rfl rfl rfl (by decide +kernel) ⟨Nat.le_of_ble_eq_true rfl, Nat.le_of_ble_eq_true rfl⟩) hE hS hA 0 6 hP rfl rfl rfl hP rfl rfl hl.1 (Nat.le_of_ble_eq_true rfl) dX6_sharedOf_2 ⟨Nat.le_of_ble_eq_true rfl, Nat.le_of_ble_eq_true rfl⟩) ?_
  refine xrd (xrunS (As := [.int (nI (N (403 * r)))]) (rest := []) S (c_X6_leaves l G (N (403 * r)) (by have := hrows r hr24; omega)) (va_cwS 1 hts gX6_sharedOf_X6_leaves rfl rfl rfl (by decide +kernel) ⟨Nat.le_of_ble_eq_true rfl, Nat.le_of_ble_eq_true rfl⟩) hE hS hA trivial rfl rfl hl.1 (Nat.le_of_ble_eq_true rfl) dX6_sharedOf_5 ⟨Nat.le_of_ble_eq_true rfl, Nat.le_of_ble_eq_true rfl⟩) ?_
  refine lv_istore_n (lv' := [(3, .int (nI (rLv (N (403 * r))))), (0, .ref m0), (1, .int (nI r)), (2, .int (nI o))]) hx hb dX6_sharedOf_8 rfl hl (by decide) rfl (fun ls hl => ?_)
  refine lv_iconst (v := nI 0) hx hb dX6_sharedOf_9 rfl ?_
  refine lv_istore (lv' := [(4, .int (nI 0)), (3, .int (nI (rLv (N (403 * r))))), (0, .ref m0), (1, .int (nI r)), (2, .int (nI o))]) hx hb dX6_sharedOf_10 hl (by decide) rfl (fun ls hl => ?_)
  refine lv_iconst (v := nI 0) hx hb dX6_sharedOf_12 rfl ?_
  refine lv_istore (lv' := [(5, .int (nI 0)), (4, .int (nI 0)), (3, .int (nI (rLv (N (403 * r))))), (0, .ref m0), (1, .int (nI r)), (2, .int (nI o))]) hx hb dX6_sharedOf_13 hl (by decide) rfl (fun ls hl => ?_)
  have hl : lv_has ls 8 [(5, .int (nI 0)), (4, .int (nI (sumN (rSh N r (fun z => rHas N o z)) 0))), (3, .int (nI (rLv (N (403 * r))))), (0, .ref m0), (1, .int (nI r)), (2, .int (nI o))] := lv_sub hl [0, 1, 2, 3, 4, 5] rfl
  refine xloopR (σ := Nat) (C := (fun (x_ : Nat) ls => (x_ ≤ 5) ∧ lv_has ls 8 [(5, .int (nI x_)), (4, .int (nI (sumN (rSh N r (fun z => rHas N o z)) x_))), (3, .int (nI (rLv (N (403 * r))))), (0, .ref m0), (1, .int (nI r)), (2, .int (nI o))])) (μ := (fun (x_ : Nat) => 5 - x_)) (W' := fun ls => W p l e _ s m _ below meth c _ _ _ _ _ (F0 m 15 ls [])) ?_ 0 _ ⟨(by omega), hl⟩
  intro x_ ls hC ih_15
  obtain ⟨lv, rfl⟩ : ∃ z, z = x_ := ⟨x_, rfl⟩
  obtain ⟨hlv, hl⟩ := hC
  have hlv : lv ≤ 5 := hlv
  have hl : lv_has ls 8 [(5, .int (nI lv)), (4, .int (nI (sumN (rSh N r (fun z => rHas N o z)) lv))), (3, .int (nI (rLv (N (403 * r))))), (0, .ref m0), (1, .int (nI r)), (2, .int (nI o))] := hl
  refine id ?_
  refine lv_iload hx hb dX6_sharedOf_15 (lv_at hl 0 rfl) ?_
  refine lv_iconst (v := nI 5) hx hb dX6_sharedOf_17 rfl ?_
  refine n_icmp_ge (tgt := 96) hx hb (by omega) (by omega) dX6_sharedOf_18 (by decide) (fun c_18 => ?_) (fun c_18 => ?_)
  · refine lv_iload hx hb dX6_sharedOf_96 (lv_at hl 1 rfl) ?_
    exact xret_i hx hb hr hk dX6_sharedOf_98 (by rw [show lv = 5 by omega])
  · refine lv_iconst (v := nI 0) hx hb dX6_sharedOf_21 rfl ?_
    refine lv_istore (lv' := [(6, .int (nI 0)), (5, .int (nI lv)), (4, .int (nI (sumN (rSh N r (fun z => rHas N o z)) lv))), (3, .int (nI (rLv (N (403 * r))))), (0, .ref m0), (1, .int (nI r)), (2, .int (nI o))]) hx hb dX6_sharedOf_22 hl (by decide) rfl (fun ls hl => ?_)
    have hl : lv_has ls 8 [(6, .int (nI 0)), (5, .int (nI lv)), (4, .int (nI (sumN (rSh N r (fun z => rHas N o z)) lv + sumN (fun z => bN ((fun z => rHas N o z) (rId N r lv z))) 0))), (3, .int (nI (rLv (N (403 * r))))), (0, .ref m0), (1, .int (nI r)), (2, .int (nI o))] := lv_sub hl [0, 1, 2, 3, 4, 5, 6] rfl
    refine xloopR (σ := Nat) (C := (fun (x_ : Nat) ls => (x_ ≤ rBl (rLv (N (403 * r))) lv) ∧ lv_has ls 8 [(6, .int (nI x_)), (5, .int (nI lv)), (4, .int (nI (sumN (rSh N r (fun z => rHas N o z)) lv + sumN (fun z => bN ((fun z => rHas N o z) (rId N r lv z))) x_))), (3, .int (nI (rLv (N (403 * r))))), (0, .ref m0), (1, .int (nI r)), (2, .int (nI o))])) (μ := (fun (x_ : Nat) => rBl (rLv (N (403 * r))) lv - x_)) (W' := fun ls => W p l e _ s m _ below meth c _ _ _ _ _ (F0 m 24 ls [])) ?_ 0 _ ⟨(Nat.zero_le _), hl⟩
    intro x_ ls hC ih_24
    obtain ⟨pl, rfl⟩ : ∃ z, z = x_ := ⟨x_, rfl⟩
    obtain ⟨hpl, hl⟩ := hC
    have hpl : pl ≤ rBl (rLv (N (403 * r))) lv := hpl
    have hl : lv_has ls 8 [(6, .int (nI pl)), (5, .int (nI lv)), (4, .int (nI (sumN (rSh N r (fun z => rHas N o z)) lv + sumN (fun z => bN ((fun z => rHas N o z) (rId N r lv z))) pl))), (3, .int (nI (rLv (N (403 * r))))), (0, .ref m0), (1, .int (nI r)), (2, .int (nI o))] := hl
    refine id ?_
    refine lv_iload hx hb dX6_sharedOf_24 (lv_at hl 0 rfl) ?_
    refine lv_iload_n hx hb dX6_sharedOf_26 rfl (lv_at hl 3 rfl) ?_
    refine lv_iload hx hb dX6_sharedOf_27 (lv_at hl 1 rfl) ?_
    refine xrd (xrunS (As := [.int (nI (rLv (N (403 * r)))), .int (nI lv)]) (rest := [.int (nI pl)]) S (c_X6_blocks l G (rLv (N (403 * r))) lv (by have := rLv_le (hrows r hr24); omega) (by omega)) (va_cwS 2 hts gX6_sharedOf_X6_blocks rfl rfl rfl (by decide +kernel) ⟨Nat.le_of_ble_eq_true rfl, Nat.le_of_ble_eq_true rfl⟩) hE hS hA trivial rfl rfl hl.1 (Nat.le_of_ble_eq_true rfl) dX6_sharedOf_29 ⟨Nat.le_of_ble_eq_true rfl, Nat.le_of_ble_eq_true rfl⟩) ?_
    refine n_icmp_ge (tgt := 90) hx hb (by have := rBl_lt lv (rLv_le (hrows r hr24)); omega) (by have := rBl_lt lv (rLv_le (hrows r hr24)); omega) dX6_sharedOf_32 (by decide) (fun c_32 => ?_) (fun c_32 => ?_)
    · refine lv_iinc (v := nI (lv + 1)) (lv' := [(5, .int (nI (lv + 1))), (6, .int (nI pl)), (4, .int (nI (sumN (rSh N r (fun z => rHas N o z)) lv + sumN (fun z => bN ((fun z => rHas N o z) (rId N r lv z))) pl))), (3, .int (nI (rLv (N (403 * r))))), (0, .ref m0), (1, .int (nI r)), (2, .int (nI o))]) hx hb dX6_sharedOf_90 hl (k := 1) rfl (nI_add lv 1) (by decide) rfl (fun ls hl => ?_)
      refine lv_goto (tgt := 15) hx hb dX6_sharedOf_93 (by decide) ?_
      have hpl2 : pl = rBl (rLv (N (403 * r))) lv := by omega
      subst hpl2
      have hl : lv_has ls 8 [(5, .int (nI (lv + 1))), (4, .int (nI (sumN (rSh N r (fun z => rHas N o z)) (lv + 1)))), (3, .int (nI (rLv (N (403 * r))))), (0, .ref m0), (1, .int (nI r)), (2, .int (nI o))] := lv_sub hl [0, 2, 3, 4, 5, 6] rfl
      exact ih_15 (lv + 1) _ (by show 5 - (lv + 1) < 5 - lv; omega) ⟨(by omega), hl⟩
    · refine lv_aload_n hx hb dX6_sharedOf_35 rfl (lv_at hl 4 rfl) ?_
      refine lv_iload_n hx hb dX6_sharedOf_36 rfl (lv_at hl 5 rfl) ?_
      refine lv_iload hx hb dX6_sharedOf_37 (lv_at hl 1 rfl) ?_
      refine lv_iload hx hb dX6_sharedOf_39 (lv_at hl 0 rfl) ?_
      refine xrd (xrunV (As := [.int (nI r), .int (nI lv), .int (nI pl)]) (rest := []) S (c_X6_id l G m0 aN aH aS aT N Hs Sl tx kept fil ty at_ nu r lv pl hN (by omega) (by have := rBl_bd (Nat.le_succ_of_le (rLv_le (hrows r hr24))) (show lv < 5 by omega) c_32; omega)) (cwV 3 hts gX6_sharedOf_X6_id rfl rfl rfl (by decide +kernel) ⟨Nat.le_of_ble_eq_true rfl, Nat.le_of_ble_eq_true rfl⟩) hE hS hA 0 6 hP rfl rfl rfl hP rfl rfl hl.1 (Nat.le_of_ble_eq_true rfl) dX6_sharedOf_41 ⟨Nat.le_of_ble_eq_true rfl, Nat.le_of_ble_eq_true rfl⟩) ?_
      refine lv_istore (lv' := [(7, .int (nI (rId N r lv pl))), (6, .int (nI pl)), (5, .int (nI lv)), (4, .int (nI (sumN (rSh N r (fun z => rHas N o z)) lv + sumN (fun z => bN ((fun z => rHas N o z) (rId N r lv z))) pl))), (3, .int (nI (rLv (N (403 * r))))), (0, .ref m0), (1, .int (nI r)), (2, .int (nI o))]) hx hb dX6_sharedOf_44 hl (by decide) rfl (fun ls hl => ?_)
      refine lv_iload hx hb dX6_sharedOf_46 (lv_at hl 3 rfl) ?_
      refine lv_iload_n hx hb dX6_sharedOf_48 rfl (lv_at hl 7 rfl) ?_
      refine lv_bipush (v := (-5)) hx hb dX6_sharedOf_49 (by decide) ?_
      refine lv_icmp_ne (tgt := 66) hx hb dX6_sharedOf_51 (by decide) (fun c_51 => ?_) (fun c_51 => ?_)
      · refine lv_aload_n hx hb dX6_sharedOf_66 rfl (lv_at hl 5 rfl) ?_
        refine lv_iload_n hx hb dX6_sharedOf_67 rfl (lv_at hl 7 rfl) ?_
        refine lv_iload hx hb dX6_sharedOf_68 (lv_at hl 0 rfl) ?_
        refine xrd (xrunV (As := [.int (nI o), .int (nI (rId N r lv pl))]) (rest := [.int (nI (sumN (rSh N r (fun z => rHas N o z)) lv + sumN (fun z => bN ((fun z => rHas N o z) (rId N r lv z))) pl))]) S (c_X6_has l G m0 aN aH aS aT N Hs Sl tx kept fil ty at_ nu o (rId N r lv pl) hN hrows ho24 (rId_lt hN r lv pl)) (cwV 2 hts gX6_sharedOf_X6_has rfl rfl rfl (by decide +kernel) ⟨Nat.le_of_ble_eq_true rfl, Nat.le_of_ble_eq_true rfl⟩) hE hS hA 0 6 hP rfl rfl rfl hP rfl rfl hl.1 (Nat.le_of_ble_eq_true rfl) dX6_sharedOf_70 ⟨Nat.le_of_ble_eq_true rfl, Nat.le_of_ble_eq_true rfl⟩) ?_
        refine b_if_eq (tgt := 80) hx hb dX6_sharedOf_73 (by decide) (fun c_73 => ?_) (fun c_73 => ?_)
        · refine lv_iconst (v := nI 0) hx hb dX6_sharedOf_80 rfl ?_
          refine n_top (y := nI (bN ((fun z => rHas N o z) (rId N r lv pl)))) (bN_ff c_73) ?_
          refine n_iadd hx hb dX6_sharedOf_81 ?_
          refine n_top (y := nI (sumN (rSh N r (fun z => rHas N o z)) lv + sumN (fun z => bN ((fun z => rHas N o z) (rId N r lv z))) (pl + 1))) (by rw [Nat.add_assoc]; rfl) ?_
          refine lv_istore (lv' := [(4, .int (nI (sumN (rSh N r (fun z => rHas N o z)) lv + sumN (fun z => bN ((fun z => rHas N o z) (rId N r lv z))) (pl + 1)))), (7, .int (nI (rId N r lv pl))), (6, .int (nI pl)), (5, .int (nI lv)), (3, .int (nI (rLv (N (403 * r))))), (0, .ref m0), (1, .int (nI r)), (2, .int (nI o))]) hx hb dX6_sharedOf_82 hl (by decide) rfl (fun ls hl => ?_)
          refine lv_iinc (v := nI (pl + 1)) (lv' := [(6, .int (nI (pl + 1))), (4, .int (nI (sumN (rSh N r (fun z => rHas N o z)) lv + sumN (fun z => bN ((fun z => rHas N o z) (rId N r lv z))) (pl + 1)))), (7, .int (nI (rId N r lv pl))), (5, .int (nI lv)), (3, .int (nI (rLv (N (403 * r))))), (0, .ref m0), (1, .int (nI r)), (2, .int (nI o))]) hx hb dX6_sharedOf_84 hl (k := 2) rfl (nI_add pl 1) (by decide) rfl (fun ls hl => ?_)
          refine lv_goto (tgt := 24) hx hb dX6_sharedOf_87 (by decide) ?_
          have hl : lv_has ls 8 [(6, .int (nI (pl + 1))), (5, .int (nI lv)), (4, .int (nI (sumN (rSh N r (fun z => rHas N o z)) lv + sumN (fun z => bN ((fun z => rHas N o z) (rId N r lv z))) (pl + 1)))), (3, .int (nI (rLv (N (403 * r))))), (0, .ref m0), (1, .int (nI r)), (2, .int (nI o))] := lv_sub hl [0, 3, 1, 4, 5, 6, 7] rfl
          exact ih_24 (pl + 1) _ (by show rBl (rLv (N (403 * r))) lv - (pl + 1) < rBl (rLv (N (403 * r))) lv - pl; omega) ⟨(by omega), hl⟩
        · refine lv_iconst (v := nI 1) hx hb dX6_sharedOf_76 rfl ?_
          refine n_top (y := nI (bN ((fun z => rHas N o z) (rId N r lv pl)))) (bN_tt c_73) ?_
          refine lv_goto (tgt := 81) hx hb dX6_sharedOf_77 (by decide) ?_
          refine n_iadd hx hb dX6_sharedOf_81 ?_
          refine n_top (y := nI (sumN (rSh N r (fun z => rHas N o z)) lv + sumN (fun z => bN ((fun z => rHas N o z) (rId N r lv z))) (pl + 1))) (by rw [Nat.add_assoc]; rfl) ?_
          refine lv_istore (lv' := [(4, .int (nI (sumN (rSh N r (fun z => rHas N o z)) lv + sumN (fun z => bN ((fun z => rHas N o z) (rId N r lv z))) (pl + 1)))), (7, .int (nI (rId N r lv pl))), (6, .int (nI pl)), (5, .int (nI lv)), (3, .int (nI (rLv (N (403 * r))))), (0, .ref m0), (1, .int (nI r)), (2, .int (nI o))]) hx hb dX6_sharedOf_82 hl (by decide) rfl (fun ls hl => ?_)
          refine lv_iinc (v := nI (pl + 1)) (lv' := [(6, .int (nI (pl + 1))), (4, .int (nI (sumN (rSh N r (fun z => rHas N o z)) lv + sumN (fun z => bN ((fun z => rHas N o z) (rId N r lv z))) (pl + 1)))), (7, .int (nI (rId N r lv pl))), (5, .int (nI lv)), (3, .int (nI (rLv (N (403 * r))))), (0, .ref m0), (1, .int (nI r)), (2, .int (nI o))]) hx hb dX6_sharedOf_84 hl (k := 2) rfl (nI_add pl 1) (by decide) rfl (fun ls hl => ?_)
          refine lv_goto (tgt := 24) hx hb dX6_sharedOf_87 (by decide) ?_
          have hl : lv_has ls 8 [(6, .int (nI (pl + 1))), (5, .int (nI lv)), (4, .int (nI (sumN (rSh N r (fun z => rHas N o z)) lv + sumN (fun z => bN ((fun z => rHas N o z) (rId N r lv z))) (pl + 1)))), (3, .int (nI (rLv (N (403 * r))))), (0, .ref m0), (1, .int (nI r)), (2, .int (nI o))] := lv_sub hl [0, 3, 1, 4, 5, 6, 7] rfl
          exact ih_24 (pl + 1) _ (by show rBl (rLv (N (403 * r))) lv - (pl + 1) < rBl (rLv (N (403 * r))) lv - pl; omega) ⟨(by omega), hl⟩
      · exact absurd c_51 (nI_ne5 (by omega))

set_option maxHeartbeats 4000000 in
set_option maxRecDepth 100000 in
theorem c_X6_sharedOf_n (l : Launch) (G : xG) (m0 : Nat) (aN : Nat) (aH : Nat) (aS : Nat) (aT : Nat) (N : Nat → Nat) (Hs : Nat → Nat) (Sl : Nat → Nat) (tx : Nat → Nat) (kept : Nat) (fil : Nat) (ty : Nat) (at_ : Nat) (nu : Nat) (r : Nat) (hN : ∀ j, N j < 2 ^ 24) (hrows : ∀ v, v ≤ 24 → N (403 * v) ≤ 300) (hr24 : r ≤ 24) (hev : 1 ≤ N 10171) (hev2 : N 10171 ≤ 24) : Met l yX6_sharedOf wsX6_sharedOf ({ frames := 5, cells := 0, slots := 0, locals := 109 } : Room) (xPc G [.ref m0, .int (nI r), .int (-5)] (fun H => va_P G.1 vwCl [(m0, .inr (6, [.ref aN, .ref aH, .int (nI kept), .ref aS, .int (nI fil), .int (nI ty), .ref aT, .int (nI at_), .int (nI nu)])), (aN, .inl (xcI G, 10276, .inl (nf N))), (aH, .inl (xcI G, 41104, .inl (nf Hs))), (aS, .inl (xcI G, 10276, .inl (nf Sl))), (aT, .inl (xcC G, 60, .inl (nf tx)))] H)) (k2_QcV (.int (nI (sumN (rSh N r (fun z => rIsOf N z)) 5)))) 0 0 (fun _ => False) := by
  refine xMet (cc := cX6_sharedOf) (nL := 8) (ret := (some (.int))) (by decide) rfl (Nat.le_of_ble_eq_true rfl) ?_
  intro p e s m below meth c S hr hk hnm hE hP ls hl
  obtain ⟨hx, hb, hml, hown, hts⟩ := id S
  have hown : s.vm.findClass RX6 = some m.cls := hown
  have hK := hE.1
  have hS : va_S (fun _ : Nat => False) s.heap s.heap [] := va_S.rf
  have hA : ∀ q, (fun _ : Nat => False) q → xB0 G ≤ q := fun _ h => h.elim
  have hP : va_P G.1 vwCl [(m0, .inr (6, [.ref aN, .ref aH, .int (nI kept), .ref aS, .int (nI fil), .int (nI ty), .ref aT, .int (nI at_), .int (nI nu)])), (aN, .inl (xcI G, 10276, .inl (nf N))), (aH, .inl (xcI G, 41104, .inl (nf Hs))), (aS, .inl (xcI G, 10276, .inl (nf Sl))), (aT, .inl (xcC G, 60, .inl (nf tx)))] s.heap := hP
  have hl : lv_has ls 8 [(0, .ref m0), (1, .int (nI r)), (2, .int (-5))] := hl
  refine lv_aload_n hx hb dX6_sharedOf_0 rfl (lv_at hl 0 rfl) ?_
  refine lv_iload_n hx hb dX6_sharedOf_1 rfl (lv_at hl 1 rfl) ?_
  refine xrd (xrunV (As := [.int (nI r)]) (rest := []) S (c_X6_rowLength l G m0 aN aH aS aT N Hs Sl tx kept fil ty at_ nu r hN (by omega)) (cwV 1 hts gX6_sharedOf_X6_rowLength rfl rfl rfl (by decide +kernel) ⟨Nat.le_of_ble_eq_true rfl, Nat.le_of_ble_eq_true rfl⟩) hE hS hA 0 6 hP rfl rfl rfl hP rfl rfl hl.1 (Nat.le_of_ble_eq_true rfl) dX6_sharedOf_2 ⟨Nat.le_of_ble_eq_true rfl, Nat.le_of_ble_eq_true rfl⟩) ?_
  refine xrd (xrunS (As := [.int (nI (N (403 * r)))]) (rest := []) S (c_X6_leaves l G (N (403 * r)) (by have := hrows r hr24; omega)) (va_cwS 1 hts gX6_sharedOf_X6_leaves rfl rfl rfl (by decide +kernel) ⟨Nat.le_of_ble_eq_true rfl, Nat.le_of_ble_eq_true rfl⟩) hE hS hA trivial rfl rfl hl.1 (Nat.le_of_ble_eq_true rfl) dX6_sharedOf_5 ⟨Nat.le_of_ble_eq_true rfl, Nat.le_of_ble_eq_true rfl⟩) ?_
  refine lv_istore_n (lv' := [(3, .int (nI (rLv (N (403 * r))))), (0, .ref m0), (1, .int (nI r)), (2, .int (-5))]) hx hb dX6_sharedOf_8 rfl hl (by decide) rfl (fun ls hl => ?_)
  refine lv_iconst (v := nI 0) hx hb dX6_sharedOf_9 rfl ?_
  refine lv_istore (lv' := [(4, .int (nI 0)), (3, .int (nI (rLv (N (403 * r))))), (0, .ref m0), (1, .int (nI r)), (2, .int (-5))]) hx hb dX6_sharedOf_10 hl (by decide) rfl (fun ls hl => ?_)
  refine lv_iconst (v := nI 0) hx hb dX6_sharedOf_12 rfl ?_
  refine lv_istore (lv' := [(5, .int (nI 0)), (4, .int (nI 0)), (3, .int (nI (rLv (N (403 * r))))), (0, .ref m0), (1, .int (nI r)), (2, .int (-5))]) hx hb dX6_sharedOf_13 hl (by decide) rfl (fun ls hl => ?_)
  have hl : lv_has ls 8 [(5, .int (nI 0)), (4, .int (nI (sumN (rSh N r (fun z => rIsOf N z)) 0))), (3, .int (nI (rLv (N (403 * r))))), (0, .ref m0), (1, .int (nI r)), (2, .int (-5))] := lv_sub hl [0, 1, 2, 3, 4, 5] rfl
  refine xloopR (σ := Nat) (C := (fun (x_ : Nat) ls => (x_ ≤ 5) ∧ lv_has ls 8 [(5, .int (nI x_)), (4, .int (nI (sumN (rSh N r (fun z => rIsOf N z)) x_))), (3, .int (nI (rLv (N (403 * r))))), (0, .ref m0), (1, .int (nI r)), (2, .int (-5))])) (μ := (fun (x_ : Nat) => 5 - x_)) (W' := fun ls => W p l e _ s m _ below meth c _ _ _ _ _ (F0 m 15 ls [])) ?_ 0 _ ⟨(by omega), hl⟩
  intro x_ ls hC ih_15
  obtain ⟨lv, rfl⟩ : ∃ z, z = x_ := ⟨x_, rfl⟩
  obtain ⟨hlv, hl⟩ := hC
  have hlv : lv ≤ 5 := hlv
  have hl : lv_has ls 8 [(5, .int (nI lv)), (4, .int (nI (sumN (rSh N r (fun z => rIsOf N z)) lv))), (3, .int (nI (rLv (N (403 * r))))), (0, .ref m0), (1, .int (nI r)), (2, .int (-5))] := hl
  refine id ?_
  refine lv_iload hx hb dX6_sharedOf_15 (lv_at hl 0 rfl) ?_
  refine lv_iconst (v := nI 5) hx hb dX6_sharedOf_17 rfl ?_
  refine n_icmp_ge (tgt := 96) hx hb (by omega) (by omega) dX6_sharedOf_18 (by decide) (fun c_18 => ?_) (fun c_18 => ?_)
  · refine lv_iload hx hb dX6_sharedOf_96 (lv_at hl 1 rfl) ?_
    exact xret_i hx hb hr hk dX6_sharedOf_98 (by rw [show lv = 5 by omega])
  · refine lv_iconst (v := nI 0) hx hb dX6_sharedOf_21 rfl ?_
    refine lv_istore (lv' := [(6, .int (nI 0)), (5, .int (nI lv)), (4, .int (nI (sumN (rSh N r (fun z => rIsOf N z)) lv))), (3, .int (nI (rLv (N (403 * r))))), (0, .ref m0), (1, .int (nI r)), (2, .int (-5))]) hx hb dX6_sharedOf_22 hl (by decide) rfl (fun ls hl => ?_)
    have hl : lv_has ls 8 [(6, .int (nI 0)), (5, .int (nI lv)), (4, .int (nI (sumN (rSh N r (fun z => rIsOf N z)) lv + sumN (fun z => bN ((fun z => rIsOf N z) (rId N r lv z))) 0))), (3, .int (nI (rLv (N (403 * r))))), (0, .ref m0), (1, .int (nI r)), (2, .int (-5))] := lv_sub hl [0, 1, 2, 3, 4, 5, 6] rfl
    refine xloopR (σ := Nat) (C := (fun (x_ : Nat) ls => (x_ ≤ rBl (rLv (N (403 * r))) lv) ∧ lv_has ls 8 [(6, .int (nI x_)), (5, .int (nI lv)), (4, .int (nI (sumN (rSh N r (fun z => rIsOf N z)) lv + sumN (fun z => bN ((fun z => rIsOf N z) (rId N r lv z))) x_))), (3, .int (nI (rLv (N (403 * r))))), (0, .ref m0), (1, .int (nI r)), (2, .int (-5))])) (μ := (fun (x_ : Nat) => rBl (rLv (N (403 * r))) lv - x_)) (W' := fun ls => W p l e _ s m _ below meth c _ _ _ _ _ (F0 m 24 ls [])) ?_ 0 _ ⟨(Nat.zero_le _), hl⟩
    intro x_ ls hC ih_24
    obtain ⟨pl, rfl⟩ : ∃ z, z = x_ := ⟨x_, rfl⟩
    obtain ⟨hpl, hl⟩ := hC
    have hpl : pl ≤ rBl (rLv (N (403 * r))) lv := hpl
    have hl : lv_has ls 8 [(6, .int (nI pl)), (5, .int (nI lv)), (4, .int (nI (sumN (rSh N r (fun z => rIsOf N z)) lv + sumN (fun z => bN ((fun z => rIsOf N z) (rId N r lv z))) pl))), (3, .int (nI (rLv (N (403 * r))))), (0, .ref m0), (1, .int (nI r)), (2, .int (-5))] := hl
    refine id ?_
    refine lv_iload hx hb dX6_sharedOf_24 (lv_at hl 0 rfl) ?_
    refine lv_iload_n hx hb dX6_sharedOf_26 rfl (lv_at hl 3 rfl) ?_
    refine lv_iload hx hb dX6_sharedOf_27 (lv_at hl 1 rfl) ?_
    refine xrd (xrunS (As := [.int (nI (rLv (N (403 * r)))), .int (nI lv)]) (rest := [.int (nI pl)]) S (c_X6_blocks l G (rLv (N (403 * r))) lv (by have := rLv_le (hrows r hr24); omega) (by omega)) (va_cwS 2 hts gX6_sharedOf_X6_blocks rfl rfl rfl (by decide +kernel) ⟨Nat.le_of_ble_eq_true rfl, Nat.le_of_ble_eq_true rfl⟩) hE hS hA trivial rfl rfl hl.1 (Nat.le_of_ble_eq_true rfl) dX6_sharedOf_29 ⟨Nat.le_of_ble_eq_true rfl, Nat.le_of_ble_eq_true rfl⟩) ?_
    refine n_icmp_ge (tgt := 90) hx hb (by have := rBl_lt lv (rLv_le (hrows r hr24)); omega) (by have := rBl_lt lv (rLv_le (hrows r hr24)); omega) dX6_sharedOf_32 (by decide) (fun c_32 => ?_) (fun c_32 => ?_)
    · refine lv_iinc (v := nI (lv + 1)) (lv' := [(5, .int (nI (lv + 1))), (6, .int (nI pl)), (4, .int (nI (sumN (rSh N r (fun z => rIsOf N z)) lv + sumN (fun z => bN ((fun z => rIsOf N z) (rId N r lv z))) pl))), (3, .int (nI (rLv (N (403 * r))))), (0, .ref m0), (1, .int (nI r)), (2, .int (-5))]) hx hb dX6_sharedOf_90 hl (k := 1) rfl (nI_add lv 1) (by decide) rfl (fun ls hl => ?_)
      refine lv_goto (tgt := 15) hx hb dX6_sharedOf_93 (by decide) ?_
      have hpl2 : pl = rBl (rLv (N (403 * r))) lv := by omega
      subst hpl2
      have hl : lv_has ls 8 [(5, .int (nI (lv + 1))), (4, .int (nI (sumN (rSh N r (fun z => rIsOf N z)) (lv + 1)))), (3, .int (nI (rLv (N (403 * r))))), (0, .ref m0), (1, .int (nI r)), (2, .int (-5))] := lv_sub hl [0, 2, 3, 4, 5, 6] rfl
      exact ih_15 (lv + 1) _ (by show 5 - (lv + 1) < 5 - lv; omega) ⟨(by omega), hl⟩
    · refine lv_aload_n hx hb dX6_sharedOf_35 rfl (lv_at hl 4 rfl) ?_
      refine lv_iload_n hx hb dX6_sharedOf_36 rfl (lv_at hl 5 rfl) ?_
      refine lv_iload hx hb dX6_sharedOf_37 (lv_at hl 1 rfl) ?_
      refine lv_iload hx hb dX6_sharedOf_39 (lv_at hl 0 rfl) ?_
      refine xrd (xrunV (As := [.int (nI r), .int (nI lv), .int (nI pl)]) (rest := []) S (c_X6_id l G m0 aN aH aS aT N Hs Sl tx kept fil ty at_ nu r lv pl hN (by omega) (by have := rBl_bd (Nat.le_succ_of_le (rLv_le (hrows r hr24))) (show lv < 5 by omega) c_32; omega)) (cwV 3 hts gX6_sharedOf_X6_id rfl rfl rfl (by decide +kernel) ⟨Nat.le_of_ble_eq_true rfl, Nat.le_of_ble_eq_true rfl⟩) hE hS hA 0 6 hP rfl rfl rfl hP rfl rfl hl.1 (Nat.le_of_ble_eq_true rfl) dX6_sharedOf_41 ⟨Nat.le_of_ble_eq_true rfl, Nat.le_of_ble_eq_true rfl⟩) ?_
      refine lv_istore (lv' := [(7, .int (nI (rId N r lv pl))), (6, .int (nI pl)), (5, .int (nI lv)), (4, .int (nI (sumN (rSh N r (fun z => rIsOf N z)) lv + sumN (fun z => bN ((fun z => rIsOf N z) (rId N r lv z))) pl))), (3, .int (nI (rLv (N (403 * r))))), (0, .ref m0), (1, .int (nI r)), (2, .int (-5))]) hx hb dX6_sharedOf_44 hl (by decide) rfl (fun ls hl => ?_)
      refine lv_iload hx hb dX6_sharedOf_46 (lv_at hl 3 rfl) ?_
      refine lv_iload_n hx hb dX6_sharedOf_48 rfl (lv_at hl 7 rfl) ?_
      refine lv_bipush (v := (-5)) hx hb dX6_sharedOf_49 (by decide) ?_
      refine lv_icmp_ne (tgt := 66) hx hb dX6_sharedOf_51 (by decide) (fun c_51 => ?_) (fun c_51 => ?_)
      · exact absurd rfl c_51
      · refine lv_aload_n hx hb dX6_sharedOf_54 rfl (lv_at hl 5 rfl) ?_
        refine lv_iload hx hb dX6_sharedOf_55 (lv_at hl 0 rfl) ?_
        refine xrd (xrunV (As := [.int (nI (rId N r lv pl))]) (rest := [.int (nI (sumN (rSh N r (fun z => rIsOf N z)) lv + sumN (fun z => bN ((fun z => rIsOf N z) (rId N r lv z))) pl))]) S (c_X6_isOfVector l G m0 aN aH aS aT N Hs Sl tx kept fil ty at_ nu (rId N r lv pl) hN hev hev2 hrows (rId_lt hN r lv pl)) (cwV 1 hts gX6_sharedOf_X6_isOfVector rfl rfl rfl (by decide +kernel) ⟨Nat.le_of_ble_eq_true rfl, Nat.le_of_ble_eq_true rfl⟩) hE hS hA 0 6 hP rfl rfl rfl hP rfl rfl hl.1 (Nat.le_of_ble_eq_true rfl) dX6_sharedOf_57 ⟨Nat.le_of_ble_eq_true rfl, Nat.le_of_ble_eq_true rfl⟩) ?_
        refine b_if_eq (tgt := 80) hx hb dX6_sharedOf_60 (by decide) (fun c_60 => ?_) (fun c_60 => ?_)
        · refine lv_iconst (v := nI 0) hx hb dX6_sharedOf_80 rfl ?_
          refine n_top (y := nI (bN ((fun z => rIsOf N z) (rId N r lv pl)))) (bN_ff c_60) ?_
          refine n_iadd hx hb dX6_sharedOf_81 ?_
          refine n_top (y := nI (sumN (rSh N r (fun z => rIsOf N z)) lv + sumN (fun z => bN ((fun z => rIsOf N z) (rId N r lv z))) (pl + 1))) (by rw [Nat.add_assoc]; rfl) ?_
          refine lv_istore (lv' := [(4, .int (nI (sumN (rSh N r (fun z => rIsOf N z)) lv + sumN (fun z => bN ((fun z => rIsOf N z) (rId N r lv z))) (pl + 1)))), (7, .int (nI (rId N r lv pl))), (6, .int (nI pl)), (5, .int (nI lv)), (3, .int (nI (rLv (N (403 * r))))), (0, .ref m0), (1, .int (nI r)), (2, .int (-5))]) hx hb dX6_sharedOf_82 hl (by decide) rfl (fun ls hl => ?_)
          refine lv_iinc (v := nI (pl + 1)) (lv' := [(6, .int (nI (pl + 1))), (4, .int (nI (sumN (rSh N r (fun z => rIsOf N z)) lv + sumN (fun z => bN ((fun z => rIsOf N z) (rId N r lv z))) (pl + 1)))), (7, .int (nI (rId N r lv pl))), (5, .int (nI lv)), (3, .int (nI (rLv (N (403 * r))))), (0, .ref m0), (1, .int (nI r)), (2, .int (-5))]) hx hb dX6_sharedOf_84 hl (k := 2) rfl (nI_add pl 1) (by decide) rfl (fun ls hl => ?_)
          refine lv_goto (tgt := 24) hx hb dX6_sharedOf_87 (by decide) ?_
          have hl : lv_has ls 8 [(6, .int (nI (pl + 1))), (5, .int (nI lv)), (4, .int (nI (sumN (rSh N r (fun z => rIsOf N z)) lv + sumN (fun z => bN ((fun z => rIsOf N z) (rId N r lv z))) (pl + 1)))), (3, .int (nI (rLv (N (403 * r))))), (0, .ref m0), (1, .int (nI r)), (2, .int (-5))] := lv_sub hl [0, 3, 1, 4, 5, 6, 7] rfl
          exact ih_24 (pl + 1) _ (by show rBl (rLv (N (403 * r))) lv - (pl + 1) < rBl (rLv (N (403 * r))) lv - pl; omega) ⟨(by omega), hl⟩
        · refine lv_goto (tgt := 76) hx hb dX6_sharedOf_63 (by decide) ?_
          refine lv_iconst (v := nI 1) hx hb dX6_sharedOf_76 rfl ?_
          refine n_top (y := nI (bN ((fun z => rIsOf N z) (rId N r lv pl)))) (bN_tt c_60) ?_
          refine lv_goto (tgt := 81) hx hb dX6_sharedOf_77 (by decide) ?_
          refine n_iadd hx hb dX6_sharedOf_81 ?_
          refine n_top (y := nI (sumN (rSh N r (fun z => rIsOf N z)) lv + sumN (fun z => bN ((fun z => rIsOf N z) (rId N r lv z))) (pl + 1))) (by rw [Nat.add_assoc]; rfl) ?_
          refine lv_istore (lv' := [(4, .int (nI (sumN (rSh N r (fun z => rIsOf N z)) lv + sumN (fun z => bN ((fun z => rIsOf N z) (rId N r lv z))) (pl + 1)))), (7, .int (nI (rId N r lv pl))), (6, .int (nI pl)), (5, .int (nI lv)), (3, .int (nI (rLv (N (403 * r))))), (0, .ref m0), (1, .int (nI r)), (2, .int (-5))]) hx hb dX6_sharedOf_82 hl (by decide) rfl (fun ls hl => ?_)
          refine lv_iinc (v := nI (pl + 1)) (lv' := [(6, .int (nI (pl + 1))), (4, .int (nI (sumN (rSh N r (fun z => rIsOf N z)) lv + sumN (fun z => bN ((fun z => rIsOf N z) (rId N r lv z))) (pl + 1)))), (7, .int (nI (rId N r lv pl))), (5, .int (nI lv)), (3, .int (nI (rLv (N (403 * r))))), (0, .ref m0), (1, .int (nI r)), (2, .int (-5))]) hx hb dX6_sharedOf_84 hl (k := 2) rfl (nI_add pl 1) (by decide) rfl (fun ls hl => ?_)
          refine lv_goto (tgt := 24) hx hb dX6_sharedOf_87 (by decide) ?_
          have hl : lv_has ls 8 [(6, .int (nI (pl + 1))), (5, .int (nI lv)), (4, .int (nI (sumN (rSh N r (fun z => rIsOf N z)) lv + sumN (fun z => bN ((fun z => rIsOf N z) (rId N r lv z))) (pl + 1)))), (3, .int (nI (rLv (N (403 * r))))), (0, .ref m0), (1, .int (nI r)), (2, .int (-5))] := lv_sub hl [0, 3, 1, 4, 5, 6, 7] rfl
          exact ih_24 (pl + 1) _ (by show rBl (rLv (N (403 * r))) lv - (pl + 1) < rBl (rLv (N (403 * r))) lv - pl; omega) ⟨(by omega), hl⟩

theorem hw_X6_own_f7 : Cond.fieldLink RX6 7 "TailVectorsModel" "now" "[I" ∈ wsX6_own := by decide +kernel
theorem hi_X6_own_RX6 : ∀ w ∈ u_ws RX6 TX6 9, w ∈ wsX6_own := by decide +kernel
set_option maxHeartbeats 4000000 in
set_option maxRecDepth 100000 in
theorem c_X6_own (l : Launch) (G : xG) (m0 : Nat) (aN : Nat) (aH : Nat) (aS : Nat) (aT : Nat) (N : Nat → Nat) (Hs : Nat → Nat) (Sl : Nat → Nat) (tx : Nat → Nat) (kept : Nat) (fil : Nat) (ty : Nat) (at_ : Nat) (nu : Nat) (hN : ∀ j, N j < 2 ^ 24) (hrows : ∀ v, v ≤ 24 → N (403 * v) ≤ 300) : Met l yX6_own wsX6_own ({ frames := 3, cells := 0, slots := 0, locals := 62 } : Room) (xPc G [.ref m0] (fun H => va_P G.1 vwCl [(m0, .inr (6, [.ref aN, .ref aH, .int (nI kept), .ref aS, .int (nI fil), .int (nI ty), .ref aT, .int (nI at_), .int (nI nu)])), (aN, .inl (xcI G, 10276, .inl (nf N))), (aH, .inl (xcI G, 41104, .inl (nf Hs))), (aS, .inl (xcI G, 10276, .inl (nf Sl))), (aT, .inl (xcC G, 60, .inl (nf tx)))] H)) (k2_QcV (.int (nI (sumN (rOwn N) 5)))) 0 0 (fun _ => False) := by
  refine xMet (cc := cX6_own) (nL := 5) (ret := (some (.int))) (by decide) rfl (Nat.le_of_ble_eq_true rfl) ?_
  intro p e s m below meth c S hr hk hnm hE hP ls hl
  obtain ⟨hx, hb, hml, hown, hts⟩ := id S
  have hown : s.vm.findClass RX6 = some m.cls := hown
  have hK := hE.1
  have hS : va_S (fun _ : Nat => False) s.heap s.heap [] := va_S.rf
  have hA : ∀ q, (fun _ : Nat => False) q → xB0 G ≤ q := fun _ h => h.elim
  have hP : va_P G.1 vwCl [(m0, .inr (6, [.ref aN, .ref aH, .int (nI kept), .ref aS, .int (nI fil), .int (nI ty), .ref aT, .int (nI at_), .int (nI nu)])), (aN, .inl (xcI G, 10276, .inl (nf N))), (aH, .inl (xcI G, 41104, .inl (nf Hs))), (aS, .inl (xcI G, 10276, .inl (nf Sl))), (aT, .inl (xcC G, 60, .inl (nf tx)))] s.heap := hP
  have hl : lv_has ls 5 [(0, .ref m0)] := hl
  refine lv_aload_n hx hb dX6_own_0 rfl (lv_at hl 0 rfl) ?_
  refine lv_bipush (v := nI 24) hx hb dX6_own_1 (by decide) ?_
  refine xrd (xrunV (As := [.int (nI 24)]) (rest := []) S (c_X6_rowLength l G m0 aN aH aS aT N Hs Sl tx kept fil ty at_ nu 24 hN (by omega)) (cwV 1 hts gX6_own_X6_rowLength rfl rfl rfl (by decide +kernel) ⟨Nat.le_of_ble_eq_true rfl, Nat.le_of_ble_eq_true rfl⟩) hE hS hA 0 6 hP rfl rfl rfl hP rfl rfl hl.1 (Nat.le_of_ble_eq_true rfl) dX6_own_3 ⟨Nat.le_of_ble_eq_true rfl, Nat.le_of_ble_eq_true rfl⟩) ?_
  refine xrd (xrunS (As := [.int (nI (N (403 * 24)))]) (rest := []) S (c_X6_leaves l G (N (403 * 24)) (by have := hrows 24 (by omega); omega)) (va_cwS 1 hts gX6_own_X6_leaves rfl rfl rfl (by decide +kernel) ⟨Nat.le_of_ble_eq_true rfl, Nat.le_of_ble_eq_true rfl⟩) hE hS hA trivial rfl rfl hl.1 (Nat.le_of_ble_eq_true rfl) dX6_own_6 ⟨Nat.le_of_ble_eq_true rfl, Nat.le_of_ble_eq_true rfl⟩) ?_
  refine lv_istore_n (lv' := [(1, .int (nI (rLv (N (403 * 24))))), (0, .ref m0)]) hx hb dX6_own_9 rfl hl (by decide) rfl (fun ls hl => ?_)
  refine lv_iconst (v := nI 0) hx hb dX6_own_10 rfl ?_
  refine lv_istore_n (lv' := [(2, .int (nI 0)), (1, .int (nI (rLv (N (403 * 24))))), (0, .ref m0)]) hx hb dX6_own_11 rfl hl (by decide) rfl (fun ls hl => ?_)
  refine lv_iconst (v := nI 0) hx hb dX6_own_12 rfl ?_
  refine lv_istore_n (lv' := [(3, .int (nI 0)), (2, .int (nI 0)), (1, .int (nI (rLv (N (403 * 24))))), (0, .ref m0)]) hx hb dX6_own_13 rfl hl (by decide) rfl (fun ls hl => ?_)
  have hl : lv_has ls 5 [(3, .int (nI 0)), (2, .int (nI (sumN (rOwn N) 0))), (1, .int (nI (rLv (N (403 * 24))))), (0, .ref m0)] := lv_sub hl [0, 1, 2, 3] rfl
  refine xloopR (σ := Nat) (C := (fun (x_ : Nat) ls => (x_ ≤ 5) ∧ lv_has ls 5 [(3, .int (nI x_)), (2, .int (nI (sumN (rOwn N) x_))), (1, .int (nI (rLv (N (403 * 24))))), (0, .ref m0)])) (μ := (fun (x_ : Nat) => 5 - x_)) (W' := fun ls => W p l e _ s m _ below meth c _ _ _ _ _ (F0 m 14 ls [])) ?_ 0 _ ⟨(by omega), hl⟩
  intro x_ ls hC ih_14
  obtain ⟨lv, rfl⟩ : ∃ z, z = x_ := ⟨x_, rfl⟩
  obtain ⟨hlv, hl⟩ := hC
  have hlv : lv ≤ 5 := hlv
  have hl : lv_has ls 5 [(3, .int (nI lv)), (2, .int (nI (sumN (rOwn N) lv))), (1, .int (nI (rLv (N (403 * 24))))), (0, .ref m0)] := hl
  refine id ?_
  refine lv_iload_n hx hb dX6_own_14 rfl (lv_at hl 0 rfl) ?_
  refine lv_iconst (v := nI 5) hx hb dX6_own_15 rfl ?_
  refine n_icmp_ge (tgt := 63) hx hb (by omega) (by omega) dX6_own_16 (by decide) (fun c_16 => ?_) (fun c_16 => ?_)
  · refine lv_iload_n hx hb dX6_own_63 rfl (lv_at hl 1 rfl) ?_
    exact xret_i hx hb hr hk dX6_own_64 (by rw [show lv = 5 by omega])
  · refine lv_iconst (v := nI 0) hx hb dX6_own_19 rfl ?_
    refine lv_istore (lv' := [(4, .int (nI 0)), (3, .int (nI lv)), (2, .int (nI (sumN (rOwn N) lv))), (1, .int (nI (rLv (N (403 * 24))))), (0, .ref m0)]) hx hb dX6_own_20 hl (by decide) rfl (fun ls hl => ?_)
    have hl : lv_has ls 5 [(4, .int (nI 0)), (3, .int (nI lv)), (2, .int (nI (sumN (rOwn N) lv + sumN (fun z => N (10174 + rBg lv + z)) 0))), (1, .int (nI (rLv (N (403 * 24))))), (0, .ref m0)] := lv_sub hl [0, 1, 2, 3, 4] rfl
    refine xloopR (σ := Nat) (C := (fun (x_ : Nat) ls => (x_ ≤ rBl (rLv (N (403 * 24))) lv) ∧ lv_has ls 5 [(4, .int (nI x_)), (3, .int (nI lv)), (2, .int (nI (sumN (rOwn N) lv + sumN (fun z => N (10174 + rBg lv + z)) x_))), (1, .int (nI (rLv (N (403 * 24))))), (0, .ref m0)])) (μ := (fun (x_ : Nat) => rBl (rLv (N (403 * 24))) lv - x_)) (W' := fun ls => W p l e _ s m _ below meth c _ _ _ _ _ (F0 m 22 ls [])) ?_ 0 _ ⟨(Nat.zero_le _), hl⟩
    intro x_ ls hC ih_22
    obtain ⟨pl, rfl⟩ : ∃ z, z = x_ := ⟨x_, rfl⟩
    obtain ⟨hpl, hl⟩ := hC
    have hpl : pl ≤ rBl (rLv (N (403 * 24))) lv := hpl
    have hl : lv_has ls 5 [(4, .int (nI pl)), (3, .int (nI lv)), (2, .int (nI (sumN (rOwn N) lv + sumN (fun z => N (10174 + rBg lv + z)) pl))), (1, .int (nI (rLv (N (403 * 24))))), (0, .ref m0)] := hl
    refine id ?_
    refine lv_iload hx hb dX6_own_22 (lv_at hl 0 rfl) ?_
    refine lv_iload_n hx hb dX6_own_24 rfl (lv_at hl 3 rfl) ?_
    refine lv_iload_n hx hb dX6_own_25 rfl (lv_at hl 1 rfl) ?_
    refine xrd (xrunS (As := [.int (nI (rLv (N (403 * 24)))), .int (nI lv)]) (rest := [.int (nI pl)]) S (c_X6_blocks l G (rLv (N (403 * 24))) lv (by have := rLv_le (hrows 24 (by omega)); omega) (by omega)) (va_cwS 2 hts gX6_own_X6_blocks rfl rfl rfl (by decide +kernel) ⟨Nat.le_of_ble_eq_true rfl, Nat.le_of_ble_eq_true rfl⟩) hE hS hA trivial rfl rfl hl.1 (Nat.le_of_ble_eq_true rfl) dX6_own_26 ⟨Nat.le_of_ble_eq_true rfl, Nat.le_of_ble_eq_true rfl⟩) ?_
    refine n_icmp_ge (tgt := 57) hx hb (by have := rBl_lt lv (rLv_le (hrows 24 (by omega))); omega) (by have := rBl_lt lv (rLv_le (hrows 24 (by omega))); omega) dX6_own_29 (by decide) (fun c_29 => ?_) (fun c_29 => ?_)
    · refine lv_iinc (v := nI (lv + 1)) (lv' := [(3, .int (nI (lv + 1))), (4, .int (nI pl)), (2, .int (nI (sumN (rOwn N) lv + sumN (fun z => N (10174 + rBg lv + z)) pl))), (1, .int (nI (rLv (N (403 * 24))))), (0, .ref m0)]) hx hb dX6_own_57 hl (k := 1) rfl (nI_add lv 1) (by decide) rfl (fun ls hl => ?_)
      refine lv_goto (tgt := 14) hx hb dX6_own_60 (by decide) ?_
      have hpl2 : pl = rBl (rLv (N (403 * 24))) lv := by omega
      subst hpl2
      have hl : lv_has ls 5 [(3, .int (nI (lv + 1))), (2, .int (nI (sumN (rOwn N) (lv + 1)))), (1, .int (nI (rLv (N (403 * 24))))), (0, .ref m0)] := lv_sub hl [0, 2, 3, 4] rfl
      exact ih_14 (lv + 1) _ (by show 5 - (lv + 1) < 5 - lv; omega) ⟨(by omega), hl⟩
    · refine lv_iload_n hx hb dX6_own_32 rfl (lv_at hl 2 rfl) ?_
      refine lv_aload_n hx hb dX6_own_33 rfl (lv_at hl 4 rfl) ?_
      refine va_get (D := G.1) (ci := 6) (v := .ref aN) (C := RX6) (T := TX6) (N := 9) hx hb hts hi_X6_own_RX6 hown hK hP 0 rfl rfl 0 (by decide) (hts _ hw_X6_own_f7) (fun _ h9 => h9) rfl dX6_own_34 ?_
      refine lv_sipush (v := nI 10174) hx hb dX6_own_37 (by decide) ?_
      refine lv_iload_n hx hb dX6_own_40 rfl (lv_at hl 1 rfl) ?_
      refine xrd (xrunS (As := [.int (nI lv)]) (rest := [.int (nI 10174), .ref aN, .int (nI (sumN (rOwn N) lv + sumN (fun z => N (10174 + rBg lv + z)) pl))]) S (c_X6_begins l G lv (by omega)) (va_cwS 1 hts gX6_own_X6_begins rfl rfl rfl (by decide +kernel) ⟨Nat.le_of_ble_eq_true rfl, Nat.le_of_ble_eq_true rfl⟩) hE hS hA trivial rfl rfl hl.1 (Nat.le_of_ble_eq_true rfl) dX6_own_41 ⟨Nat.le_of_ble_eq_true rfl, Nat.le_of_ble_eq_true rfl⟩) ?_
      refine n_iadd hx hb dX6_own_44 ?_
      refine lv_iload hx hb dX6_own_45 (lv_at hl 0 rfl) ?_
      refine n_iadd hx hb dX6_own_47 ?_
      refine n_iald hx hb hK hP 1 0 rfl rfl (by have := rBl_bd (Nat.le_succ_of_le (rLv_le (hrows 24 (by omega)))) (show lv < 5 by omega) c_29; omega) (by decide) dX6_own_48 ?_
      refine n_iadd hx hb dX6_own_49 ?_
      refine n_top (y := nI (sumN (rOwn N) lv + sumN (fun z => N (10174 + rBg lv + z)) (pl + 1))) (by rw [Nat.add_assoc]; rfl) ?_
      refine lv_istore_n (lv' := [(2, .int (nI (sumN (rOwn N) lv + sumN (fun z => N (10174 + rBg lv + z)) (pl + 1)))), (4, .int (nI pl)), (3, .int (nI lv)), (1, .int (nI (rLv (N (403 * 24))))), (0, .ref m0)]) hx hb dX6_own_50 rfl hl (by decide) rfl (fun ls hl => ?_)
      refine lv_iinc (v := nI (pl + 1)) (lv' := [(4, .int (nI (pl + 1))), (2, .int (nI (sumN (rOwn N) lv + sumN (fun z => N (10174 + rBg lv + z)) (pl + 1)))), (3, .int (nI lv)), (1, .int (nI (rLv (N (403 * 24))))), (0, .ref m0)]) hx hb dX6_own_51 hl (k := 1) rfl (nI_add pl 1) (by decide) rfl (fun ls hl => ?_)
      refine lv_goto (tgt := 22) hx hb dX6_own_54 (by decide) ?_
      have hl : lv_has ls 5 [(4, .int (nI (pl + 1))), (3, .int (nI lv)), (2, .int (nI (sumN (rOwn N) lv + sumN (fun z => N (10174 + rBg lv + z)) (pl + 1)))), (1, .int (nI (rLv (N (403 * 24))))), (0, .ref m0)] := lv_sub hl [0, 2, 1, 3, 4] rfl
      exact ih_22 (pl + 1) _ (by show rBl (rLv (N (403 * 24))) lv - (pl + 1) < rBl (rLv (N (403 * 24))) lv - pl; omega) ⟨(by omega), hl⟩

theorem hw_X6_used_f7 : Cond.fieldLink RX6 7 "TailVectorsModel" "now" "[I" ∈ wsX6_used := by decide +kernel
theorem hi_X6_used_RX6 : ∀ w ∈ u_ws RX6 TX6 9, w ∈ wsX6_used := by decide +kernel
set_option maxHeartbeats 4000000 in
set_option maxRecDepth 100000 in
theorem c_X6_used (l : Launch) (G : xG) (m0 : Nat) (aN : Nat) (aH : Nat) (aS : Nat) (aT : Nat) (N : Nat → Nat) (Hs : Nat → Nat) (Sl : Nat → Nat) (tx : Nat → Nat) (kept : Nat) (fil : Nat) (ty : Nat) (at_ : Nat) (nu : Nat) (hN : ∀ j, N j < 2 ^ 24) (hev : 1 ≤ N 10171) (hev2 : N 10171 ≤ 24) (hrows : ∀ v, v ≤ 24 → N (403 * v) ≤ 300) : Met l yX6_used wsX6_used ({ frames := 5, cells := 0, slots := 0, locals := 109 } : Room) (xPc G [.ref m0] (fun H => va_P G.1 vwCl [(m0, .inr (6, [.ref aN, .ref aH, .int (nI kept), .ref aS, .int (nI fil), .int (nI ty), .ref aT, .int (nI at_), .int (nI nu)])), (aN, .inl (xcI G, 10276, .inl (nf N))), (aH, .inl (xcI G, 41104, .inl (nf Hs))), (aS, .inl (xcI G, 10276, .inl (nf Sl))), (aT, .inl (xcC G, 60, .inl (nf tx)))] H)) (k2_QcV (.int (nI (sumN (fun z => bN (rUs N z)) (N 10172))))) 0 0 (fun _ => False) := by
  refine xMet (cc := cX6_used) (nL := 3) (ret := (some (.int))) (by decide) rfl (Nat.le_of_ble_eq_true rfl) ?_
  intro p e s m below meth c S hr hk hnm hE hP ls hl
  obtain ⟨hx, hb, hml, hown, hts⟩ := id S
  have hown : s.vm.findClass RX6 = some m.cls := hown
  have hK := hE.1
  have hS : va_S (fun _ : Nat => False) s.heap s.heap [] := va_S.rf
  have hA : ∀ q, (fun _ : Nat => False) q → xB0 G ≤ q := fun _ h => h.elim
  have hP : va_P G.1 vwCl [(m0, .inr (6, [.ref aN, .ref aH, .int (nI kept), .ref aS, .int (nI fil), .int (nI ty), .ref aT, .int (nI at_), .int (nI nu)])), (aN, .inl (xcI G, 10276, .inl (nf N))), (aH, .inl (xcI G, 41104, .inl (nf Hs))), (aS, .inl (xcI G, 10276, .inl (nf Sl))), (aT, .inl (xcC G, 60, .inl (nf tx)))] s.heap := hP
  have hl : lv_has ls 3 [(0, .ref m0)] := hl
  refine lv_iconst (v := nI 0) hx hb dX6_used_0 rfl ?_
  refine lv_istore_n (lv' := [(1, .int (nI 0)), (0, .ref m0)]) hx hb dX6_used_1 rfl hl (by decide) rfl (fun ls hl => ?_)
  refine lv_iconst (v := nI 0) hx hb dX6_used_2 rfl ?_
  refine lv_istore_n (lv' := [(2, .int (nI 0)), (1, .int (nI 0)), (0, .ref m0)]) hx hb dX6_used_3 rfl hl (by decide) rfl (fun ls hl => ?_)
  have hl : lv_has ls 3 [(2, .int (nI 0)), (1, .int (nI (sumN (fun z => bN (rUs N z)) 0))), (0, .ref m0)] := lv_sub hl [0, 1, 2] rfl
  refine xloopR (σ := Nat) (C := (fun (x_ : Nat) ls => (x_ ≤ N 10172) ∧ lv_has ls 3 [(2, .int (nI x_)), (1, .int (nI (sumN (fun z => bN (rUs N z)) x_))), (0, .ref m0)])) (μ := (fun (x_ : Nat) => N 10172 - x_)) (W' := fun ls => W p l e _ s m _ below meth c _ _ _ _ _ (F0 m 4 ls [])) ?_ 0 _ ⟨(by omega), hl⟩
  intro x_ ls hC ih_4
  obtain ⟨x, rfl⟩ : ∃ z, z = x_ := ⟨x_, rfl⟩
  obtain ⟨hv, hl⟩ := hC
  have hv : x ≤ N 10172 := hv
  have hl : lv_has ls 3 [(2, .int (nI x)), (1, .int (nI (sumN (fun z => bN (rUs N z)) x))), (0, .ref m0)] := hl
  refine id ?_
  have hMb := hN 10172
  refine lv_iload_n hx hb dX6_used_4 rfl (lv_at hl 0 rfl) ?_
  refine lv_aload_n hx hb dX6_used_5 rfl (lv_at hl 2 rfl) ?_
  refine va_get (D := G.1) (ci := 6) (v := .ref aN) (C := RX6) (T := TX6) (N := 9) hx hb hts hi_X6_used_RX6 hown hK hP 0 rfl rfl 0 (by decide) (hts _ hw_X6_used_f7) (fun _ h9 => h9) rfl dX6_used_6 ?_
  refine lv_sipush (v := nI 10172) hx hb dX6_used_9 (by decide) ?_
  refine n_iald hx hb hK hP 1 0 rfl rfl (by omega) (by decide) dX6_used_12 ?_
  refine n_icmp_ge (tgt := 55) hx hb (by omega) (by have := hN 10172; omega) dX6_used_13 (by decide) (fun c_13 => ?_) (fun c_13 => ?_)
  · refine lv_iload_n hx hb dX6_used_55 rfl (lv_at hl 1 rfl) ?_
    exact xret_i hx hb hr hk dX6_used_56 (by rw [show x = N 10172 by omega])
  · refine lv_iload_n hx hb dX6_used_16 rfl (lv_at hl 1 rfl) ?_
    refine lv_aload_n hx hb dX6_used_17 rfl (lv_at hl 2 rfl) ?_
    refine xrd (xrunV (As := []) (rest := [.int (nI (sumN (fun z => bN (rUs N z)) x))]) S (c_X6_noEdit l G m0 aN aH aS aT N Hs Sl tx kept fil ty at_ nu hN) (cwV 0 hts gX6_used_X6_noEdit rfl rfl rfl (by decide +kernel) ⟨Nat.le_of_ble_eq_true rfl, Nat.le_of_ble_eq_true rfl⟩) hE hS hA 0 6 hP rfl rfl rfl hP rfl rfl hl.1 (Nat.le_of_ble_eq_true rfl) dX6_used_18 ⟨Nat.le_of_ble_eq_true rfl, Nat.le_of_ble_eq_true rfl⟩) ?_
    refine b_if_ne (tgt := 34) hx hb dX6_used_21 (by decide) (fun c_21 => ?_) (fun c_21 => ?_)
    · refine lv_aload_n hx hb dX6_used_34 rfl (lv_at hl 2 rfl) ?_
      refine lv_iload_n hx hb dX6_used_35 rfl (lv_at hl 0 rfl) ?_
      refine xrd (xrunV (As := [.int (nI x)]) (rest := [.int (nI (sumN (fun z => bN (rUs N z)) x))]) S (c_X6_isOfVector l G m0 aN aH aS aT N Hs Sl tx kept fil ty at_ nu x hN hev hev2 hrows (by omega)) (cwV 1 hts gX6_used_X6_isOfVector rfl rfl rfl (by decide +kernel) ⟨Nat.le_of_ble_eq_true rfl, Nat.le_of_ble_eq_true rfl⟩) hE hS hA 0 6 hP rfl rfl rfl hP rfl rfl hl.1 (Nat.le_of_ble_eq_true rfl) dX6_used_36 ⟨Nat.le_of_ble_eq_true rfl, Nat.le_of_ble_eq_true rfl⟩) ?_
      refine b_if_eq (tgt := 46) hx hb dX6_used_39 (by decide) (fun c_39 => ?_) (fun c_39 => ?_)
      · refine lv_iconst (v := nI 0) hx hb dX6_used_46 rfl ?_
        refine n_top (y := nI (bN (rUs N x))) (bN_ff (fun q => q.elim (fun z => z.1 c_21) c_39)) ?_
        refine n_iadd hx hb dX6_used_47 ?_
        refine lv_istore_n (lv' := [(1, .int (nI ((sumN (fun z => bN (rUs N z)) x) + (bN (rUs N x))))), (2, .int (nI x)), (0, .ref m0)]) hx hb dX6_used_48 rfl hl (by decide) rfl (fun ls hl => ?_)
        refine lv_iinc (v := nI (x + 1)) (lv' := [(2, .int (nI (x + 1))), (1, .int (nI ((sumN (fun z => bN (rUs N z)) x) + (bN (rUs N x))))), (0, .ref m0)]) hx hb dX6_used_49 hl (k := 1) rfl (nI_add x 1) (by decide) rfl (fun ls hl => ?_)
        refine lv_goto (tgt := 4) hx hb dX6_used_52 (by decide) ?_
        have hl : lv_has ls 3 [(2, .int (nI (x + 1))), (1, .int (nI (sumN (fun z => bN (rUs N z)) (x + 1)))), (0, .ref m0)] := lv_sub hl [0, 1, 2] rfl
        exact ih_4 (x + 1) _ (by show N 10172 - (x + 1) < N 10172 - x; omega) ⟨(by omega), hl⟩
      · refine lv_iconst (v := nI 1) hx hb dX6_used_42 rfl ?_
        refine n_top (y := nI (bN (rUs N x))) (bN_tt (Or.inr c_39)) ?_
        refine lv_goto (tgt := 47) hx hb dX6_used_43 (by decide) ?_
        refine n_iadd hx hb dX6_used_47 ?_
        refine lv_istore_n (lv' := [(1, .int (nI ((sumN (fun z => bN (rUs N z)) x) + (bN (rUs N x))))), (2, .int (nI x)), (0, .ref m0)]) hx hb dX6_used_48 rfl hl (by decide) rfl (fun ls hl => ?_)
        refine lv_iinc (v := nI (x + 1)) (lv' := [(2, .int (nI (x + 1))), (1, .int (nI ((sumN (fun z => bN (rUs N z)) x) + (bN (rUs N x))))), (0, .ref m0)]) hx hb dX6_used_49 hl (k := 1) rfl (nI_add x 1) (by decide) rfl (fun ls hl => ?_)
        refine lv_goto (tgt := 4) hx hb dX6_used_52 (by decide) ?_
        have hl : lv_has ls 3 [(2, .int (nI (x + 1))), (1, .int (nI (sumN (fun z => bN (rUs N z)) (x + 1)))), (0, .ref m0)] := lv_sub hl [0, 1, 2] rfl
        exact ih_4 (x + 1) _ (by show N 10172 - (x + 1) < N 10172 - x; omega) ⟨(by omega), hl⟩
    · refine lv_aload_n hx hb dX6_used_24 rfl (lv_at hl 2 rfl) ?_
      refine lv_bipush (v := nI 24) hx hb dX6_used_25 (by decide) ?_
      refine lv_iload_n hx hb dX6_used_27 rfl (lv_at hl 0 rfl) ?_
      refine xrd (xrunV (As := [.int (nI 24), .int (nI x)]) (rest := [.int (nI (sumN (fun z => bN (rUs N z)) x))]) S (c_X6_has l G m0 aN aH aS aT N Hs Sl tx kept fil ty at_ nu 24 x hN hrows (by omega) (by omega)) (cwV 2 hts gX6_used_X6_has rfl rfl rfl (by decide +kernel) ⟨Nat.le_of_ble_eq_true rfl, Nat.le_of_ble_eq_true rfl⟩) hE hS hA 0 6 hP rfl rfl rfl hP rfl rfl hl.1 (Nat.le_of_ble_eq_true rfl) dX6_used_28 ⟨Nat.le_of_ble_eq_true rfl, Nat.le_of_ble_eq_true rfl⟩) ?_
      refine b_if_ne (tgt := 42) hx hb dX6_used_31 (by decide) (fun c_31 => ?_) (fun c_31 => ?_)
      · refine lv_iconst (v := nI 1) hx hb dX6_used_42 rfl ?_
        refine n_top (y := nI (bN (rUs N x))) (bN_tt (Or.inl ⟨c_21, c_31⟩)) ?_
        refine lv_goto (tgt := 47) hx hb dX6_used_43 (by decide) ?_
        refine n_iadd hx hb dX6_used_47 ?_
        refine lv_istore_n (lv' := [(1, .int (nI ((sumN (fun z => bN (rUs N z)) x) + (bN (rUs N x))))), (2, .int (nI x)), (0, .ref m0)]) hx hb dX6_used_48 rfl hl (by decide) rfl (fun ls hl => ?_)
        refine lv_iinc (v := nI (x + 1)) (lv' := [(2, .int (nI (x + 1))), (1, .int (nI ((sumN (fun z => bN (rUs N z)) x) + (bN (rUs N x))))), (0, .ref m0)]) hx hb dX6_used_49 hl (k := 1) rfl (nI_add x 1) (by decide) rfl (fun ls hl => ?_)
        refine lv_goto (tgt := 4) hx hb dX6_used_52 (by decide) ?_
        have hl : lv_has ls 3 [(2, .int (nI (x + 1))), (1, .int (nI (sumN (fun z => bN (rUs N z)) (x + 1)))), (0, .ref m0)] := lv_sub hl [0, 1, 2] rfl
        exact ih_4 (x + 1) _ (by show N 10172 - (x + 1) < N 10172 - x; omega) ⟨(by omega), hl⟩
      · refine lv_aload_n hx hb dX6_used_34 rfl (lv_at hl 2 rfl) ?_
        refine lv_iload_n hx hb dX6_used_35 rfl (lv_at hl 0 rfl) ?_
        refine xrd (xrunV (As := [.int (nI x)]) (rest := [.int (nI (sumN (fun z => bN (rUs N z)) x))]) S (c_X6_isOfVector l G m0 aN aH aS aT N Hs Sl tx kept fil ty at_ nu x hN hev hev2 hrows (by omega)) (cwV 1 hts gX6_used_X6_isOfVector rfl rfl rfl (by decide +kernel) ⟨Nat.le_of_ble_eq_true rfl, Nat.le_of_ble_eq_true rfl⟩) hE hS hA 0 6 hP rfl rfl rfl hP rfl rfl hl.1 (Nat.le_of_ble_eq_true rfl) dX6_used_36 ⟨Nat.le_of_ble_eq_true rfl, Nat.le_of_ble_eq_true rfl⟩) ?_
        refine b_if_eq (tgt := 46) hx hb dX6_used_39 (by decide) (fun c_39 => ?_) (fun c_39 => ?_)
        · refine lv_iconst (v := nI 0) hx hb dX6_used_46 rfl ?_
          refine n_top (y := nI (bN (rUs N x))) (bN_ff (fun q => q.elim (fun z => c_31 z.2) c_39)) ?_
          refine n_iadd hx hb dX6_used_47 ?_
          refine lv_istore_n (lv' := [(1, .int (nI ((sumN (fun z => bN (rUs N z)) x) + (bN (rUs N x))))), (2, .int (nI x)), (0, .ref m0)]) hx hb dX6_used_48 rfl hl (by decide) rfl (fun ls hl => ?_)
          refine lv_iinc (v := nI (x + 1)) (lv' := [(2, .int (nI (x + 1))), (1, .int (nI ((sumN (fun z => bN (rUs N z)) x) + (bN (rUs N x))))), (0, .ref m0)]) hx hb dX6_used_49 hl (k := 1) rfl (nI_add x 1) (by decide) rfl (fun ls hl => ?_)
          refine lv_goto (tgt := 4) hx hb dX6_used_52 (by decide) ?_
          have hl : lv_has ls 3 [(2, .int (nI (x + 1))), (1, .int (nI (sumN (fun z => bN (rUs N z)) (x + 1)))), (0, .ref m0)] := lv_sub hl [0, 1, 2] rfl
          exact ih_4 (x + 1) _ (by show N 10172 - (x + 1) < N 10172 - x; omega) ⟨(by omega), hl⟩
        · refine lv_iconst (v := nI 1) hx hb dX6_used_42 rfl ?_
          refine n_top (y := nI (bN (rUs N x))) (bN_tt (Or.inr c_39)) ?_
          refine lv_goto (tgt := 47) hx hb dX6_used_43 (by decide) ?_
          refine n_iadd hx hb dX6_used_47 ?_
          refine lv_istore_n (lv' := [(1, .int (nI ((sumN (fun z => bN (rUs N z)) x) + (bN (rUs N x))))), (2, .int (nI x)), (0, .ref m0)]) hx hb dX6_used_48 rfl hl (by decide) rfl (fun ls hl => ?_)
          refine lv_iinc (v := nI (x + 1)) (lv' := [(2, .int (nI (x + 1))), (1, .int (nI ((sumN (fun z => bN (rUs N z)) x) + (bN (rUs N x))))), (0, .ref m0)]) hx hb dX6_used_49 hl (k := 1) rfl (nI_add x 1) (by decide) rfl (fun ls hl => ?_)
          refine lv_goto (tgt := 4) hx hb dX6_used_52 (by decide) ?_
          have hl : lv_has ls 3 [(2, .int (nI (x + 1))), (1, .int (nI (sumN (fun z => bN (rUs N z)) (x + 1)))), (0, .ref m0)] := lv_sub hl [0, 1, 2] rfl
          exact ih_4 (x + 1) _ (by show N 10172 - (x + 1) < N 10172 - x; omega) ⟨(by omega), hl⟩

theorem hw_X6_lengths_f7 : Cond.fieldLink RX6 7 "TailVectorsModel" "now" "[I" ∈ wsX6_lengths := by decide +kernel
theorem hi_X6_lengths_RX6 : ∀ w ∈ u_ws RX6 TX6 9, w ∈ wsX6_lengths := by decide +kernel
set_option maxHeartbeats 4000000 in
set_option maxRecDepth 100000 in
theorem c_X6_lengths (l : Launch) (G : xG) (m0 : Nat) (aN : Nat) (aH : Nat) (aS : Nat) (aT : Nat) (N : Nat → Nat) (Hs : Nat → Nat) (Sl : Nat → Nat) (tx : Nat → Nat) (kept : Nat) (fil : Nat) (ty : Nat) (at_ : Nat) (nu : Nat) (hN : ∀ j, N j < 2 ^ 24) (hev : 1 ≤ N 10171) (hev2 : N 10171 ≤ 24) : Met l yX6_lengths wsX6_lengths ({ frames := 2, cells := 0, slots := 0, locals := 43 } : Room) (xPc G [.ref m0] (fun H => va_P G.1 vwCl [(m0, .inr (6, [.ref aN, .ref aH, .int (nI kept), .ref aS, .int (nI fil), .int (nI ty), .ref aT, .int (nI at_), .int (nI nu)])), (aN, .inl (xcI G, 10276, .inl (nf N))), (aH, .inl (xcI G, 41104, .inl (nf Hs))), (aS, .inl (xcI G, 10276, .inl (nf Sl))), (aT, .inl (xcC G, 60, .inl (nf tx)))] H)) (k2_QcV (.int (nI (sumN (rLs N) (N 10171))))) 0 0 (fun _ => False) := by
  refine xMet (cc := cX6_lengths) (nL := 3) (ret := (some (.int))) (by decide) rfl (Nat.le_of_ble_eq_true rfl) ?_
  intro p e s m below meth c S hr hk hnm hE hP ls hl
  obtain ⟨hx, hb, hml, hown, hts⟩ := id S
  have hown : s.vm.findClass RX6 = some m.cls := hown
  have hK := hE.1
  have hS : va_S (fun _ : Nat => False) s.heap s.heap [] := va_S.rf
  have hA : ∀ q, (fun _ : Nat => False) q → xB0 G ≤ q := fun _ h => h.elim
  have hP : va_P G.1 vwCl [(m0, .inr (6, [.ref aN, .ref aH, .int (nI kept), .ref aS, .int (nI fil), .int (nI ty), .ref aT, .int (nI at_), .int (nI nu)])), (aN, .inl (xcI G, 10276, .inl (nf N))), (aH, .inl (xcI G, 41104, .inl (nf Hs))), (aS, .inl (xcI G, 10276, .inl (nf Sl))), (aT, .inl (xcC G, 60, .inl (nf tx)))] s.heap := hP
  have hl : lv_has ls 3 [(0, .ref m0)] := hl
  refine lv_iconst (v := nI 0) hx hb dX6_lengths_0 rfl ?_
  refine lv_istore_n (lv' := [(1, .int (nI 0)), (0, .ref m0)]) hx hb dX6_lengths_1 rfl hl (by decide) rfl (fun ls hl => ?_)
  refine lv_iconst (v := nI 0) hx hb dX6_lengths_2 rfl ?_
  refine lv_istore_n (lv' := [(2, .int (nI 0)), (1, .int (nI 0)), (0, .ref m0)]) hx hb dX6_lengths_3 rfl hl (by decide) rfl (fun ls hl => ?_)
  have hl : lv_has ls 3 [(2, .int (nI 0)), (1, .int (nI (sumN (rLs N) 0))), (0, .ref m0)] := lv_sub hl [0, 1, 2] rfl
  refine xloopR (σ := Nat) (C := (fun (x_ : Nat) ls => (x_ ≤ N 10171) ∧ lv_has ls 3 [(2, .int (nI x_)), (1, .int (nI (sumN (rLs N) x_))), (0, .ref m0)])) (μ := (fun (x_ : Nat) => N 10171 - x_)) (W' := fun ls => W p l e _ s m _ below meth c _ _ _ _ _ (F0 m 4 ls [])) ?_ 0 _ ⟨(by omega), hl⟩
  intro x_ ls hC ih_4
  obtain ⟨v, rfl⟩ : ∃ z, z = x_ := ⟨x_, rfl⟩
  obtain ⟨hv, hl⟩ := hC
  have hv : v ≤ N 10171 := hv
  have hl : lv_has ls 3 [(2, .int (nI v)), (1, .int (nI (sumN (rLs N) v))), (0, .ref m0)] := hl
  refine id ?_
  refine lv_iload_n hx hb dX6_lengths_4 rfl (lv_at hl 0 rfl) ?_
  refine lv_aload_n hx hb dX6_lengths_5 rfl (lv_at hl 2 rfl) ?_
  refine va_get (D := G.1) (ci := 6) (v := .ref aN) (C := RX6) (T := TX6) (N := 9) hx hb hts hi_X6_lengths_RX6 hown hK hP 0 rfl rfl 0 (by decide) (hts _ hw_X6_lengths_f7) (fun _ h9 => h9) rfl dX6_lengths_6 ?_
  refine lv_sipush (v := nI 10171) hx hb dX6_lengths_9 (by decide) ?_
  refine n_iald hx hb hK hP 1 0 rfl rfl (by omega) (by decide) dX6_lengths_12 ?_
  refine n_icmp_ge (tgt := 42) hx hb (by omega) (by have := hN 10171; omega) dX6_lengths_13 (by decide) (fun c_13 => ?_) (fun c_13 => ?_)
  · refine lv_iload_n hx hb dX6_lengths_42 rfl (lv_at hl 1 rfl) ?_
    exact xret_i hx hb hr hk dX6_lengths_43 (by rw [show v = N 10171 by omega])
  · refine lv_iload_n hx hb dX6_lengths_16 rfl (lv_at hl 1 rfl) ?_
    refine lv_aload_n hx hb dX6_lengths_17 rfl (lv_at hl 2 rfl) ?_
    refine lv_iload_n hx hb dX6_lengths_18 rfl (lv_at hl 0 rfl) ?_
    refine xrd (xrunV (As := [.int (nI v)]) (rest := [.int (nI (sumN (rLs N) v))]) S (c_X6_no l G m0 aN aH aS aT N Hs Sl tx kept fil ty at_ nu (nI v) hN hev hev2) (cwV 1 hts gX6_lengths_X6_no rfl rfl rfl (by decide +kernel) ⟨Nat.le_of_ble_eq_true rfl, Nat.le_of_ble_eq_true rfl⟩) hE hS hA 0 6 hP rfl rfl rfl hP rfl rfl hl.1 (Nat.le_of_ble_eq_true rfl) dX6_lengths_19 ⟨Nat.le_of_ble_eq_true rfl, Nat.le_of_ble_eq_true rfl⟩) ?_
    refine b_if_eq (tgt := 29) hx hb dX6_lengths_22 (by decide) (fun c_22 => ?_) (fun c_22 => ?_)
    · refine lv_aload_n hx hb dX6_lengths_29 rfl (lv_at hl 2 rfl) ?_
      refine lv_iload_n hx hb dX6_lengths_30 rfl (lv_at hl 0 rfl) ?_
      refine xrd (xrunV (As := [.int (nI v)]) (rest := [.int (nI (sumN (rLs N) v))]) S (c_X6_length l G m0 aN aH aS aT N Hs Sl tx kept fil ty at_ nu v hN (by omega)) (cwV 1 hts gX6_lengths_X6_length rfl rfl rfl (by decide +kernel) ⟨Nat.le_of_ble_eq_true rfl, Nat.le_of_ble_eq_true rfl⟩) hE hS hA 0 6 hP rfl rfl rfl hP rfl rfl hl.1 (Nat.le_of_ble_eq_true rfl) dX6_lengths_31 ⟨Nat.le_of_ble_eq_true rfl, Nat.le_of_ble_eq_true rfl⟩) ?_
      refine n_top (y := nI (rLs N v)) (rLs_f c_22) ?_
      refine n_iadd hx hb dX6_lengths_34 ?_
      refine lv_istore_n (lv' := [(1, .int (nI ((sumN (rLs N) v) + (rLs N v)))), (2, .int (nI v)), (0, .ref m0)]) hx hb dX6_lengths_35 rfl hl (by decide) rfl (fun ls hl => ?_)
      refine lv_iinc (v := nI (v + 1)) (lv' := [(2, .int (nI (v + 1))), (1, .int (nI ((sumN (rLs N) v) + (rLs N v)))), (0, .ref m0)]) hx hb dX6_lengths_36 hl (k := 1) rfl (nI_add v 1) (by decide) rfl (fun ls hl => ?_)
      refine lv_goto (tgt := 4) hx hb dX6_lengths_39 (by decide) ?_
      have hl : lv_has ls 3 [(2, .int (nI (v + 1))), (1, .int (nI (sumN (rLs N) (v + 1)))), (0, .ref m0)] := lv_sub hl [0, 1, 2] rfl
      exact ih_4 (v + 1) _ (by show N 10171 - (v + 1) < N 10171 - v; omega) ⟨(by omega), hl⟩
    · refine lv_iconst (v := nI 0) hx hb dX6_lengths_25 rfl ?_
      refine n_top (y := nI (rLs N v)) (rLs_t c_22) ?_
      refine lv_goto (tgt := 34) hx hb dX6_lengths_26 (by decide) ?_
      refine n_iadd hx hb dX6_lengths_34 ?_
      refine lv_istore_n (lv' := [(1, .int (nI ((sumN (rLs N) v) + (rLs N v)))), (2, .int (nI v)), (0, .ref m0)]) hx hb dX6_lengths_35 rfl hl (by decide) rfl (fun ls hl => ?_)
      refine lv_iinc (v := nI (v + 1)) (lv' := [(2, .int (nI (v + 1))), (1, .int (nI ((sumN (rLs N) v) + (rLs N v)))), (0, .ref m0)]) hx hb dX6_lengths_36 hl (k := 1) rfl (nI_add v 1) (by decide) rfl (fun ls hl => ?_)
      refine lv_goto (tgt := 4) hx hb dX6_lengths_39 (by decide) ?_
      have hl : lv_has ls 3 [(2, .int (nI (v + 1))), (1, .int (nI (sumN (rLs N) (v + 1)))), (0, .ref m0)] := lv_sub hl [0, 1, 2] rfl
      exact ih_4 (v + 1) _ (by show N 10171 - (v + 1) < N 10171 - v; omega) ⟨(by omega), hl⟩
