def rN0 : Nat → Nat := updN (updN (fun _ => 0) 10075 1) 10171 1
theorem hw_X6_init_oi : Cond.methodLink RX6 1 objectInit ∈ wsX6_init := by decide +kernel
theorem hw_X6_init_om : Cond.instanceMethod objectInit ∈ wsX6_init := by decide +kernel
theorem hw_X6_init_oc : Cond.code objectInit ⟨#[0xb1]⟩ 1 none ∈ wsX6_init := by decide +kernel
theorem hw_X6_init_acint : Cond.arrayClass .int ∈ wsX6_init := by decide +kernel
theorem hw_X6_init_f7 : Cond.fieldLink RX6 7 "TailVectorsModel" "now" "[I" ∈ wsX6_init := by decide +kernel
theorem hi_X6_init_RX6 : ∀ w ∈ u_ws RX6 TX6 9, w ∈ wsX6_init := by decide +kernel
theorem hw_X6_init_c13 : Cond.constant RX6 13 (41104) ∈ wsX6_init := by decide +kernel
theorem hw_X6_init_f14 : Cond.fieldLink RX6 14 "TailVectorsModel" "history" "[I" ∈ wsX6_init := by decide +kernel
theorem hw_X6_init_f17 : Cond.fieldLink RX6 17 "TailVectorsModel" "slot" "[I" ∈ wsX6_init := by decide +kernel
theorem hw_X6_init_acchar : Cond.arrayClass .char ∈ wsX6_init := by decide +kernel
theorem hw_X6_init_f20 : Cond.fieldLink RX6 20 "TailVectorsModel" "text" "[C" ∈ wsX6_init := by decide +kernel
set_option maxHeartbeats 4000000 in
set_option maxRecDepth 100000 in
theorem c_X6_init (l : Launch) (G : xG) (m0 : Nat) (sz : Nat) (hm0 : xB0 G ≤ m0) (hsz0 : xB0 G ≤ sz) (hmz : m0 < sz) : Met l yX6_init wsX6_init ({ frames := 1, cells := 4, slots := 61716, locals := 12 } : Room) (xPc G [.ref m0] (fun H => H.size = sz ∧ va_P G.1 vwCl [(m0, .inr (6, [.null, .null, .int (nI 0), .null, .int (nI 0), .int (nI 0), .null, .int (nI 0), .int (nI 0)]))] H)) (xQ (σ := (Nat × Nat × Nat × Nat)) (fun _ => none) (fun u H => va_P G.1 vwCl [(m0, .inr (6, [.ref u.1, .ref u.2.1, .int (nI 0), .ref u.2.2.1, .int (nI 0), .int (nI 0), .ref u.2.2.2, .int (nI 0), .int (nI 0)])), (u.1, .inl (xcI G, 10276, .inl (nf rN0))), (u.2.1, .inl (xcI G, 41104, .inl (nf (fun _ => 0)))), (u.2.2.1, .inl (xcI G, 10276, .inl (nf (fun _ => 0)))), (u.2.2.2, .inl (xcC G, 60, .inl (nf (fun _ => 0))))] H ∧ xDis (xB0 G) [m0, u.1, u.2.1, u.2.2.1, u.2.2.2] ∧ sz ≤ u.1 ∧ sz ≤ u.2.1 ∧ sz ≤ u.2.2.1 ∧ sz ≤ u.2.2.2) (fun q => q ∈ [m0] ∨ sz ≤ q)) 4 61716 (fun q => q ∈ [m0] ∨ sz ≤ q) := by
  refine xMet (cc := cX6_init) (nL := 1) (ret := none) (by decide) rfl (Nat.le_of_ble_eq_true rfl) ?_
  intro p e s m below meth c S hr hk hnm hE hP ls hl
  obtain ⟨hx, hb, hml, hown, hts⟩ := id S
  have hown : s.vm.findClass RX6 = some m.cls := hown
  have hK := hE.1
  have hS : va_S (fun q => q ∈ [m0] ∨ sz ≤ q) s.heap s.heap [] := va_S.rf
  have hA : ∀ q, (fun q => q ∈ [m0] ∨ sz ≤ q) q → xB0 G ≤ q := (fun q h => h.elim (fun z => by rw [List.mem_singleton.mp z]; exact hm0) (fun z => Nat.le_trans hsz0 z))
  obtain ⟨hsz, hP⟩ := hP
  have hAn : ∀ q, s.heap.size ≤ q → (fun q => q ∈ [m0] ∨ sz ≤ q) q := fun q h => Or.inr (by rw [← hsz]; exact h)
  have hP : va_P G.1 vwCl [(m0, .inr (6, [.null, .null, .int (nI 0), .null, .int (nI 0), .int (nI 0), .null, .int (nI 0), .int (nI 0)]))] s.heap := hP
  have hD : va_D (fun q => q ∈ [m0] ∨ sz ≤ q) [(m0, .inr (6, [.null, .null, .int (nI 0), .null, .int (nI 0), .int (nI 0), .null, .int (nI 0), .int (nI 0)]))] := ⟨fun i j p q hi hj _ => by have := (List.getElem?_eq_some_iff.mp hi).1; have := (List.getElem?_eq_some_iff.mp hj).1; simp at *; omega, fun k q hk => by have := List.mem_of_getElem? hk; simp at this; rw [this]; exact Or.inl (List.mem_singleton.mpr rfl)⟩
  have hl : lv_has ls 1 [(0, .ref m0)] := hl
  refine lv_aload_n hx hb dX6_init_0 rfl (lv_at hl 0 rfl) ?_
  refine W.objInit hx hb hown (hts _ hw_X6_init_oi) (hts _ hw_X6_init_om) (hts _ hw_X6_init_oc) rfl (by rw [hml]; exact hl.1) rfl dX6_init_1 (Nat.le_of_ble_eq_true rfl) (Nat.le_of_ble_eq_true rfl) ?_
  refine W.eq (g2 := F0 m 4 ls []) rfl ?_
  refine lv_aload_n hx hb dX6_init_4 rfl (lv_at hl 0 rfl) ?_
  refine lv_sipush (v := nI 10276) hx hb dX6_init_5 (by decide) ?_
  refine va_newa (atype := .int) (ty := .int) (a0 := (10276, .inl (nf (fun _ => 0)))) hx hb (hts _ hw_X6_init_acint) rfl hK hP hD hS hAn (fun _ => rfl) (n := nI 10276) (nI_pos (by omega)) (nI_clamp (by omega)) (by decide) (Nat.le_of_ble_eq_true rfl) (Nat.le_of_ble_eq_true rfl) dX6_init_8 (fun q1 cA_ H hK_ hP hD hS => ?_)
  obtain rfl := x_sameA (t0 := 0) hK rfl hK_
  have hq1 : sz ≤ q1 := x_fresh hD (by simp)
  have hP : va_P G.1 vwCl [(m0, .inr (6, [.null, .null, .int (nI 0), .null, .int (nI 0), .int (nI 0), .null, .int (nI 0), .int (nI 0)])), (q1, .inl (xcI G, 10276, .inl (nf (fun _ => 0))))] H := hP
  have hD : va_D (fun q => q ∈ [m0] ∨ sz ≤ q) [(m0, .inr (6, [.null, .null, .int (nI 0), .null, .int (nI 0), .int (nI 0), .null, .int (nI 0), .int (nI 0)])), (q1, .inl (xcI G, 10276, .inl (nf (fun _ => 0))))] := hD
  refine W.widen (k := 1) (n := 10276) (Nat.le_of_ble_eq_true rfl) (Nat.le_of_ble_eq_true rfl) ?_
  refine va_putF (D := G.1) (ci := 6) (v := .ref q1) (ty := (.array .int)) (C := RX6) (T := TX6) (N := 9) hx hb hts hi_X6_init_RX6 tyX6 tyX6_ok nmX6 hown hK hP hD hS 0 rfl rfl 0 (by decide) (hts _ hw_X6_init_f7) (fun _ h9 => h9) rfl hnm rfl (by decide +kernel) rfl rfl (Nat.le_of_ble_eq_true rfl) dX6_init_10 (fun H locs hP hD hS => ?_)
  have hP : va_P G.1 vwCl [(m0, .inr (6, [.ref q1, .null, .int (nI 0), .null, .int (nI 0), .int (nI 0), .null, .int (nI 0), .int (nI 0)])), (q1, .inl (xcI G, 10276, .inl (nf (fun _ => 0))))] H := hP
  have hD : va_D (fun q => q ∈ [m0] ∨ sz ≤ q) [(m0, .inr (6, [.ref q1, .null, .int (nI 0), .null, .int (nI 0), .int (nI 0), .null, .int (nI 0), .int (nI 0)])), (q1, .inl (xcI G, 10276, .inl (nf (fun _ => 0))))] := hD
  refine lv_aload_n hx hb dX6_init_13 rfl (lv_at hl 0 rfl) ?_
  refine lv_ldc (v := nI 41104) hx hb hown (hts _ hw_X6_init_c13) dX6_init_14 ?_
  refine va_newa (atype := .int) (ty := .int) (a0 := (41104, .inl (nf (fun _ => 0)))) hx hb (hts _ hw_X6_init_acint) rfl hK hP hD hS hAn (fun _ => rfl) (n := nI 41104) (nI_pos (by omega)) (nI_clamp (by omega)) (by decide) (Nat.le_of_ble_eq_true rfl) (Nat.le_of_ble_eq_true rfl) dX6_init_16 (fun q2 cA_ H hK_ hP hD hS => ?_)
  obtain rfl := x_sameA (t0 := 0) hK rfl hK_
  have hq2 : sz ≤ q2 := x_fresh hD (by simp)
  have hP : va_P G.1 vwCl [(m0, .inr (6, [.ref q1, .null, .int (nI 0), .null, .int (nI 0), .int (nI 0), .null, .int (nI 0), .int (nI 0)])), (q1, .inl (xcI G, 10276, .inl (nf (fun _ => 0)))), (q2, .inl (xcI G, 41104, .inl (nf (fun _ => 0))))] H := hP
  have hD : va_D (fun q => q ∈ [m0] ∨ sz ≤ q) [(m0, .inr (6, [.ref q1, .null, .int (nI 0), .null, .int (nI 0), .int (nI 0), .null, .int (nI 0), .int (nI 0)])), (q1, .inl (xcI G, 10276, .inl (nf (fun _ => 0)))), (q2, .inl (xcI G, 41104, .inl (nf (fun _ => 0))))] := hD
  refine W.widen (k := 2) (n := 51380) (Nat.le_of_ble_eq_true rfl) (Nat.le_of_ble_eq_true rfl) ?_
  refine va_putF (D := G.1) (ci := 6) (v := .ref q2) (ty := (.array .int)) (C := RX6) (T := TX6) (N := 9) hx hb hts hi_X6_init_RX6 tyX6 tyX6_ok nmX6 hown hK hP hD hS 0 rfl rfl 1 (by decide) (hts _ hw_X6_init_f14) (fun _ h9 => h9) rfl hnm rfl (by decide +kernel) rfl rfl (Nat.le_of_ble_eq_true rfl) dX6_init_18 (fun H locs hP hD hS => ?_)
  have hP : va_P G.1 vwCl [(m0, .inr (6, [.ref q1, .ref q2, .int (nI 0), .null, .int (nI 0), .int (nI 0), .null, .int (nI 0), .int (nI 0)])), (q1, .inl (xcI G, 10276, .inl (nf (fun _ => 0)))), (q2, .inl (xcI G, 41104, .inl (nf (fun _ => 0))))] H := hP
  have hD : va_D (fun q => q ∈ [m0] ∨ sz ≤ q) [(m0, .inr (6, [.ref q1, .ref q2, .int (nI 0), .null, .int (nI 0), .int (nI 0), .null, .int (nI 0), .int (nI 0)])), (q1, .inl (xcI G, 10276, .inl (nf (fun _ => 0)))), (q2, .inl (xcI G, 41104, .inl (nf (fun _ => 0))))] := hD
  refine lv_aload_n hx hb dX6_init_21 rfl (lv_at hl 0 rfl) ?_
  refine lv_sipush (v := nI 10276) hx hb dX6_init_22 (by decide) ?_
  refine va_newa (atype := .int) (ty := .int) (a0 := (10276, .inl (nf (fun _ => 0)))) hx hb (hts _ hw_X6_init_acint) rfl hK hP hD hS hAn (fun _ => rfl) (n := nI 10276) (nI_pos (by omega)) (nI_clamp (by omega)) (by decide) (Nat.le_of_ble_eq_true rfl) (Nat.le_of_ble_eq_true rfl) dX6_init_25 (fun q3 cA_ H hK_ hP hD hS => ?_)
  obtain rfl := x_sameA (t0 := 0) hK rfl hK_
  have hq3 : sz ≤ q3 := x_fresh hD (by simp)
  have hP : va_P G.1 vwCl [(m0, .inr (6, [.ref q1, .ref q2, .int (nI 0), .null, .int (nI 0), .int (nI 0), .null, .int (nI 0), .int (nI 0)])), (q1, .inl (xcI G, 10276, .inl (nf (fun _ => 0)))), (q2, .inl (xcI G, 41104, .inl (nf (fun _ => 0)))), (q3, .inl (xcI G, 10276, .inl (nf (fun _ => 0))))] H := hP
  have hD : va_D (fun q => q ∈ [m0] ∨ sz ≤ q) [(m0, .inr (6, [.ref q1, .ref q2, .int (nI 0), .null, .int (nI 0), .int (nI 0), .null, .int (nI 0), .int (nI 0)])), (q1, .inl (xcI G, 10276, .inl (nf (fun _ => 0)))), (q2, .inl (xcI G, 41104, .inl (nf (fun _ => 0)))), (q3, .inl (xcI G, 10276, .inl (nf (fun _ => 0))))] := hD
  refine W.widen (k := 3) (n := 61656) (Nat.le_of_ble_eq_true rfl) (Nat.le_of_ble_eq_true rfl) ?_
  refine va_putF (D := G.1) (ci := 6) (v := .ref q3) (ty := (.array .int)) (C := RX6) (T := TX6) (N := 9) hx hb hts hi_X6_init_RX6 tyX6 tyX6_ok nmX6 hown hK hP hD hS 0 rfl rfl 3 (by decide) (hts _ hw_X6_init_f17) (fun _ h9 => h9) rfl hnm rfl (by decide +kernel) rfl rfl (Nat.le_of_ble_eq_true rfl) dX6_init_27 (fun H locs hP hD hS => ?_)
  have hP : va_P G.1 vwCl [(m0, .inr (6, [.ref q1, .ref q2, .int (nI 0), .ref q3, .int (nI 0), .int (nI 0), .null, .int (nI 0), .int (nI 0)])), (q1, .inl (xcI G, 10276, .inl (nf (fun _ => 0)))), (q2, .inl (xcI G, 41104, .inl (nf (fun _ => 0)))), (q3, .inl (xcI G, 10276, .inl (nf (fun _ => 0))))] H := hP
  have hD : va_D (fun q => q ∈ [m0] ∨ sz ≤ q) [(m0, .inr (6, [.ref q1, .ref q2, .int (nI 0), .ref q3, .int (nI 0), .int (nI 0), .null, .int (nI 0), .int (nI 0)])), (q1, .inl (xcI G, 10276, .inl (nf (fun _ => 0)))), (q2, .inl (xcI G, 41104, .inl (nf (fun _ => 0)))), (q3, .inl (xcI G, 10276, .inl (nf (fun _ => 0))))] := hD
  refine lv_aload_n hx hb dX6_init_30 rfl (lv_at hl 0 rfl) ?_
  refine lv_bipush (v := nI 60) hx hb dX6_init_31 (by decide) ?_
  refine va_newa (atype := .char) (ty := .char) (a0 := (60, .inl (nf (fun _ => 0)))) hx hb (hts _ hw_X6_init_acchar) rfl hK hP hD hS hAn (fun _ => rfl) (n := nI 60) (nI_pos (by omega)) (nI_clamp (by omega)) (by decide) (Nat.le_of_ble_eq_true rfl) (Nat.le_of_ble_eq_true rfl) dX6_init_33 (fun q4 cA_ H hK_ hP hD hS => ?_)
  obtain rfl := x_sameA (t0 := 1) hK rfl hK_
  have hq4 : sz ≤ q4 := x_fresh hD (by simp)
  have hP : va_P G.1 vwCl [(m0, .inr (6, [.ref q1, .ref q2, .int (nI 0), .ref q3, .int (nI 0), .int (nI 0), .null, .int (nI 0), .int (nI 0)])), (q1, .inl (xcI G, 10276, .inl (nf (fun _ => 0)))), (q2, .inl (xcI G, 41104, .inl (nf (fun _ => 0)))), (q3, .inl (xcI G, 10276, .inl (nf (fun _ => 0)))), (q4, .inl (xcC G, 60, .inl (nf (fun _ => 0))))] H := hP
  have hD : va_D (fun q => q ∈ [m0] ∨ sz ≤ q) [(m0, .inr (6, [.ref q1, .ref q2, .int (nI 0), .ref q3, .int (nI 0), .int (nI 0), .null, .int (nI 0), .int (nI 0)])), (q1, .inl (xcI G, 10276, .inl (nf (fun _ => 0)))), (q2, .inl (xcI G, 41104, .inl (nf (fun _ => 0)))), (q3, .inl (xcI G, 10276, .inl (nf (fun _ => 0)))), (q4, .inl (xcC G, 60, .inl (nf (fun _ => 0))))] := hD
  refine W.widen (k := 4) (n := 61716) (Nat.le_of_ble_eq_true rfl) (Nat.le_of_ble_eq_true rfl) ?_
  refine va_putF (D := G.1) (ci := 6) (v := .ref q4) (ty := (.array .char)) (C := RX6) (T := TX6) (N := 9) hx hb hts hi_X6_init_RX6 tyX6 tyX6_ok nmX6 hown hK hP hD hS 0 rfl rfl 6 (by decide) (hts _ hw_X6_init_f20) (fun _ h9 => h9) rfl hnm rfl (by decide +kernel) rfl rfl (Nat.le_of_ble_eq_true rfl) dX6_init_35 (fun H locs hP hD hS => ?_)
  have hP : va_P G.1 vwCl [(m0, .inr (6, [.ref q1, .ref q2, .int (nI 0), .ref q3, .int (nI 0), .int (nI 0), .ref q4, .int (nI 0), .int (nI 0)])), (q1, .inl (xcI G, 10276, .inl (nf (fun _ => 0)))), (q2, .inl (xcI G, 41104, .inl (nf (fun _ => 0)))), (q3, .inl (xcI G, 10276, .inl (nf (fun _ => 0)))), (q4, .inl (xcC G, 60, .inl (nf (fun _ => 0))))] H := hP
  have hD : va_D (fun q => q ∈ [m0] ∨ sz ≤ q) [(m0, .inr (6, [.ref q1, .ref q2, .int (nI 0), .ref q3, .int (nI 0), .int (nI 0), .ref q4, .int (nI 0), .int (nI 0)])), (q1, .inl (xcI G, 10276, .inl (nf (fun _ => 0)))), (q2, .inl (xcI G, 41104, .inl (nf (fun _ => 0)))), (q3, .inl (xcI G, 10276, .inl (nf (fun _ => 0)))), (q4, .inl (xcC G, 60, .inl (nf (fun _ => 0))))] := hD
  refine lv_aload_n hx hb dX6_init_38 rfl (lv_at hl 0 rfl) ?_
  refine va_get (D := G.1) (ci := 6) (v := .ref q1) (C := RX6) (T := TX6) (N := 9) hx hb hts hi_X6_init_RX6 hown hK hP 0 rfl rfl 0 (by decide) (hts _ hw_X6_init_f7) (fun _ h9 => h9) rfl dX6_init_39 ?_
  refine lv_sipush (v := nI 10075) hx hb dX6_init_42 (by decide) ?_
  refine lv_iconst (v := nI 1) hx hb dX6_init_45 rfl ?_
  refine n_iast hx hb hK hP hD hS 1 0 rfl rfl (by omega) (by decide) dX6_init_46 (fun H locs hP hD hS => ?_)
  have hP : va_P G.1 vwCl [(m0, .inr (6, [.ref q1, .ref q2, .int (nI 0), .ref q3, .int (nI 0), .int (nI 0), .ref q4, .int (nI 0), .int (nI 0)])), (q1, .inl (xcI G, 10276, .inl (nf (updN (fun _ => 0) 10075 1)))), (q2, .inl (xcI G, 41104, .inl (nf (fun _ => 0)))), (q3, .inl (xcI G, 10276, .inl (nf (fun _ => 0)))), (q4, .inl (xcC G, 60, .inl (nf (fun _ => 0))))] H := hP
  have hD : va_D (fun q => q ∈ [m0] ∨ sz ≤ q) [(m0, .inr (6, [.ref q1, .ref q2, .int (nI 0), .ref q3, .int (nI 0), .int (nI 0), .ref q4, .int (nI 0), .int (nI 0)])), (q1, .inl (xcI G, 10276, .inl (nf (updN (fun _ => 0) 10075 1)))), (q2, .inl (xcI G, 41104, .inl (nf (fun _ => 0)))), (q3, .inl (xcI G, 10276, .inl (nf (fun _ => 0)))), (q4, .inl (xcC G, 60, .inl (nf (fun _ => 0))))] := hD
  refine lv_aload_n hx hb dX6_init_47 rfl (lv_at hl 0 rfl) ?_
  refine va_get (D := G.1) (ci := 6) (v := .ref q1) (C := RX6) (T := TX6) (N := 9) hx hb hts hi_X6_init_RX6 hown hK hP 0 rfl rfl 0 (by decide) (hts _ hw_X6_init_f7) (fun _ h9 => h9) rfl dX6_init_48 ?_
  refine lv_sipush (v := nI 10171) hx hb dX6_init_51 (by decide) ?_
  refine lv_iconst (v := nI 1) hx hb dX6_init_54 rfl ?_
  refine n_iast hx hb hK hP hD hS 1 0 rfl rfl (by omega) (by decide) dX6_init_55 (fun H locs hP hD hS => ?_)
  have hP : va_P G.1 vwCl [(m0, .inr (6, [.ref q1, .ref q2, .int (nI 0), .ref q3, .int (nI 0), .int (nI 0), .ref q4, .int (nI 0), .int (nI 0)])), (q1, .inl (xcI G, 10276, .inl (nf (updN (updN (fun _ => 0) 10075 1) 10171 1)))), (q2, .inl (xcI G, 41104, .inl (nf (fun _ => 0)))), (q3, .inl (xcI G, 10276, .inl (nf (fun _ => 0)))), (q4, .inl (xcC G, 60, .inl (nf (fun _ => 0))))] H := hP
  have hD : va_D (fun q => q ∈ [m0] ∨ sz ≤ q) [(m0, .inr (6, [.ref q1, .ref q2, .int (nI 0), .ref q3, .int (nI 0), .int (nI 0), .ref q4, .int (nI 0), .int (nI 0)])), (q1, .inl (xcI G, 10276, .inl (nf (updN (updN (fun _ => 0) 10075 1) 10171 1)))), (q2, .inl (xcI G, 41104, .inl (nf (fun _ => 0)))), (q3, .inl (xcI G, 10276, .inl (nf (fun _ => 0)))), (q4, .inl (xcC G, 60, .inl (nf (fun _ => 0))))] := hD
  have hdd := xDis.of (B := xB0 G) hD (by simp only [List.map_cons, List.map_nil, List.mem_cons, List.not_mem_nil, or_false]; rintro q (rfl | rfl | rfl | rfl | rfl) <;> omega)
  exact xend_v (q1, q2, q3, q4) hx hb hr hk hS (fun _ h => h) dX6_init_56 rfl ⟨hP, hdd, hq1, hq2, hq3, hq4⟩ (Nat.le_refl _) (Nat.le_refl _)
