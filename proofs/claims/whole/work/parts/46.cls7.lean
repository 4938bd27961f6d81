theorem hw_X2_init_oi : Cond.methodLink RX2 3 objectInit ∈ wsX2_init := by decide +kernel
theorem hw_X2_init_om : Cond.instanceMethod objectInit ∈ wsX2_init := by decide +kernel
theorem hw_X2_init_oc : Cond.code objectInit ⟨#[0xb1]⟩ 1 none ∈ wsX2_init := by decide +kernel
theorem hw_X2_init_cl9 : Cond.classLink RX2 9 RX4 ∈ wsX2_init := by decide +kernel
theorem hw_X2_init_f11 : Cond.fieldLink RX2 11 "TailVectors$State" "views" "[LTailVectors$View;" ∈ wsX2_init := by decide +kernel
theorem hi_X2_init_RX2 : ∀ w ∈ u_ws RX2 TX2 5, w ∈ wsX2_init := by decide +kernel
theorem hw_X2_init_f17 : Cond.fieldLink RX2 17 "TailVectors$State" "ever" "I" ∈ wsX2_init := by decide +kernel
theorem hw_X2_init_f21 : Cond.fieldLink RX2 21 "TailVectors$State" "made" "I" ∈ wsX2_init := by decide +kernel
theorem hw_X2_init_f24 : Cond.fieldLink RX2 24 "TailVectors$State" "editRow" "LTailVectors$Row;" ∈ wsX2_init := by decide +kernel
theorem hw_X2_init_c28 : Cond.constant RX2 28 (2147483647) ∈ wsX2_init := by decide +kernel
theorem hw_X2_init_f29 : Cond.fieldLink RX2 29 "TailVectors$State" "firstOwn" "I" ∈ wsX2_init := by decide +kernel
set_option maxHeartbeats 4000000 in
set_option maxRecDepth 100000 in
theorem c_X2_init (l : Launch) (G : xG) (h0 : Nat) (sz : Nat) (hh0 : xB0 G ≤ h0) (hsz0 : xB0 G ≤ sz) (hhz : h0 < sz) : Met l yX2_init wsX2_init ({ frames := 1, cells := 1, slots := 24, locals := 12 } : Room) (xPc G [.ref h0] (fun H => H.size = sz ∧ va_P G.1 vwCl [(h0, .inr (2, [.null, .int (nI 0), .int (nI 0), .null, .int (nI 0)]))] H)) (xQ (σ := (Nat)) (fun _ => none) (fun u H => va_P G.1 vwCl [(h0, .inr (2, [.ref u, .int (nI 0), .int (nI 0), .null, .int (nI 2147483647)])), (u, .inl (xcV G, 24, .inr (.inr (.inr (.inr (fun _ => none))))))] H ∧ xDis (xB0 G) [h0, u] ∧ sz ≤ u) (fun q => q ∈ [h0] ∨ sz ≤ q)) 1 24 (fun q => q ∈ [h0] ∨ sz ≤ q) := by
  refine xMet (cc := cX2_init) (nL := 1) (ret := none) (by decide) rfl (Nat.le_of_ble_eq_true rfl) ?_
  intro p e s m below meth c S hr hlk_ hnm hE hP ls hl
  obtain ⟨hx, hb, hml, hown, hts⟩ := id S
  have hown : s.vm.findClass RX2 = some m.cls := hown
  have hK := hE.1
  have hS : va_S (fun q => q ∈ [h0] ∨ sz ≤ q) s.heap s.heap [] := va_S.rf
  have hA : ∀ q, (fun q => q ∈ [h0] ∨ sz ≤ q) q → xB0 G ≤ q := (fun q h => h.elim (fun z => by rw [List.mem_singleton.mp z]; exact hh0) (fun z => Nat.le_trans hsz0 z))
  obtain ⟨hsz, hP⟩ := hP
  have hAn : ∀ q, s.heap.size ≤ q → (fun q => q ∈ [h0] ∨ sz ≤ q) q := fun q h => Or.inr (by rw [← hsz]; exact h)
  have hP : va_P G.1 vwCl [(h0, .inr (2, [.null, .int (nI 0), .int (nI 0), .null, .int (nI 0)]))] s.heap := hP
  have hD : va_D (fun q => q ∈ [h0] ∨ sz ≤ q) [(h0, .inr (2, [.null, .int (nI 0), .int (nI 0), .null, .int (nI 0)]))] := ⟨fun i j p q hi hj _ => by have := (List.getElem?_eq_some_iff.mp hi).1; have := (List.getElem?_eq_some_iff.mp hj).1; simp at *; omega, fun k q hk => by have := List.mem_of_getElem? hk; simp at this; rw [this]; exact Or.inl (List.mem_singleton.mpr rfl)⟩
  have hl : lv_has ls 1 [(0, .ref h0)] := hl
  refine lv_aload_n hx hb dX2_init_0 rfl (lv_at hl 0 rfl) ?_
  refine W.objInit hx hb hown (hts _ hw_X2_init_oi) (hts _ hw_X2_init_om) (hts _ hw_X2_init_oc) rfl (by rw [hml]; exact hl.1) rfl dX2_init_1 (Nat.le_of_ble_eq_true rfl) (Nat.le_of_ble_eq_true rfl) ?_
  refine W.eq (g2 := F0 m 4 ls []) rfl ?_
  refine lv_aload_n hx hb dX2_init_4 rfl (lv_at hl 0 rfl) ?_
  refine lv_bipush (v := nI 24) hx hb dX2_init_5 (by decide) ?_
  refine va_newq (C := "TailVectors$View") hx hb hown (hts _ hw_X2_init_cl9) hE.2.2.2.2.1.2.2 hK hP hD hS hAn (n := nI 24) (nI_pos (by omega)) (nI_clamp (by omega)) (by decide) (Nat.le_of_ble_eq_true rfl) (Nat.le_of_ble_eq_true rfl) dX2_init_7 (fun q1 cA_ H hK_ hP hD hS => ?_)
  obtain rfl := x_sameA (t0 := 2) hK rfl hK_
  have hq1 : sz ≤ q1 := x_fresh hD (by simp)
  have hP : va_P G.1 vwCl [(h0, .inr (2, [.null, .int (nI 0), .int (nI 0), .null, .int (nI 0)])), (q1, .inl (xcV G, 24, .inr (.inr (.inr (.inr (fun _ => none))))))] H := hP
  have hD : va_D (fun q => q ∈ [h0] ∨ sz ≤ q) [(h0, .inr (2, [.null, .int (nI 0), .int (nI 0), .null, .int (nI 0)])), (q1, .inl (xcV G, 24, .inr (.inr (.inr (.inr (fun _ => none))))))] := hD
  refine W.widen (k := 1) (n := 24) (Nat.le_of_ble_eq_true rfl) (Nat.le_of_ble_eq_true rfl) ?_
  refine va_putF (D := G.1) (ci := 2) (v := .ref q1) (ty := (.array (.object "TailVectors$View"))) (C := RX2) (T := TX2) (N := 5) hx hb hts hi_X2_init_RX2 tyX2 tyX2_ok nmX2 hown hK hP hD hS 0 rfl rfl 0 (by decide) (hts _ hw_X2_init_f11) (fun _ h9 => h9) rfl hnm rfl (by decide +kernel) rfl rfl (Nat.le_of_ble_eq_true rfl) dX2_init_10 (fun H locs hP hD hS => ?_)
  have hP : va_P G.1 vwCl [(h0, .inr (2, [.ref q1, .int (nI 0), .int (nI 0), .null, .int (nI 0)])), (q1, .inl (xcV G, 24, .inr (.inr (.inr (.inr (fun _ => none))))))] H := hP
  have hD : va_D (fun q => q ∈ [h0] ∨ sz ≤ q) [(h0, .inr (2, [.ref q1, .int (nI 0), .int (nI 0), .null, .int (nI 0)])), (q1, .inl (xcV G, 24, .inr (.inr (.inr (.inr (fun _ => none))))))] := hD
  refine lv_aload_n hx hb dX2_init_13 rfl (lv_at hl 0 rfl) ?_
  refine lv_iconst (v := nI 0) hx hb dX2_init_14 rfl ?_
  refine va_put (D := G.1) (ci := 2) (v := .int (nI 0)) (ty := .int) (C := RX2) (T := TX2) (N := 5) hx hb hts hi_X2_init_RX2 tyX2 tyX2_ok nmX2 hown hK hP hD hS 0 rfl rfl 1 (by decide) (hts _ hw_X2_init_f17) (fun _ h9 => h9) rfl (by decide +kernel) rfl rfl (Nat.le_of_ble_eq_true rfl) dX2_init_15 (fun H locs hP hD hS => ?_)
  have hP : va_P G.1 vwCl [(h0, .inr (2, [.ref q1, .int (nI 0), .int (nI 0), .null, .int (nI 0)])), (q1, .inl (xcV G, 24, .inr (.inr (.inr (.inr (fun _ => none))))))] H := hP
  have hD : va_D (fun q => q ∈ [h0] ∨ sz ≤ q) [(h0, .inr (2, [.ref q1, .int (nI 0), .int (nI 0), .null, .int (nI 0)])), (q1, .inl (xcV G, 24, .inr (.inr (.inr (.inr (fun _ => none))))))] := hD
  refine lv_aload_n hx hb dX2_init_18 rfl (lv_at hl 0 rfl) ?_
  refine lv_iconst (v := nI 0) hx hb dX2_init_19 rfl ?_
  refine va_put (D := G.1) (ci := 2) (v := .int (nI 0)) (ty := .int) (C := RX2) (T := TX2) (N := 5) hx hb hts hi_X2_init_RX2 tyX2 tyX2_ok nmX2 hown hK hP hD hS 0 rfl rfl 2 (by decide) (hts _ hw_X2_init_f21) (fun _ h9 => h9) rfl (by decide +kernel) rfl rfl (Nat.le_of_ble_eq_true rfl) dX2_init_20 (fun H locs hP hD hS => ?_)
  have hP : va_P G.1 vwCl [(h0, .inr (2, [.ref q1, .int (nI 0), .int (nI 0), .null, .int (nI 0)])), (q1, .inl (xcV G, 24, .inr (.inr (.inr (.inr (fun _ => none))))))] H := hP
  have hD : va_D (fun q => q ∈ [h0] ∨ sz ≤ q) [(h0, .inr (2, [.ref q1, .int (nI 0), .int (nI 0), .null, .int (nI 0)])), (q1, .inl (xcV G, 24, .inr (.inr (.inr (.inr (fun _ => none))))))] := hD
  refine lv_aload_n hx hb dX2_init_23 rfl (lv_at hl 0 rfl) ?_
  refine lv_null hx hb dX2_init_24 ?_
  refine va_put (D := G.1) (ci := 2) (v := .null) (ty := (.object "TailVectors$Row")) (C := RX2) (T := TX2) (N := 5) hx hb hts hi_X2_init_RX2 tyX2 tyX2_ok nmX2 hown hK hP hD hS 0 rfl rfl 3 (by decide) (hts _ hw_X2_init_f24) (fun _ h9 => h9) rfl (by decide +kernel) rfl rfl (Nat.le_of_ble_eq_true rfl) dX2_init_25 (fun H locs hP hD hS => ?_)
  have hP : va_P G.1 vwCl [(h0, .inr (2, [.ref q1, .int (nI 0), .int (nI 0), .null, .int (nI 0)])), (q1, .inl (xcV G, 24, .inr (.inr (.inr (.inr (fun _ => none))))))] H := hP
  have hD : va_D (fun q => q ∈ [h0] ∨ sz ≤ q) [(h0, .inr (2, [.ref q1, .int (nI 0), .int (nI 0), .null, .int (nI 0)])), (q1, .inl (xcV G, 24, .inr (.inr (.inr (.inr (fun _ => none))))))] := hD
  refine lv_aload_n hx hb dX2_init_28 rfl (lv_at hl 0 rfl) ?_
  refine lv_ldc (v := nI 2147483647) hx hb hown (hts _ hw_X2_init_c28) dX2_init_29 ?_
  refine va_put (D := G.1) (ci := 2) (v := .int (nI 2147483647)) (ty := .int) (C := RX2) (T := TX2) (N := 5) hx hb hts hi_X2_init_RX2 tyX2 tyX2_ok nmX2 hown hK hP hD hS 0 rfl rfl 4 (by decide) (hts _ hw_X2_init_f29) (fun _ h9 => h9) rfl (by decide +kernel) rfl rfl (Nat.le_of_ble_eq_true rfl) dX2_init_31 (fun H locs hP hD hS => ?_)
  have hP : va_P G.1 vwCl [(h0, .inr (2, [.ref q1, .int (nI 0), .int (nI 0), .null, .int (nI 2147483647)])), (q1, .inl (xcV G, 24, .inr (.inr (.inr (.inr (fun _ => none))))))] H := hP
  have hD : va_D (fun q => q ∈ [h0] ∨ sz ≤ q) [(h0, .inr (2, [.ref q1, .int (nI 0), .int (nI 0), .null, .int (nI 2147483647)])), (q1, .inl (xcV G, 24, .inr (.inr (.inr (.inr (fun _ => none))))))] := hD
  have hdd := xDis.of (B := xB0 G) hD (by simp only [List.map_cons, List.map_nil, List.mem_cons, List.not_mem_nil, or_false]; rintro q (rfl | rfl) <;> omega)
  exact xend_v q1 hx hb hr hlk_ hS (fun _ h => h) dX2_init_34 rfl ⟨hP, hdd, hq1⟩ (Nat.le_refl _) (Nat.le_refl _)

theorem hw_X3_init_oi : Cond.methodLink RX3 3 objectInit ∈ wsX3_init := by decide +kernel
theorem hw_X3_init_om : Cond.instanceMethod objectInit ∈ wsX3_init := by decide +kernel
theorem hw_X3_init_oc : Cond.code objectInit ⟨#[0xb1]⟩ 1 none ∈ wsX3_init := by decide +kernel
theorem hw_X3_init_acchar : Cond.arrayClass .char ∈ wsX3_init := by decide +kernel
theorem hw_X3_init_f9 : Cond.fieldLink RX3 9 "TailVectors$Text" "characters" "[C" ∈ wsX3_init := by decide +kernel
theorem hi_X3_init_RX3 : ∀ w ∈ u_ws RX3 TX3 2, w ∈ wsX3_init := by decide +kernel
theorem hw_X3_init_f15 : Cond.fieldLink RX3 15 "TailVectors$Text" "length" "I" ∈ wsX3_init := by decide +kernel
set_option maxHeartbeats 4000000 in
set_option maxRecDepth 100000 in
theorem c_X3_init (l : Launch) (G : xG) (h0 : Nat) (sz : Nat) (hh0 : xB0 G ≤ h0) (hsz0 : xB0 G ≤ sz) (hhz : h0 < sz) : Met l yX3_init wsX3_init ({ frames := 1, cells := 1, slots := 60, locals := 12 } : Room) (xPc G [.ref h0] (fun H => H.size = sz ∧ va_P G.1 vwCl [(h0, .inr (3, [.null, .int (nI 0)]))] H)) (xQ (σ := (Nat)) (fun _ => none) (fun u H => va_P G.1 vwCl [(h0, .inr (3, [.ref u, .int (nI 0)])), (u, .inl (xcC G, 60, .inl (nf (fun _ => 0))))] H ∧ xDis (xB0 G) [h0, u] ∧ sz ≤ u) (fun q => q ∈ [h0] ∨ sz ≤ q)) 1 60 (fun q => q ∈ [h0] ∨ sz ≤ q) := by
  refine xMet (cc := cX3_init) (nL := 1) (ret := none) (by decide) rfl (Nat.le_of_ble_eq_true rfl) ?_
  intro p e s m below meth c S hr hlk_ hnm hE hP ls hl
  obtain ⟨hx, hb, hml, hown, hts⟩ := id S
  have hown : s.vm.findClass RX3 = some m.cls := hown
  have hK := hE.1
  have hS : va_S (fun q => q ∈ [h0] ∨ sz ≤ q) s.heap s.heap [] := va_S.rf
  have hA : ∀ q, (fun q => q ∈ [h0] ∨ sz ≤ q) q → xB0 G ≤ q := (fun q h => h.elim (fun z => by rw [List.mem_singleton.mp z]; exact hh0) (fun z => Nat.le_trans hsz0 z))
  obtain ⟨hsz, hP⟩ := hP
  have hAn : ∀ q, s.heap.size ≤ q → (fun q => q ∈ [h0] ∨ sz ≤ q) q := fun q h => Or.inr (by rw [← hsz]; exact h)
  have hP : va_P G.1 vwCl [(h0, .inr (3, [.null, .int (nI 0)]))] s.heap := hP
  have hD : va_D (fun q => q ∈ [h0] ∨ sz ≤ q) [(h0, .inr (3, [.null, .int (nI 0)]))] := ⟨fun i j p q hi hj _ => by have := (List.getElem?_eq_some_iff.mp hi).1; have := (List.getElem?_eq_some_iff.mp hj).1; simp at *; omega, fun k q hk => by have := List.mem_of_getElem? hk; simp at this; rw [this]; exact Or.inl (List.mem_singleton.mpr rfl)⟩
  have hl : lv_has ls 1 [(0, .ref h0)] := hl
  refine lv_aload_n hx hb dX3_init_0 rfl (lv_at hl 0 rfl) ?_
  refine W.objInit hx hb hown (hts _ hw_X3_init_oi) (hts _ hw_X3_init_om) (hts _ hw_X3_init_oc) rfl (by rw [hml]; exact hl.1) rfl dX3_init_1 (Nat.le_of_ble_eq_true rfl) (Nat.le_of_ble_eq_true rfl) ?_
  refine W.eq (g2 := F0 m 4 ls []) rfl ?_
  refine lv_aload_n hx hb dX3_init_4 rfl (lv_at hl 0 rfl) ?_
  refine lv_bipush (v := nI 60) hx hb dX3_init_5 (by decide) ?_
  refine va_newa (atype := .char) (ty := .char) (a0 := (60, .inl (nf (fun _ => 0)))) hx hb (hts _ hw_X3_init_acchar) rfl hK hP hD hS hAn (fun _ => rfl) (n := nI 60) (nI_pos (by omega)) (nI_clamp (by omega)) (by decide) (Nat.le_of_ble_eq_true rfl) (Nat.le_of_ble_eq_true rfl) dX3_init_7 (fun q1 cA_ H hK_ hP hD hS => ?_)
  obtain rfl := x_sameA (t0 := 1) hK rfl hK_
  have hq1 : sz ≤ q1 := x_fresh hD (by simp)
  have hP : va_P G.1 vwCl [(h0, .inr (3, [.null, .int (nI 0)])), (q1, .inl (xcC G, 60, .inl (nf (fun _ => 0))))] H := hP
  have hD : va_D (fun q => q ∈ [h0] ∨ sz ≤ q) [(h0, .inr (3, [.null, .int (nI 0)])), (q1, .inl (xcC G, 60, .inl (nf (fun _ => 0))))] := hD
  refine W.widen (k := 1) (n := 60) (Nat.le_of_ble_eq_true rfl) (Nat.le_of_ble_eq_true rfl) ?_
  refine va_putF (D := G.1) (ci := 3) (v := .ref q1) (ty := (.array .char)) (C := RX3) (T := TX3) (N := 2) hx hb hts hi_X3_init_RX3 tyX3 tyX3_ok nmX3 hown hK hP hD hS 0 rfl rfl 0 (by decide) (hts _ hw_X3_init_f9) (fun _ h9 => h9) rfl hnm rfl (by decide +kernel) rfl rfl (Nat.le_of_ble_eq_true rfl) dX3_init_9 (fun H locs hP hD hS => ?_)
  have hP : va_P G.1 vwCl [(h0, .inr (3, [.ref q1, .int (nI 0)])), (q1, .inl (xcC G, 60, .inl (nf (fun _ => 0))))] H := hP
  have hD : va_D (fun q => q ∈ [h0] ∨ sz ≤ q) [(h0, .inr (3, [.ref q1, .int (nI 0)])), (q1, .inl (xcC G, 60, .inl (nf (fun _ => 0))))] := hD
  refine lv_aload_n hx hb dX3_init_12 rfl (lv_at hl 0 rfl) ?_
  refine lv_iconst (v := nI 0) hx hb dX3_init_13 rfl ?_
  refine va_put (D := G.1) (ci := 3) (v := .int (nI 0)) (ty := .int) (C := RX3) (T := TX3) (N := 2) hx hb hts hi_X3_init_RX3 tyX3 tyX3_ok nmX3 hown hK hP hD hS 0 rfl rfl 1 (by decide) (hts _ hw_X3_init_f15) (fun _ h9 => h9) rfl (by decide +kernel) rfl rfl (Nat.le_of_ble_eq_true rfl) dX3_init_14 (fun H locs hP hD hS => ?_)
  have hP : va_P G.1 vwCl [(h0, .inr (3, [.ref q1, .int (nI 0)])), (q1, .inl (xcC G, 60, .inl (nf (fun _ => 0))))] H := hP
  have hD : va_D (fun q => q ∈ [h0] ∨ sz ≤ q) [(h0, .inr (3, [.ref q1, .int (nI 0)])), (q1, .inl (xcC G, 60, .inl (nf (fun _ => 0))))] := hD
  have hdd := xDis.of (B := xB0 G) hD (by simp only [List.map_cons, List.map_nil, List.mem_cons, List.not_mem_nil, or_false]; rintro q (rfl | rfl) <;> omega)
  exact xend_v q1 hx hb hr hlk_ hS (fun _ h => h) dX3_init_17 rfl ⟨hP, hdd, hq1⟩ (Nat.le_refl _) (Nat.le_refl _)
