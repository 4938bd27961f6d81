def fillF (f : Nat → Int32) (v : Int32) (i : Nat) : Nat → Int32 := fun j => if j < i then v else f j
theorem fillF_0 (f : Nat → Int32) (v : Int32) : fillF f v 0 = f := by
  funext j
  unfold fillF
  rw [if_neg (by omega)]
theorem fillF_s (f : Nat → Int32) (v : Int32) (i : Nat) : upd (fillF f v i) i v = fillF f v (i + 1) := by
  funext j
  by_cases h : j = i
  · subst h
    rw [pk_us]
    unfold fillF
    rw [if_pos (by omega)]
  · rw [pk_un h]
    unfold fillF
    by_cases h2 : j < i
    · rw [if_pos h2, if_pos (by omega)]
    · rw [if_neg h2, if_neg (by omega)]
def cpI (f g : Nat → Int32) (i : Nat) : Nat → Int32 := fun j => if j < i then g j else f j
theorem cpI_0 (f g : Nat → Int32) : cpI f g 0 = f := by
  funext j
  unfold cpI
  rw [if_neg (by omega)]
theorem cpI_s (f g : Nat → Int32) (i : Nat) : upd (cpI f g i) i (g i) = cpI f g (i + 1) := by
  funext j
  by_cases h : j = i
  · subst h
    rw [pk_us]
    unfold cpI
    rw [if_pos (by omega)]
  · rw [pk_un h]
    unfold cpI
    by_cases h2 : j < i
    · rw [if_pos h2, if_pos (by omega)]
    · rw [if_neg h2, if_neg (by omega)]
def capN (n : Nat) : Nat := if n ≤ 300 then n else 300
theorem capN_le (n : Nat) : capN n ≤ 300 := by unfold capN; split <;> omega
theorem capN_id {n : Nat} (h : n ≤ 300) : capN n = n := if_pos h
theorem cap_min {n : Nat} (h : n < 2 ^ 31) : (if nI 300 < nI n then nI 300 else nI n) = nI (capN n) := by
  unfold capN
  by_cases h2 : n ≤ 300
  · rw [if_neg (fun z => absurd ((nI_ltI (by decide) h).mp z) (by omega)), if_pos h2]
  · rw [if_pos ((nI_ltI (by decide) h).mpr (by omega)), if_neg h2]
theorem cap_max {n : Nat} (h : n < 2 ^ 31) : (if nI 0 < nI n then nI n else nI 0) = nI n := by
  by_cases h2 : 0 < n
  · rw [if_pos ((nI_ltI (by decide) h).mpr h2)]
  · rw [if_neg (fun z => h2 ((nI_ltI (by decide) h).mp z)), show n = 0 by omega]
theorem min_l {a b : Nat} (hab : a ≤ b) (hb : b < 2 ^ 31) : (if nI b < nI a then nI b else nI a) = nI a := by
  rw [if_neg (fun z => absurd ((nI_ltI hb (by omega)).mp z) (by omega))]
theorem min_n {a b : Nat} (ha : a < 2 ^ 31) (hb : b < 2 ^ 31) : (if nI b < nI a then nI b else nI a) = nI (min a b) := by
  by_cases h : b < a
  · rw [if_pos ((nI_ltI hb ha).mpr h), show min a b = b by omega]
  · rw [if_neg (fun z => h ((nI_ltI hb ha).mp z)), show min a b = a by omega]

set_option maxHeartbeats 4000000 in
set_option maxRecDepth 100000 in
theorem c_J7_fill_53178 (l : Launch) (G : xG) (aa : Nat) (n : Nat) (f : Nat → Int32) (v : Int32) (hdis : xDis (xB0 G) [aa]) (hn : n < 2 ^ 24) : Met l yJ7_fill_53178 wsJ7_fill_53178 ({ frames := 0, cells := 0, slots := 0, locals := 0 } : Room) (xPc G [.ref aa, .int v] (fun H => va_P G.1 vwCl [(aa, .inl (xcI G, n, .inl f))] H)) (xQ (σ := Unit) (fun _ => none) (fun _ H => va_P G.1 vwCl [(aa, .inl (xcI G, n, .inl (fillF f v n)))] H) (fun q => q ∈ [aa])) 0 0 (fun q => q ∈ [aa]) := by
  refine xMet (cc := cJ7_fill_53178) (nL := 4) (ret := none) (by decide) rfl (Nat.le_of_ble_eq_true rfl) ?_
  intro p e s m below meth c S hr hlk_ hnm hE hP ls hl
  obtain ⟨hx, hb, hml, hown, hts⟩ := id S
  have hown : s.vm.findClass RJ7 = some m.cls := hown
  have hK := hE.1
  have hS : va_S (fun q => q ∈ [aa]) s.heap s.heap [] := va_S.rf
  have hA : ∀ q, (fun q => q ∈ [aa]) q → xB0 G ≤ q := hdis.2
  have hP : va_P G.1 vwCl [(aa, .inl (xcI G, n, .inl f))] s.heap := hP
  have hD : va_D (fun q => q ∈ [aa]) [(aa, .inl (xcI G, n, .inl f))] := (hdis.to rfl)
  have hl : lv_has ls 4 [(0, .ref aa), (1, .int v)] := hl
  refine lv_iconst (v := nI 0) hx hb dJ7_fill_53178_0 rfl ?_
  refine lv_istore_n (lv' := [(2, .int (nI 0)), (0, .ref aa), (1, .int v)]) hx hb dJ7_fill_53178_1 rfl hl (by decide) rfl (fun ls hl => ?_)
  refine lv_aload_n hx hb dJ7_fill_53178_2 rfl (lv_at hl 1 rfl) ?_
  refine va_alen (v := nI n) hx hb hK hP 0 0 rfl rfl rfl dJ7_fill_53178_3 ?_
  refine lv_istore_n (lv' := [(3, .int (nI n)), (2, .int (nI 0)), (0, .ref aa), (1, .int v)]) hx hb dJ7_fill_53178_4 rfl hl (by decide) rfl (fun ls hl => ?_)
  have hP : va_P G.1 vwCl [(aa, .inl (xcI G, n, .inl (fillF f v 0)))] s.heap := (by rw [fillF_0]; exact hP)
  have hl : lv_has ls 4 [(2, .int (nI 0)), (3, .int (nI n)), (0, .ref aa), (1, .int v)] := lv_sub hl [1, 0, 2, 3] rfl
  refine xloop (σ := Nat) (C := (fun (x_ : Nat) H locs ls => (x_ ≤ n) ∧ va_P G.1 vwCl [(aa, .inl (xcI G, n, .inl (fillF f v x_)))] H ∧ va_S (fun q => q ∈ [aa]) s.heap H locs ∧ lv_has ls 4 [(2, .int (nI x_)), (3, .int (nI n)), (0, .ref aa), (1, .int v)])) (μ := (fun (x_ : Nat) => n - x_)) (W' := fun H locs ls => W p l e _ s m _ below meth c H locs _ _ _ (F0 m 5 ls [])) ?_ 0 _ _ _ ⟨(Nat.zero_le _), hP, hS, hl⟩
  intro x_ H locs ls hC ih_5
  obtain ⟨i, rfl⟩ : ∃ z, z = x_ := ⟨x_, rfl⟩
  obtain ⟨hi, hP, hS, hl⟩ := hC
  replace hi : i ≤ n := hi
  replace hP : va_P G.1 vwCl [(aa, .inl (xcI G, n, .inl (fillF f v i)))] H := hP
  have hD : va_D (fun q => q ∈ [aa]) [(aa, .inl (xcI G, n, .inl (fillF f v i)))] := (hdis.to rfl)
  replace hl : lv_has ls 4 [(2, .int (nI i)), (3, .int (nI n)), (0, .ref aa), (1, .int v)] := hl
  refine id ?_
  refine lv_iload_n hx hb dJ7_fill_53178_5 rfl (lv_at hl 0 rfl) ?_
  refine lv_iload_n hx hb dJ7_fill_53178_6 rfl (lv_at hl 1 rfl) ?_
  refine n_icmp_ge (tgt := 20) hx hb (by omega) (by omega) dJ7_fill_53178_7 (by decide) (fun c_7 => ?_) (fun c_7 => ?_)
  · have hi9 : n = i := by omega
    subst hi9
    exact xend_v () hx hb hr hlk_ hS (fun _ h => h) dJ7_fill_53178_20 rfl hP (Nat.le_refl _) (Nat.le_refl _)
  · refine lv_aload_n hx hb dJ7_fill_53178_10 rfl (lv_at hl 2 rfl) ?_
    refine lv_iload_n hx hb dJ7_fill_53178_11 rfl (lv_at hl 0 rfl) ?_
    refine lv_iload_n hx hb dJ7_fill_53178_12 rfl (lv_at hl 3 rfl) ?_
    refine i_iast hx hb hK hP hD hS 0 0 rfl rfl (by omega) (by omega) dJ7_fill_53178_13 (fun H locs hP hD hS => ?_)
    have hP : va_P G.1 vwCl [(aa, .inl (xcI G, n, .inl (upd (fillF f v i) i v)))] H := hP
    have hD : va_D (fun q => q ∈ [aa]) [(aa, .inl (xcI G, n, .inl (upd (fillF f v i) i v)))] := hD
    refine lv_iinc (v := nI (i + 1)) (lv' := [(2, .int (nI (i + 1))), (3, .int (nI n)), (0, .ref aa), (1, .int v)]) hx hb dJ7_fill_53178_14 hl (k := 0) rfl (nI_add i 1) (by decide) rfl (fun ls hl => ?_)
    refine lv_goto (tgt := 5) hx hb dJ7_fill_53178_17 (by decide) ?_
    have hl : lv_has ls 4 [(2, .int (nI (i + 1))), (3, .int (nI n)), (0, .ref aa), (1, .int v)] := lv_sub hl [0, 1, 2, 3] rfl
    have hP : va_P G.1 vwCl [(aa, .inl (xcI G, n, .inl (fillF f v (i + 1))))] H := (by rw [← fillF_s]; exact hP)
    exact ih_5 (i + 1) _ _ _ (by show n - (i + 1) < n - i; omega) ⟨(by (try dsimp only); omega), hP, hS, hl⟩

theorem hw_X1_init_oi : Cond.methodLink RX1 3 objectInit ∈ wsX1_init := by decide +kernel
theorem hw_X1_init_om : Cond.instanceMethod objectInit ∈ wsX1_init := by decide +kernel
theorem hw_X1_init_oc : Cond.code objectInit ⟨#[0xb1]⟩ 1 none ∈ wsX1_init := by decide +kernel
theorem hw_X1_init_ma9 : Cond.methodLink RX1 9 Lib.Math.min.name ∈ wsX1_init := by decide +kernel
theorem hw_X1_init_msmin : Cond.static Lib.Math.min.name ∈ wsX1_init := by decide +kernel
theorem hw_X1_init_mi : Cond.initialized "java/lang/Math" ∈ wsX1_init := by decide +kernel
theorem hw_X1_init_mcmin : Cond.code Lib.Math.min.name Lib.Math.min.code 2 (some .int) ∈ wsX1_init := by decide +kernel
theorem hw_X1_init_ma15 : Cond.methodLink RX1 15 Lib.Math.max.name ∈ wsX1_init := by decide +kernel
theorem hw_X1_init_msmax : Cond.static Lib.Math.max.name ∈ wsX1_init := by decide +kernel
theorem hw_X1_init_mcmax : Cond.code Lib.Math.max.name Lib.Math.max.code 2 (some .int) ∈ wsX1_init := by decide +kernel
theorem hw_X1_init_acint : Cond.arrayClass .int ∈ wsX1_init := by decide +kernel
theorem hw_X1_init_f18 : Cond.fieldLink RX1 18 "TailVectors$Row" "values" "[I" ∈ wsX1_init := by decide +kernel
theorem hi_X1_init_RX1 : ∀ w ∈ u_ws RX1 TX1 3, w ∈ wsX1_init := by decide +kernel
theorem hw_X1_init_f24 : Cond.fieldLink RX1 24 "TailVectors$Row" "numbers" "[I" ∈ wsX1_init := by decide +kernel
theorem hw_X1_init_f33 : Cond.fieldLink RX1 33 "TailVectors$Row" "length" "I" ∈ wsX1_init := by decide +kernel
set_option maxHeartbeats 4000000 in
set_option maxRecDepth 100000 in
theorem c_X1_init (l : Launch) (G : xG) (h0 : Nat) (sz : Nat) (n : Nat) (hh0 : xB0 G ≤ h0) (hsz0 : xB0 G ≤ sz) (hhz : h0 < sz) (hn : n < 2 ^ 24) : Met l yX1_init wsX1_init ({ frames := 1, cells := 2, slots := 401, locals := 23 } : Room) (xPc G [.ref h0, .int (nI n)] (fun H => H.size = sz ∧ va_P G.1 vwCl [(h0, .inr (1, [.null, .null, .int (nI 0)]))] H)) (xQ (σ := (Nat × Nat)) (fun _ => none) (fun u H => va_P G.1 vwCl [(h0, .inr (1, [.ref u.1, .ref u.2, .int (nI 0)])), (u.1, .inl (xcI G, capN n, .inl (fun _ => 0))), (u.2, .inl (xcI G, 101, .inl (fillF (fun _ => 0) (-5) 101)))] H ∧ xDis (xB0 G) [h0, u.1, u.2] ∧ sz ≤ u.1 ∧ sz ≤ u.2) (fun q => q ∈ [h0] ∨ sz ≤ q)) 2 401 (fun q => q ∈ [h0] ∨ sz ≤ q) := by
  refine xMet (cc := cX1_init) (nL := 2) (ret := none) (by decide) rfl (Nat.le_of_ble_eq_true rfl) ?_
  intro p e s m below meth c S hr hlk_ hnm hE hP ls hl
  obtain ⟨hx, hb, hml, hown, hts⟩ := id S
  have hown : s.vm.findClass RX1 = some m.cls := hown
  have hK := hE.1
  have hS : va_S (fun q => q ∈ [h0] ∨ sz ≤ q) s.heap s.heap [] := va_S.rf
  have hA : ∀ q, (fun q => q ∈ [h0] ∨ sz ≤ q) q → xB0 G ≤ q := (fun q h => h.elim (fun z => by rw [List.mem_singleton.mp z]; exact hh0) (fun z => Nat.le_trans hsz0 z))
  obtain ⟨hsz, hP⟩ := hP
  have hAn : ∀ q, s.heap.size ≤ q → (fun q => q ∈ [h0] ∨ sz ≤ q) q := fun q h => Or.inr (by rw [← hsz]; exact h)
  have hP : va_P G.1 vwCl [(h0, .inr (1, [.null, .null, .int (nI 0)]))] s.heap := hP
  have hD : va_D (fun q => q ∈ [h0] ∨ sz ≤ q) [(h0, .inr (1, [.null, .null, .int (nI 0)]))] := ⟨fun i j p q hi hj _ => by have := (List.getElem?_eq_some_iff.mp hi).1; have := (List.getElem?_eq_some_iff.mp hj).1; simp at *; omega, fun k q hk => by have := List.mem_of_getElem? hk; simp at this; rw [this]; exact Or.inl (List.mem_singleton.mpr rfl)⟩
  have hl : lv_has ls 2 [(0, .ref h0), (1, .int (nI n))] := hl
  refine lv_aload_n hx hb dX1_init_0 rfl (lv_at hl 0 rfl) ?_
  refine W.objInit hx hb hown (hts _ hw_X1_init_oi) (hts _ hw_X1_init_om) (hts _ hw_X1_init_oc) rfl (by rw [hml]; exact hl.1) rfl dX1_init_1 (Nat.le_of_ble_eq_true rfl) (Nat.le_of_ble_eq_true rfl) ?_
  refine W.eq (g2 := F0 m 4 ls []) rfl ?_
  refine lv_aload_n hx hb dX1_init_4 rfl (lv_at hl 0 rfl) ?_
  refine lv_iconst (v := nI 0) hx hb dX1_init_5 rfl ?_
  refine lv_iload_n hx hb dX1_init_6 rfl (lv_at hl 1 rfl) ?_
  refine lv_sipush (v := nI 300) hx hb dX1_init_7 (by decide) ?_
  refine va_mmin hx hb (by rw [hml]; exact hl.1.symm) hown (hts _ hw_X1_init_ma9) (hts _ hw_X1_init_msmin) (hts _ hw_X1_init_mi) (hts _ hw_X1_init_mcmin) (Nat.le_of_ble_eq_true rfl) (Nat.le_of_ble_eq_true rfl) (Nat.le_of_ble_eq_true rfl) (Nat.le_of_ble_eq_true rfl) dX1_init_10 ?_
  refine n_top (y := nI (capN n)) (cap_min (by omega)) ?_
  refine va_mmax hx hb (by rw [hml]; exact hl.1.symm) hown (hts _ hw_X1_init_ma15) (hts _ hw_X1_init_msmax) (hts _ hw_X1_init_mi) (hts _ hw_X1_init_mcmax) (Nat.le_of_ble_eq_true rfl) (Nat.le_of_ble_eq_true rfl) (Nat.le_of_ble_eq_true rfl) (Nat.le_of_ble_eq_true rfl) dX1_init_13 ?_
  refine n_top (y := nI (capN n)) (cap_max (by have := capN_le n; omega)) ?_
  refine va_newa (atype := .int) (ty := .int) (a0 := (capN n, .inl (fun _ => 0))) hx hb (hts _ hw_X1_init_acint) rfl hK hP hD hS hAn (fun _ => rfl) (n := nI (capN n)) (nI_pos (by have := capN_le n; omega)) (nI_clamp (by have := capN_le n; omega)) (by show capN n * 4 ≤ 536870912; have := capN_le n; omega) (Nat.le_of_ble_eq_true rfl) (by show 0 + capN n ≤ 401; have := capN_le n; omega) dX1_init_16 (fun q1 cA_ H hK_ hP hD hS => ?_)
  obtain rfl := x_sameA (t0 := 0) hK rfl hK_
  have hq1 : sz ≤ q1 := x_fresh hD (by simp)
  have hP : va_P G.1 vwCl [(h0, .inr (1, [.null, .null, .int (nI 0)])), (q1, .inl (xcI G, capN n, .inl (fun _ => 0)))] H := hP
  have hD : va_D (fun q => q ∈ [h0] ∨ sz ≤ q) [(h0, .inr (1, [.null, .null, .int (nI 0)])), (q1, .inl (xcI G, capN n, .inl (fun _ => 0)))] := hD
  refine W.widen (k := 1) (n := 300) (Nat.le_of_ble_eq_true rfl) (by show 0 + capN n ≤ 300; have := capN_le n; omega) ?_
  refine va_putF (D := G.1) (ci := 1) (v := .ref q1) (ty := (.array .int)) (C := RX1) (T := TX1) (N := 3) hx hb hts hi_X1_init_RX1 tyX1 tyX1_ok nmX1 hown hK hP hD hS 0 rfl rfl 0 (by decide) (hts _ hw_X1_init_f18) (fun _ h9 => h9) rfl hnm rfl (by decide +kernel) rfl rfl (Nat.le_of_ble_eq_true rfl) dX1_init_18 (fun H locs hP hD hS => ?_)
  have hP : va_P G.1 vwCl [(h0, .inr (1, [.ref q1, .null, .int (nI 0)])), (q1, .inl (xcI G, capN n, .inl (fun _ => 0)))] H := hP
  have hD : va_D (fun q => q ∈ [h0] ∨ sz ≤ q) [(h0, .inr (1, [.ref q1, .null, .int (nI 0)])), (q1, .inl (xcI G, capN n, .inl (fun _ => 0)))] := hD
  refine lv_aload_n hx hb dX1_init_21 rfl (lv_at hl 0 rfl) ?_
  refine lv_bipush (v := nI 101) hx hb dX1_init_22 (by decide) ?_
  refine va_newa (atype := .int) (ty := .int) (a0 := (101, .inl (fun _ => 0))) hx hb (hts _ hw_X1_init_acint) rfl hK hP hD hS hAn (fun _ => rfl) (n := nI 101) (nI_pos (by omega)) (nI_clamp (by omega)) (by decide) (Nat.le_of_ble_eq_true rfl) (Nat.le_of_ble_eq_true rfl) dX1_init_24 (fun q2 cA_ H hK_ hP hD hS => ?_)
  obtain rfl := x_sameA (t0 := 0) hK rfl hK_
  have hq2 : sz ≤ q2 := x_fresh hD (by simp)
  have hP : va_P G.1 vwCl [(h0, .inr (1, [.ref q1, .null, .int (nI 0)])), (q1, .inl (xcI G, capN n, .inl (fun _ => 0))), (q2, .inl (xcI G, 101, .inl (fun _ => 0)))] H := hP
  have hD : va_D (fun q => q ∈ [h0] ∨ sz ≤ q) [(h0, .inr (1, [.ref q1, .null, .int (nI 0)])), (q1, .inl (xcI G, capN n, .inl (fun _ => 0))), (q2, .inl (xcI G, 101, .inl (fun _ => 0)))] := hD
  refine W.widen (k := 2) (n := 401) (Nat.le_of_ble_eq_true rfl) (Nat.le_of_ble_eq_true rfl) ?_
  refine va_putF (D := G.1) (ci := 1) (v := .ref q2) (ty := (.array .int)) (C := RX1) (T := TX1) (N := 3) hx hb hts hi_X1_init_RX1 tyX1 tyX1_ok nmX1 hown hK hP hD hS 0 rfl rfl 1 (by decide) (hts _ hw_X1_init_f24) (fun _ h9 => h9) rfl hnm rfl (by decide +kernel) rfl rfl (Nat.le_of_ble_eq_true rfl) dX1_init_26 (fun H locs hP hD hS => ?_)
  have hP : va_P G.1 vwCl [(h0, .inr (1, [.ref q1, .ref q2, .int (nI 0)])), (q1, .inl (xcI G, capN n, .inl (fun _ => 0))), (q2, .inl (xcI G, 101, .inl (fun _ => 0)))] H := hP
  have hD : va_D (fun q => q ∈ [h0] ∨ sz ≤ q) [(h0, .inr (1, [.ref q1, .ref q2, .int (nI 0)])), (q1, .inl (xcI G, capN n, .inl (fun _ => 0))), (q2, .inl (xcI G, 101, .inl (fun _ => 0)))] := hD
  refine lv_aload_n hx hb dX1_init_29 rfl (lv_at hl 0 rfl) ?_
  refine va_get (D := G.1) (ci := 1) (v := .ref q2) (C := RX1) (T := TX1) (N := 3) hx hb hts hi_X1_init_RX1 hown hK hP 0 rfl rfl 1 (by decide) (hts _ hw_X1_init_f24) (fun _ h9 => h9) rfl dX1_init_30 ?_
  refine lv_bipush (v := (-5)) hx hb dX1_init_33 (by decide) ?_
  refine xwr (xrunS (As := [.ref q2, .int (-5)]) (rest := []) S (c_J7_fill_53178 l G q2 101 (fun _ => 0) (-5) (xDis1 (Nat.le_trans hsz0 hq2)) (by omega)) (va_cwS 2 hts gX1_init_J7_fill_53178 rfl rfl rfl (by decide +kernel) ⟨Nat.le_of_ble_eq_true rfl, Nat.le_of_ble_eq_true rfl⟩) hE hS hA (hP.sub [2] rfl) rfl rfl hl.1 (Nat.le_of_ble_eq_true rfl) dX1_init_35 ⟨Nat.le_of_ble_eq_true rfl, Nat.le_of_ble_eq_true rfl⟩) hS (fun q h => Or.inr (by rw [List.mem_singleton.mp h]; exact hq2)) (fun q h => Or.inr (by rw [List.mem_singleton.mp h]; exact hq2)) (fun uw_ H locs hΨ hz hkp hS => ?_)
  have hP := (x_join hP hD [2] [0, 1] (wc := [(q2, .inl (xcI G, 101, .inl (fun _ => 0)))]) (wr := [(h0, .inr (1, [.ref q1, .ref q2, .int (nI 0)])), (q1, .inl (xcI G, capN n, .inl (fun _ => 0)))]) rfl rfl (by decide) hkp hΨ).sub (ws' := [(h0, .inr (1, [.ref q1, .ref q2, .int (nI 0)])), (q1, .inl (xcI G, capN n, .inl (fun _ => 0))), (q2, .inl (xcI G, 101, .inl (fillF (fun _ => 0) (-5) 101)))]) [0, 1, 2] rfl
  have hD : va_D (fun q => q ∈ [h0] ∨ sz ≤ q) [(h0, .inr (1, [.ref q1, .ref q2, .int (nI 0)])), (q1, .inl (xcI G, capN n, .inl (fun _ => 0))), (q2, .inl (xcI G, 101, .inl (fillF (fun _ => 0) (-5) 101)))] := (x_Dadr hD rfl)
  refine W.eq (g2 := F0 m 38 ls []) rfl ?_
  refine lv_aload_n hx hb dX1_init_38 rfl (lv_at hl 0 rfl) ?_
  refine lv_iconst (v := nI 0) hx hb dX1_init_39 rfl ?_
  refine va_put (D := G.1) (ci := 1) (v := .int (nI 0)) (ty := .int) (C := RX1) (T := TX1) (N := 3) hx hb hts hi_X1_init_RX1 tyX1 tyX1_ok nmX1 hown hK hP hD hS 0 rfl rfl 2 (by decide) (hts _ hw_X1_init_f33) (fun _ h9 => h9) rfl (by decide +kernel) rfl rfl (Nat.le_of_ble_eq_true rfl) dX1_init_40 (fun H locs hP hD hS => ?_)
  have hP : va_P G.1 vwCl [(h0, .inr (1, [.ref q1, .ref q2, .int (nI 0)])), (q1, .inl (xcI G, capN n, .inl (fun _ => 0))), (q2, .inl (xcI G, 101, .inl (fillF (fun _ => 0) (-5) 101)))] H := hP
  have hD : va_D (fun q => q ∈ [h0] ∨ sz ≤ q) [(h0, .inr (1, [.ref q1, .ref q2, .int (nI 0)])), (q1, .inl (xcI G, capN n, .inl (fun _ => 0))), (q2, .inl (xcI G, 101, .inl (fillF (fun _ => 0) (-5) 101)))] := hD
  have hdd := xDis.of (B := xB0 G) hD (by simp only [List.map_cons, List.map_nil, List.mem_cons, List.not_mem_nil, or_false]; rintro q (rfl | rfl | rfl) <;> omega)
  exact xend_v (q1, q2) hx hb hr hlk_ hS (fun _ h => h) dX1_init_43 rfl ⟨hP, hdd, hq1, hq2⟩ (Nat.le_refl _) (Nat.le_refl _)

theorem hw_X1_copyFrom_f33 : Cond.fieldLink RX1 33 "TailVectors$Row" "length" "I" ∈ wsX1_copyFrom := by decide +kernel
theorem hi_X1_copyFrom_RX1 : ∀ w ∈ u_ws RX1 TX1 3, w ∈ wsX1_copyFrom := by decide +kernel
theorem hw_X1_copyFrom_f18 : Cond.fieldLink RX1 18 "TailVectors$Row" "values" "[I" ∈ wsX1_copyFrom := by decide +kernel
theorem hw_X1_copyFrom_ma9 : Cond.methodLink RX1 9 Lib.Math.min.name ∈ wsX1_copyFrom := by decide +kernel
theorem hw_X1_copyFrom_msmin : Cond.static Lib.Math.min.name ∈ wsX1_copyFrom := by decide +kernel
theorem hw_X1_copyFrom_mi : Cond.initialized "java/lang/Math" ∈ wsX1_copyFrom := by decide +kernel
theorem hw_X1_copyFrom_mcmin : Cond.code Lib.Math.min.name Lib.Math.min.code 2 (some .int) ∈ wsX1_copyFrom := by decide +kernel
theorem hw_X1_copyFrom_f24 : Cond.fieldLink RX1 24 "TailVectors$Row" "numbers" "[I" ∈ wsX1_copyFrom := by decide +kernel
set_option maxHeartbeats 4000000 in
set_option maxRecDepth 100000 in
theorem c_X1_copyFrom (l : Launch) (G : xG) (a : Nat) (va : Nat) (na : Nat) (room : Nat) (vals : Nat → Int32) (nums : Nat → Int32) (len : Nat) (a2 : Nat) (va2 : Nat) (na2 : Nat) (room2 : Nat) (vals2 : Nat → Int32) (nums2 : Nat → Int32) (len2 : Nat) (hdis : xDis (xB0 G) [a, va, na]) (h2d : ∀ q ∈ [a2, va2, na2], q ∉ [a, va, na]) (hl2 : len2 ≤ 300) (hlr2 : len2 ≤ room2) (hlq : len2 ≤ room) (hrm : room ≤ 300) (hro2 : room2 ≤ 300) : Met l yX1_copyFrom wsX1_copyFrom ({ frames := 1, cells := 0, slots := 0, locals := 14 } : Room) (xPc G [.ref a, .ref a2] (fun H => va_P G.1 vwCl [(a, .inr (1, [.ref va, .ref na, .int (nI len)])), (va, .inl (xcI G, room, .inl vals)), (na, .inl (xcI G, 101, .inl nums))] H ∧ va_P G.1 vwCl [(a2, .inr (1, [.ref va2, .ref na2, .int (nI len2)])), (va2, .inl (xcI G, room2, .inl vals2)), (na2, .inl (xcI G, 101, .inl nums2))] H)) (xQ (σ := Unit) (fun _ => none) (fun _ H => va_P G.1 vwCl [(a, .inr (1, [.ref va, .ref na, .int (nI len2)])), (va, .inl (xcI G, room, .inl (cpI vals vals2 len2))), (na, .inl (xcI G, 101, .inl (cpI nums nums2 101)))] H) (fun q => q ∈ [a, va, na])) 0 0 (fun q => q ∈ [a, va, na]) := by
  refine xMet (cc := cX1_copyFrom) (nL := 4) (ret := none) (by decide) rfl (Nat.le_of_ble_eq_true rfl) ?_
  intro p e s m below meth c S hr hlk_ hnm hE hP ls hl
  obtain ⟨hx, hb, hml, hown, hts⟩ := id S
  have hown : s.vm.findClass RX1 = some m.cls := hown
  have hK := hE.1
  have hS : va_S (fun q => q ∈ [a, va, na]) s.heap s.heap [] := va_S.rf
  have hA : ∀ q, (fun q => q ∈ [a, va, na]) q → xB0 G ≤ q := hdis.2
  obtain ⟨hP, hO⟩ := hP
  have hOA : ∀ q ∈ ([(a2, .inr (1, [.ref va2, .ref na2, .int (nI len2)])), (va2, .inl (xcI G, room2, .inl vals2)), (na2, .inl (xcI G, 101, .inl nums2))] : va_W).map (fun x => x.1), ¬ q ∈ [a, va, na] := h2d
  have hP : va_P G.1 vwCl [(a, .inr (1, [.ref va, .ref na, .int (nI len)])), (va, .inl (xcI G, room, .inl vals)), (na, .inl (xcI G, 101, .inl nums))] s.heap := hP
  have hD : va_D (fun q => q ∈ [a, va, na]) [(a, .inr (1, [.ref va, .ref na, .int (nI len)])), (va, .inl (xcI G, room, .inl vals)), (na, .inl (xcI G, 101, .inl nums))] := (hdis.to rfl)
  have hl : lv_has ls 4 [(0, .ref a), (1, .ref a2)] := hl
  refine lv_aload_n hx hb dX1_copyFrom_0 rfl (lv_at hl 1 rfl) ?_
  refine va_get (D := G.1) (ci := 1) (v := .int (nI len2)) (C := RX1) (T := TX1) (N := 3) hx hb hts hi_X1_copyFrom_RX1 hown hK (x_ro hO hS hOA) 0 rfl rfl 2 (by decide) (hts _ hw_X1_copyFrom_f33) (fun _ h9 => h9) rfl dX1_copyFrom_1 ?_
  refine lv_aload_n hx hb dX1_copyFrom_4 rfl (lv_at hl 0 rfl) ?_
  refine va_get (D := G.1) (ci := 1) (v := .ref va) (C := RX1) (T := TX1) (N := 3) hx hb hts hi_X1_copyFrom_RX1 hown hK hP 0 rfl rfl 0 (by decide) (hts _ hw_X1_copyFrom_f18) (fun _ h9 => h9) rfl dX1_copyFrom_5 ?_
  refine va_alen (v := nI room) hx hb hK hP 1 0 rfl rfl rfl dX1_copyFrom_8 ?_
  refine lv_aload_n hx hb dX1_copyFrom_9 rfl (lv_at hl 1 rfl) ?_
  refine va_get (D := G.1) (ci := 1) (v := .ref va2) (C := RX1) (T := TX1) (N := 3) hx hb hts hi_X1_copyFrom_RX1 hown hK (x_ro hO hS hOA) 0 rfl rfl 0 (by decide) (hts _ hw_X1_copyFrom_f18) (fun _ h9 => h9) rfl dX1_copyFrom_10 ?_
  refine va_alen (v := nI room2) hx hb hK (x_ro hO hS hOA) 1 0 rfl rfl rfl dX1_copyFrom_13 ?_
  refine va_mmin hx hb (by rw [hml]; exact hl.1.symm) hown (hts _ hw_X1_copyFrom_ma9) (hts _ hw_X1_copyFrom_msmin) (hts _ hw_X1_copyFrom_mi) (hts _ hw_X1_copyFrom_mcmin) (Nat.le_of_ble_eq_true rfl) (Nat.le_of_ble_eq_true rfl) (Nat.le_of_ble_eq_true rfl) (Nat.le_of_ble_eq_true rfl) dX1_copyFrom_14 ?_
  refine n_top (y := nI (min room room2)) (min_n (by omega) (by omega)) ?_
  refine va_mmin hx hb (by rw [hml]; exact hl.1.symm) hown (hts _ hw_X1_copyFrom_ma9) (hts _ hw_X1_copyFrom_msmin) (hts _ hw_X1_copyFrom_mi) (hts _ hw_X1_copyFrom_mcmin) (Nat.le_of_ble_eq_true rfl) (Nat.le_of_ble_eq_true rfl) (Nat.le_of_ble_eq_true rfl) (Nat.le_of_ble_eq_true rfl) dX1_copyFrom_17 ?_
  refine n_top (y := nI len2) (min_l (by omega) (by omega)) ?_
  refine lv_istore_n (lv' := [(2, .int (nI len2)), (0, .ref a), (1, .ref a2)]) hx hb dX1_copyFrom_20 rfl hl (by decide) rfl (fun ls hl => ?_)
  refine lv_iconst (v := nI 0) hx hb dX1_copyFrom_21 rfl ?_
  refine lv_istore_n (lv' := [(3, .int (nI 0)), (2, .int (nI len2)), (0, .ref a), (1, .ref a2)]) hx hb dX1_copyFrom_22 rfl hl (by decide) rfl (fun ls hl => ?_)
  have hP : va_P G.1 vwCl [(a, .inr (1, [.ref va, .ref na, .int (nI len)])), (va, .inl (xcI G, room, .inl (cpI vals vals2 0))), (na, .inl (xcI G, 101, .inl nums))] s.heap := (by rw [cpI_0]; exact hP)
  have hl : lv_has ls 4 [(3, .int (nI 0)), (2, .int (nI len2)), (0, .ref a), (1, .ref a2)] := lv_sub hl [0, 1, 2, 3] rfl
  refine xloop (σ := Nat) (C := (fun (x_ : Nat) H locs ls => (x_ ≤ len2) ∧ va_P G.1 vwCl [(a, .inr (1, [.ref va, .ref na, .int (nI len)])), (va, .inl (xcI G, room, .inl (cpI vals vals2 x_))), (na, .inl (xcI G, 101, .inl nums))] H ∧ va_S (fun q => q ∈ [a, va, na]) s.heap H locs ∧ lv_has ls 4 [(3, .int (nI x_)), (2, .int (nI len2)), (0, .ref a), (1, .ref a2)])) (μ := (fun (x_ : Nat) => len2 - x_)) (W' := fun H locs ls => W p l e _ s m _ below meth c H locs _ _ _ (F0 m 23 ls [])) ?_ 0 _ _ _ ⟨(Nat.zero_le _), hP, hS, hl⟩
  intro x_ H locs ls hC ih_23
  obtain ⟨i, rfl⟩ : ∃ z, z = x_ := ⟨x_, rfl⟩
  obtain ⟨hi, hP, hS, hl⟩ := hC
  replace hi : i ≤ len2 := hi
  replace hP : va_P G.1 vwCl [(a, .inr (1, [.ref va, .ref na, .int (nI len)])), (va, .inl (xcI G, room, .inl (cpI vals vals2 i))), (na, .inl (xcI G, 101, .inl nums))] H := hP
  have hD : va_D (fun q => q ∈ [a, va, na]) [(a, .inr (1, [.ref va, .ref na, .int (nI len)])), (va, .inl (xcI G, room, .inl (cpI vals vals2 i))), (na, .inl (xcI G, 101, .inl nums))] := (hdis.to rfl)
  replace hl : lv_has ls 4 [(3, .int (nI i)), (2, .int (nI len2)), (0, .ref a), (1, .ref a2)] := hl
  refine id ?_
  refine lv_iload_n hx hb dX1_copyFrom_23 rfl (lv_at hl 0 rfl) ?_
  refine lv_iload_n hx hb dX1_copyFrom_24 rfl (lv_at hl 1 rfl) ?_
  refine n_icmp_ge (tgt := 46) hx hb (by omega) (by omega) dX1_copyFrom_25 (by decide) (fun c_25 => ?_) (fun c_25 => ?_)
  · have hi9 : len2 = i := by omega
    subst hi9
    refine lv_iconst (v := nI 0) hx hb dX1_copyFrom_46 rfl ?_
    refine lv_istore_n (lv' := [(3, .int (nI 0)), (2, .int (nI len2)), (0, .ref a), (1, .ref a2)]) hx hb dX1_copyFrom_47 rfl hl (by decide) rfl (fun ls hl => ?_)
    have hP : va_P G.1 vwCl [(a, .inr (1, [.ref va, .ref na, .int (nI len)])), (va, .inl (xcI G, room, .inl (cpI vals vals2 len2))), (na, .inl (xcI G, 101, .inl (cpI nums nums2 0)))] H := (by rw [cpI_0]; exact hP)
    have hl : lv_has ls 4 [(3, .int (nI 0)), (2, .int (nI len2)), (0, .ref a), (1, .ref a2)] := lv_sub hl [0, 1, 2, 3] rfl
    refine xloop (σ := Nat) (C := (fun (x_ : Nat) H locs ls => (x_ ≤ 101) ∧ va_P G.1 vwCl [(a, .inr (1, [.ref va, .ref na, .int (nI len)])), (va, .inl (xcI G, room, .inl (cpI vals vals2 len2))), (na, .inl (xcI G, 101, .inl (cpI nums nums2 x_)))] H ∧ va_S (fun q => q ∈ [a, va, na]) s.heap H locs ∧ lv_has ls 4 [(3, .int (nI x_)), (2, .int (nI len2)), (0, .ref a), (1, .ref a2)])) (μ := (fun (x_ : Nat) => 101 - x_)) (W' := fun H locs ls => W p l e _ s m _ below meth c H locs _ _ _ (F0 m 48 ls [])) ?_ 0 _ _ _ ⟨(Nat.zero_le _), hP, hS, hl⟩
    intro x_ H locs ls hC ih_48
    obtain ⟨i, rfl⟩ : ∃ z, z = x_ := ⟨x_, rfl⟩
    obtain ⟨hi, hP, hS, hl⟩ := hC
    replace hi : i ≤ 101 := hi
    replace hP : va_P G.1 vwCl [(a, .inr (1, [.ref va, .ref na, .int (nI len)])), (va, .inl (xcI G, room, .inl (cpI vals vals2 len2))), (na, .inl (xcI G, 101, .inl (cpI nums nums2 i)))] H := hP
    have hD : va_D (fun q => q ∈ [a, va, na]) [(a, .inr (1, [.ref va, .ref na, .int (nI len)])), (va, .inl (xcI G, room, .inl (cpI vals vals2 len2))), (na, .inl (xcI G, 101, .inl (cpI nums nums2 i)))] := (hdis.to rfl)
    replace hl : lv_has ls 4 [(3, .int (nI i)), (2, .int (nI len2)), (0, .ref a), (1, .ref a2)] := hl
    refine id ?_
    refine lv_iload_n hx hb dX1_copyFrom_48 rfl (lv_at hl 0 rfl) ?_
    refine lv_bipush (v := nI 101) hx hb dX1_copyFrom_49 (by decide) ?_
    refine n_icmp_ge (tgt := 72) hx hb (by omega) (by omega) dX1_copyFrom_51 (by decide) (fun c_51 => ?_) (fun c_51 => ?_)
    · have hi9 : i = 101 := by omega
      subst hi9
      refine lv_aload_n hx hb dX1_copyFrom_72 rfl (lv_at hl 2 rfl) ?_
      refine lv_iload_n hx hb dX1_copyFrom_73 rfl (lv_at hl 1 rfl) ?_
      refine va_put (D := G.1) (ci := 1) (v := .int (nI len2)) (ty := .int) (C := RX1) (T := TX1) (N := 3) hx hb hts hi_X1_copyFrom_RX1 tyX1 tyX1_ok nmX1 hown hK hP hD hS 0 rfl rfl 2 (by decide) (hts _ hw_X1_copyFrom_f33) (fun _ h9 => h9) rfl (by decide +kernel) rfl rfl (Nat.le_of_ble_eq_true rfl) dX1_copyFrom_74 (fun H locs hP hD hS => ?_)
      have hP : va_P G.1 vwCl [(a, .inr (1, [.ref va, .ref na, .int (nI len2)])), (va, .inl (xcI G, room, .inl (cpI vals vals2 len2))), (na, .inl (xcI G, 101, .inl (cpI nums nums2 101)))] H := hP
      have hD : va_D (fun q => q ∈ [a, va, na]) [(a, .inr (1, [.ref va, .ref na, .int (nI len2)])), (va, .inl (xcI G, room, .inl (cpI vals vals2 len2))), (na, .inl (xcI G, 101, .inl (cpI nums nums2 101)))] := hD
      exact xend_v () hx hb hr hlk_ hS (fun _ h => h) dX1_copyFrom_77 rfl hP (Nat.le_refl _) (Nat.le_refl _)
    · refine lv_aload_n hx hb dX1_copyFrom_54 rfl (lv_at hl 2 rfl) ?_
      refine va_get (D := G.1) (ci := 1) (v := .ref na) (C := RX1) (T := TX1) (N := 3) hx hb hts hi_X1_copyFrom_RX1 hown hK hP 0 rfl rfl 1 (by decide) (hts _ hw_X1_copyFrom_f24) (fun _ h9 => h9) rfl dX1_copyFrom_55 ?_
      refine lv_iload_n hx hb dX1_copyFrom_58 rfl (lv_at hl 0 rfl) ?_
      refine lv_aload_n hx hb dX1_copyFrom_59 rfl (lv_at hl 3 rfl) ?_
      refine va_get (D := G.1) (ci := 1) (v := .ref na2) (C := RX1) (T := TX1) (N := 3) hx hb hts hi_X1_copyFrom_RX1 hown hK (x_ro hO hS hOA) 0 rfl rfl 1 (by decide) (hts _ hw_X1_copyFrom_f24) (fun _ h9 => h9) rfl dX1_copyFrom_60 ?_
      refine lv_iload_n hx hb dX1_copyFrom_63 rfl (lv_at hl 0 rfl) ?_
      refine i_iald hx hb hK (x_ro hO hS hOA) 2 0 rfl rfl (by omega) (by decide) dX1_copyFrom_64 ?_
      refine i_iast hx hb hK hP hD hS 2 0 rfl rfl (by omega) (by decide) dX1_copyFrom_65 (fun H locs hP hD hS => ?_)
      have hP : va_P G.1 vwCl [(a, .inr (1, [.ref va, .ref na, .int (nI len)])), (va, .inl (xcI G, room, .inl (cpI vals vals2 len2))), (na, .inl (xcI G, 101, .inl (upd (cpI nums nums2 i) i (nums2 i))))] H := hP
      have hD : va_D (fun q => q ∈ [a, va, na]) [(a, .inr (1, [.ref va, .ref na, .int (nI len)])), (va, .inl (xcI G, room, .inl (cpI vals vals2 len2))), (na, .inl (xcI G, 101, .inl (upd (cpI nums nums2 i) i (nums2 i))))] := hD
      refine lv_iinc (v := nI (i + 1)) (lv' := [(3, .int (nI (i + 1))), (2, .int (nI len2)), (0, .ref a), (1, .ref a2)]) hx hb dX1_copyFrom_66 hl (k := 0) rfl (nI_add i 1) (by decide) rfl (fun ls hl => ?_)
      refine lv_goto (tgt := 48) hx hb dX1_copyFrom_69 (by decide) ?_
      have hl : lv_has ls 4 [(3, .int (nI (i + 1))), (2, .int (nI len2)), (0, .ref a), (1, .ref a2)] := lv_sub hl [0, 1, 2, 3] rfl
      have hP : va_P G.1 vwCl [(a, .inr (1, [.ref va, .ref na, .int (nI len)])), (va, .inl (xcI G, room, .inl (cpI vals vals2 len2))), (na, .inl (xcI G, 101, .inl (cpI nums nums2 (i + 1))))] H := (by rw [← cpI_s]; exact hP)
      exact ih_48 (i + 1) _ _ _ (by show 101 - (i + 1) < 101 - i; omega) ⟨(by (try dsimp only); omega), hP, hS, hl⟩
  · refine lv_aload_n hx hb dX1_copyFrom_28 rfl (lv_at hl 2 rfl) ?_
    refine va_get (D := G.1) (ci := 1) (v := .ref va) (C := RX1) (T := TX1) (N := 3) hx hb hts hi_X1_copyFrom_RX1 hown hK hP 0 rfl rfl 0 (by decide) (hts _ hw_X1_copyFrom_f18) (fun _ h9 => h9) rfl dX1_copyFrom_29 ?_
    refine lv_iload_n hx hb dX1_copyFrom_32 rfl (lv_at hl 0 rfl) ?_
    refine lv_aload_n hx hb dX1_copyFrom_33 rfl (lv_at hl 3 rfl) ?_
    refine va_get (D := G.1) (ci := 1) (v := .ref va2) (C := RX1) (T := TX1) (N := 3) hx hb hts hi_X1_copyFrom_RX1 hown hK (x_ro hO hS hOA) 0 rfl rfl 0 (by decide) (hts _ hw_X1_copyFrom_f18) (fun _ h9 => h9) rfl dX1_copyFrom_34 ?_
    refine lv_iload_n hx hb dX1_copyFrom_37 rfl (lv_at hl 0 rfl) ?_
    refine i_iald hx hb hK (x_ro hO hS hOA) 1 0 rfl rfl (by omega) (by omega) dX1_copyFrom_38 ?_
    refine i_iast hx hb hK hP hD hS 1 0 rfl rfl (by omega) (by omega) dX1_copyFrom_39 (fun H locs hP hD hS => ?_)
    have hP : va_P G.1 vwCl [(a, .inr (1, [.ref va, .ref na, .int (nI len)])), (va, .inl (xcI G, room, .inl (upd (cpI vals vals2 i) i (vals2 i)))), (na, .inl (xcI G, 101, .inl nums))] H := hP
    have hD : va_D (fun q => q ∈ [a, va, na]) [(a, .inr (1, [.ref va, .ref na, .int (nI len)])), (va, .inl (xcI G, room, .inl (upd (cpI vals vals2 i) i (vals2 i)))), (na, .inl (xcI G, 101, .inl nums))] := hD
    refine lv_iinc (v := nI (i + 1)) (lv' := [(3, .int (nI (i + 1))), (2, .int (nI len2)), (0, .ref a), (1, .ref a2)]) hx hb dX1_copyFrom_40 hl (k := 0) rfl (nI_add i 1) (by decide) rfl (fun ls hl => ?_)
    refine lv_goto (tgt := 23) hx hb dX1_copyFrom_43 (by decide) ?_
    have hl : lv_has ls 4 [(3, .int (nI (i + 1))), (2, .int (nI len2)), (0, .ref a), (1, .ref a2)] := lv_sub hl [0, 1, 2, 3] rfl
    have hP : va_P G.1 vwCl [(a, .inr (1, [.ref va, .ref na, .int (nI len)])), (va, .inl (xcI G, room, .inl (cpI vals vals2 (i + 1)))), (na, .inl (xcI G, 101, .inl nums))] H := (by rw [← cpI_s]; exact hP)
    exact ih_23 (i + 1) _ _ _ (by show len2 - (i + 1) < len2 - i; omega) ⟨(by (try dsimp only); omega), hP, hS, hl⟩

theorem hw_X1_copy_cl19 : Cond.classLink RX1 19 RX1 ∈ wsX1_copy := by decide +kernel
theorem hw_X1_copy_inRX1 : Cond.instantiable RX1 3 ∈ wsX1_copy := by decide +kernel
theorem hw_X1_copy_itRX1 : Cond.initialized RX1 ∈ wsX1_copy := by decide +kernel
theorem hi_X1_copy_RX1 : ∀ w ∈ u_ws RX1 TX1 3, w ∈ wsX1_copy := by decide +kernel
theorem hw_X1_copy_f33 : Cond.fieldLink RX1 33 "TailVectors$Row" "length" "I" ∈ wsX1_copy := by decide +kernel
theorem hw_X1_copy_iX1_init : Cond.initialized RX1 ∈ wsX1_copy := by decide +kernel
theorem hw_X1_copy_m37 : Cond.methodLink RX1 37 yX1_init ∈ wsX1_copy := by decide +kernel
theorem hw_X1_copy_vX1_init : Cond.instanceMethod yX1_init ∈ wsX1_copy := by decide +kernel
set_option maxHeartbeats 4000000 in
set_option maxRecDepth 100000 in
theorem c_X1_copy (l : Launch) (G : xG) (a : Nat) (va : Nat) (na : Nat) (room : Nat) (vals : Nat → Int32) (nums : Nat → Int32) (len : Nat) (sz : Nat) (mo : Nat) (hsz0 : xB0 G ≤ sz) (hmo : mo ≤ 300) (hl3 : len ≤ 300) (hlr : len ≤ room) (hro : room ≤ 300) : Met l yX1_copy wsX1_copy ({ frames := 2, cells := 3, slots := 404, locals := 44 } : Room) (xPc G [.ref a, .int (nI mo)] (fun H => H.size = sz ∧ va_P G.1 vwCl [(a, .inr (1, [.ref va, .ref na, .int (nI len)])), (va, .inl (xcI G, room, .inl vals)), (na, .inl (xcI G, 101, .inl nums))] H)) (xQ (σ := (Nat × Nat × Nat)) (fun u => some (.ref u.1)) (fun u H => va_P G.1 vwCl [(u.1, .inr (1, [.ref u.2.1, .ref u.2.2, .int (nI len)])), (u.2.1, .inl (xcI G, capN (len + mo), .inl (cpI (fun _ => 0) vals len))), (u.2.2, .inl (xcI G, 101, .inl (cpI (fillF (fun _ => 0) (-5) 101) nums 101)))] H ∧ xDis (xB0 G) [u.1, u.2.1, u.2.2] ∧ sz ≤ u.1 ∧ sz ≤ u.2.1 ∧ sz ≤ u.2.2) (fun q => q ∈ ([] : List Nat) ∨ sz ≤ q)) 3 404 (fun q => q ∈ ([] : List Nat) ∨ sz ≤ q) := by
  refine xMet (cc := cX1_copy) (nL := 3) (ret := (some ((.object "TailVectors$Row")))) (by decide) rfl (Nat.le_of_ble_eq_true rfl) ?_
  intro p e s m below meth c S hr hlk_ hnm hE hP ls hl
  obtain ⟨hx, hb, hml, hown, hts⟩ := id S
  have hown : s.vm.findClass RX1 = some m.cls := hown
  have hK := hE.1
  have hS : va_S (fun q => q ∈ ([] : List Nat) ∨ sz ≤ q) s.heap s.heap [] := va_S.rf
  have hA : ∀ q, (fun q => q ∈ ([] : List Nat) ∨ sz ≤ q) q → xB0 G ≤ q := (fun q h => h.elim (fun z => absurd z List.not_mem_nil) (fun z => Nat.le_trans hsz0 z))
  obtain ⟨hsz, hPo⟩ := hP
  have hAn : ∀ q, s.heap.size ≤ q → (fun q => q ∈ ([] : List Nat) ∨ sz ≤ q) q := fun q h => Or.inr (by rw [← hsz]; exact h)
  have hPoA : ∀ q ∈ ([(a, .inr (1, [.ref va, .ref na, .int (nI len)])), (va, .inl (xcI G, room, .inl vals)), (na, .inl (xcI G, 101, .inl nums))] : va_W).map (fun x => x.1), ¬ (q ∈ ([] : List Nat) ∨ sz ≤ q) := fun q hq z => z.elim (fun y => absurd y List.not_mem_nil) (fun y => absurd (x_lt hPo hq) (Nat.not_lt.mpr (by rw [hsz]; exact y)))
  have hP : va_P G.1 vwCl [] s.heap := fun k q h => by simp at h
  have hD : va_D (fun q => q ∈ ([] : List Nat) ∨ sz ≤ q) [] := ⟨fun i j p q h => by simp at h, fun k q h => by simp at h⟩
  have hl : lv_has ls 3 [(0, .ref a), (1, .int (nI mo))] := hl
  refine va_new (ci := 1) (fs := [.null, .null, .int (nI 0)]) (C := RX1) (T := TX1) (N := 3) hx hb hts hi_X1_copy_RX1 tyX1 tyX1_ok hown (hts _ hw_X1_copy_cl19) (hts _ hw_X1_copy_inRX1) (hts _ hw_X1_copy_itRX1) hK hP hD hS hAn rfl (fun j hj => by rcases (show j = 0 ∨ j = 1 ∨ j = 2 by omega) with rfl | rfl | rfl <;> rfl) (Nat.le_of_ble_eq_true rfl) (Nat.le_of_ble_eq_true rfl) dX1_copy_0 (fun q0 H hP hD hS => ?_)
  have hq0 : sz ≤ q0 := x_fresh hD (by simp)
  have hP : va_P G.1 vwCl [(q0, .inr (1, [.null, .null, .int (nI 0)]))] H := hP
  have hD : va_D (fun q => q ∈ ([] : List Nat) ∨ sz ≤ q) [(q0, .inr (1, [.null, .null, .int (nI 0)]))] := hD
  refine W.widen (k := 1) (n := 3) (Nat.le_of_ble_eq_true rfl) (Nat.le_of_ble_eq_true rfl) ?_
  refine lv_dup hx hb dX1_copy_3 rfl ?_
  refine lv_aload_n hx hb dX1_copy_4 rfl (lv_at hl 0 rfl) ?_
  refine va_get (D := G.1) (ci := 1) (v := .int (nI len)) (C := RX1) (T := TX1) (N := 3) hx hb hts hi_X1_copy_RX1 hown hK (x_ro hPo hS hPoA) 0 rfl rfl 2 (by decide) (hts _ hw_X1_copy_f33) (fun _ h9 => h9) rfl dX1_copy_5 ?_
  refine lv_iload_n hx hb dX1_copy_8 rfl (lv_at hl 1 rfl) ?_
  refine n_iadd hx hb dX1_copy_9 ?_
  have hup := x_up hS hsz
  have hPold := hP; have hDold := hD; have hSold := hS
  refine xwr (xrunI (As := [.int (nI (len + mo))]) (rest := [.ref q0]) S (c_X1_init l G q0 H.size (len + mo) (Nat.le_trans hsz0 hq0) (Nat.le_trans hsz0 (x_up hS hsz)) (x_lt hP (by simp)) (by omega)) (cwI 1 hts gX1_copy_X1_init rfl rfl rfl (hts _ hw_X1_copy_iX1_init) (hts _ hw_X1_copy_m37) (hts _ hw_X1_copy_vX1_init) rfl (by decide +kernel) ⟨Nat.le_of_ble_eq_true rfl, Nat.le_of_ble_eq_true rfl⟩) hE hS hA ⟨rfl, hP⟩ rfl rfl hl.1 (Nat.le_of_ble_eq_true rfl) dX1_copy_10 ⟨Nat.le_of_ble_eq_true rfl, Nat.le_of_ble_eq_true rfl⟩) hS (fun q h => h.elim (fun z => Or.inr (by rw [List.mem_singleton.mp z]; exact hq0)) (fun z => hAn q (Nat.le_trans hS.1 z))) (fun q h => h.elim (fun z => Or.inr (by rw [List.mem_singleton.mp z]; exact hq0)) (fun z => hAn q (Nat.le_trans hS.1 z))) (fun uw_ H locs hΨ hz hkp hS => ?_)
  obtain ⟨v1, v2⟩ := uw_
  obtain ⟨hP1, hdd1, hv_v1, hv_v2⟩ := hΨ
  have hv1 : sz ≤ v1 := Nat.le_trans hup hv_v1
  have hv2 : sz ≤ v2 := Nat.le_trans hup hv_v2
  have hP1 : va_P G.1 vwCl [(q0, .inr (1, [.ref v1, .ref v2, .int (nI 0)])), (v1, .inl (xcI G, capN (len + mo), .inl (fun _ => 0))), (v2, .inl (xcI G, 101, .inl (fillF (fun _ => 0) (-5) 101)))] H := hP1
  obtain ⟨hP, hD⟩ := x_joinA hPold hDold hSold hAn [0] [] (wc := [(q0, .inr (1, [.null, .null, .int (nI 0)]))]) (wr := []) (w1 := [(q0, .inr (1, [.ref v1, .ref v2, .int (nI 0)])), (v1, .inl (xcI G, capN (len + mo), .inl (fun _ => 0))), (v2, .inl (xcI G, 101, .inl (fillF (fun _ => 0) (-5) 101)))]) rfl rfl (by decide) (by decide) (fun q h1 h2 => hkp q h1 (fun z => z.elim h2 (fun y => absurd y (Nat.not_le.mpr h1)))) hP1 hdd1.1 (by simp only [List.map_cons, List.map_nil, List.mem_cons, List.not_mem_nil, or_false]; rintro q (rfl | rfl | rfl) <;> first | exact Or.inl rfl | exact Or.inr (by assumption) | simp)
  have hP : va_P G.1 vwCl [(q0, .inr (1, [.ref v1, .ref v2, .int (nI 0)])), (v1, .inl (xcI G, capN (len + mo), .inl (fun _ => 0))), (v2, .inl (xcI G, 101, .inl (fillF (fun _ => 0) (-5) 101)))] H := hP
  have hD : va_D (fun q => q ∈ ([] : List Nat) ∨ sz ≤ q) [(q0, .inr (1, [.ref v1, .ref v2, .int (nI 0)])), (v1, .inl (xcI G, capN (len + mo), .inl (fun _ => 0))), (v2, .inl (xcI G, 101, .inl (fillF (fun _ => 0) (-5) 101)))] := hD
  refine W.eq (g2 := F0 m 13 ls [.ref q0]) rfl ?_
  refine lv_astore_n (lv' := [(2, .ref q0), (0, .ref a), (1, .int (nI mo))]) hx hb dX1_copy_13 rfl hl (by decide) rfl (fun ls hl => ?_)
  refine lv_aload_n hx hb dX1_copy_14 rfl (lv_at hl 0 rfl) ?_
  refine lv_aload_n hx hb dX1_copy_15 rfl (lv_at hl 1 rfl) ?_
  refine xwr (xrunV (As := [.ref a]) (rest := []) S (c_X1_copyFrom l G q0 v1 v2 (capN (len + mo)) (fun _ => 0) (fillF (fun _ => 0) (-5) 101) 0 a va na room vals nums len hdd1 (fun q hq z => hPoA q hq (Or.inr (by simp only [List.mem_cons, List.not_mem_nil, or_false] at z; rcases z with rfl | rfl | rfl <;> assumption))) (by omega) hlr (by unfold capN; split <;> omega) (capN_le _) hro) (cwV 1 hts gX1_copy_X1_copyFrom rfl rfl rfl (by decide +kernel) ⟨Nat.le_of_ble_eq_true rfl, Nat.le_of_ble_eq_true rfl⟩) hE hS hA 0 1 hP rfl rfl rfl ⟨hP, (x_ro hPo hS hPoA)⟩ rfl rfl hl.1 (Nat.le_of_ble_eq_true rfl) dX1_copy_16 ⟨Nat.le_of_ble_eq_true rfl, Nat.le_of_ble_eq_true rfl⟩) hS (fun q h => Or.inr (by simp only [List.mem_cons, List.not_mem_nil, or_false] at h; rcases h with rfl | rfl | rfl <;> assumption)) (fun q h => Or.inr (by simp only [List.mem_cons, List.not_mem_nil, or_false] at h; rcases h with rfl | rfl | rfl <;> assumption)) (fun uw_ H locs hΨ hz hkp hS => ?_)
  have hP : va_P G.1 vwCl [(q0, .inr (1, [.ref v1, .ref v2, .int (nI len)])), (v1, .inl (xcI G, (capN (len + mo)), .inl (cpI (fun _ => 0) vals len))), (v2, .inl (xcI G, 101, .inl (cpI (fillF (fun _ => 0) (-5) 101) nums 101)))] H := hΨ
  have hD : va_D (fun q => q ∈ ([] : List Nat) ∨ sz ≤ q) [(q0, .inr (1, [.ref v1, .ref v2, .int (nI len)])), (v1, .inl (xcI G, (capN (len + mo)), .inl (cpI (fun _ => 0) vals len))), (v2, .inl (xcI G, 101, .inl (cpI (fillF (fun _ => 0) (-5) 101) nums 101)))] := (x_Dadr hD rfl)
  refine W.eq (g2 := F0 m 19 ls []) rfl ?_
  refine lv_aload_n hx hb dX1_copy_19 rfl (lv_at hl 0 rfl) ?_
  have hdd := xDis.of (B := xB0 G) hD (by simp only [List.map_cons, List.map_nil, List.mem_cons, List.not_mem_nil, or_false]; rintro q (rfl | rfl | rfl) <;> omega)
  exact xend_a (q0, v1, v2) hx hb hr (Or.inl ⟨_, rfl⟩) hlk_ hS (fun _ h => h) dX1_copy_20 rfl ⟨hP, hdd, hq0, hv1, hv2⟩ (Nat.le_refl _) (Nat.le_refl _)
