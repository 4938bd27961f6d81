theorem arrQ_ext {cA : ClassId} {n : Nat} {f g : Nat → Option Nat} (h : ∀ j, j < n → f j = g j) : vp_cell cA (n, .inr (.inr (.inr (.inr f)))) = vp_cell cA (n, .inr (.inr (.inr (.inr g)))) := by
  show arrV cA n (fun j => va_rf (f j)) = arrV cA n (fun j => va_rf (g j))
  unfold arrV
  exact congrArg (fun z => ({ cls := cA, slots := z, vm := .none } : Cell)) (congrArg Array.ofFn (funext fun j => by show va_rf (f j.val) = va_rf (g j.val); rw [h j.val j.isLt]))
theorem x_arrQ {D : va_G} {cl : List vw_C} {ws : va_W} {H : Heap} {a n : Nat} {cA : ClassId} {f g : Nat → Option Nat} (k : Nat) (hP : va_P D cl ws H) (hk : ws[k]? = some (a, .inl (cA, n, .inr (.inr (.inr (.inr f)))))) (h : ∀ j, j < n → f j = g j) : va_P D cl (ws.set k (a, .inl (cA, n, .inr (.inr (.inr (.inr g)))))) H := by
  intro j q hq
  by_cases hj : k = j
  · subst hj
    have hl : k < ws.length := (List.getElem?_eq_some_iff.mp hk).1
    rw [List.getElem?_set_self hl] at hq
    obtain rfl := Option.some.inj hq
    have h1 := hP k _ hk
    show H[a]? = some (vp_cell cA (n, .inr (.inr (.inr (.inr g)))))
    rw [← arrQ_ext h]
    exact h1
  · rw [List.getElem?_set_ne hj] at hq
    exact hP j q hq
def cpQ (f g : Nat → Option Nat) (i : Nat) : Nat → Option Nat := fun j => if j < i then g j else f j
theorem cpQ_0 (f g : Nat → Option Nat) : cpQ f g 0 = f := by
  funext j
  unfold cpQ
  rw [if_neg (by omega)]
theorem cpQ_s {f g : Nat → Option Nat} {i : Nat} {o : Option Nat} (h : g i = o) : va_up (cpQ f g i) i o = cpQ f g (i + 1) := by
  funext j
  unfold va_up cpQ
  by_cases h2 : j = i
  · rw [if_pos h2, if_pos (by omega), h2, h]
  · rw [if_neg h2]
    by_cases h3 : j < i
    · rw [if_pos h3, if_pos (by omega)]
    · rw [if_neg h3, if_neg (by omega)]
/-- which views a state has: each is a view's object, and lies elsewhere than the cells L -/
def vpl (G : xG) (L : List Nat) (vf : Nat → Option Nat) (H : Heap) : Prop := ∀ i, i < 24 → ∀ q, vf i = some q → q ∉ L ∧ ∃ fs, va_P G.1 vwCl [(q, .inr (4, fs))] H
def rwCp (r : Rw) (mo : Nat) : Rw := (capN (r.2.2.2 + mo), cpI (fun _ => 0) r.2.1 r.2.2.2, cpI (fillF (fun _ => 0) (-5) 101) r.2.2.1 101, r.2.2.2)
def rwWr (r : Rw) (q : Nat) (x : Int32) (next : Nat) (fo : Int32) : Rw := (r.1, upd r.2.1 q x, (wrN r.2.2.1 r.2.2.2 q next fo).1, if q = r.2.2.2 then r.2.2.2 + 1 else r.2.2.2)
def rwWrC (r : Rw) (q next : Nat) (fo : Int32) : Nat := (wrN r.2.2.1 r.2.2.2 q next fo).2
def rwRm (r : Rw) (next : Nat) (fo : Int32) : Rw := (r.1, r.2.1, (rmN r.2.2.1 r.2.2.2 next fo).1, r.2.2.2 - 1)
def rwRmC (r : Rw) (next : Nat) (fo : Int32) : Nat := (rmN r.2.2.1 r.2.2.2 next fo).2

theorem hw_X2_addView_f17 : Cond.fieldLink RX2 17 "TailVectors$State" "ever" "I" ∈ wsX2_addView := by decide +kernel
theorem hi_X2_addView_RX2 : ∀ w ∈ u_ws RX2 TX2 5, w ∈ wsX2_addView := by decide +kernel
theorem hw_X2_addView_f11 : Cond.fieldLink RX2 11 "TailVectors$State" "views" "[LTailVectors$View;" ∈ wsX2_addView := by decide +kernel
set_option maxHeartbeats 4000000 in
set_option maxRecDepth 100000 in
theorem c_X2_addView (l : Launch) (G : xG) (n0 : Nat) (nv : Nat) (vf : Nat → Option Nat) (ev : Nat) (md : Nat) (er : Option Nat) (fo : Int32) (pv : Nat) (ra : Nat) (w : Nat) (f : Nat) (mn : Nat) (hdis : xDis (xB0 G) [n0, nv]) (hev : ev < 24) (hpv : pv ∉ [n0, nv]) : Met l yX2_addView wsX2_addView ({ frames := 0, cells := 0, slots := 0, locals := 0 } : Room) (xPc G [.ref n0, .ref pv] (fun H => va_P G.1 vwCl [(n0, .inr (2, [.ref nv, .int (nI ev), .int (nI md), va_rf er, .int fo])), (nv, .inl (xcV G, 24, .inr (.inr (.inr (.inr vf)))))] H ∧ va_P G.1 vwCl [(pv, .inr (4, [.ref ra, .int (nI w), .int (nI f), .int (nI mn)]))] H)) (xQ (σ := Unit) (fun _ => some (.int (nI ev))) (fun _ H => va_P G.1 vwCl [(n0, .inr (2, [.ref nv, .int (nI (ev + 1)), .int (nI md), va_rf er, .int fo])), (nv, .inl (xcV G, 24, .inr (.inr (.inr (.inr (va_up vf ev (some pv)))))))] H) (fun q => q ∈ [n0, nv])) 0 0 (fun q => q ∈ [n0, nv]) := by
  refine xMet (cc := cX2_addView) (nL := 2) (ret := (some (.int))) (by decide) rfl (Nat.le_of_ble_eq_true rfl) ?_
  intro p e s m below meth c S hr hlk_ hnm hE hP ls hl
  obtain ⟨hx, hb, hml, hown, hts⟩ := id S
  have hown : s.vm.findClass RX2 = some m.cls := hown
  have hK := hE.1
  have hS : va_S (fun q => q ∈ [n0, nv]) s.heap s.heap [] := va_S.rf
  have hA : ∀ q, (fun q => q ∈ [n0, nv]) q → xB0 G ≤ q := hdis.2
  obtain ⟨hP, hV⟩ := hP
  have hVA : ∀ q ∈ ([(pv, .inr (4, [.ref ra, .int (nI w), .int (nI f), .int (nI mn)]))] : va_W).map (fun x => x.1), ¬ q ∈ [n0, nv] := fun q hq => by rw [List.mem_singleton.mp hq]; exact hpv
  have hP : va_P G.1 vwCl [(n0, .inr (2, [.ref nv, .int (nI ev), .int (nI md), va_rf er, .int fo])), (nv, .inl (xcV G, 24, .inr (.inr (.inr (.inr vf)))))] s.heap := hP
  have hD : va_D (fun q => q ∈ [n0, nv]) [(n0, .inr (2, [.ref nv, .int (nI ev), .int (nI md), va_rf er, .int fo])), (nv, .inl (xcV G, 24, .inr (.inr (.inr (.inr vf)))))] := (hdis.to rfl)
  have hl : lv_has ls 2 [(0, .ref n0), (1, .ref pv)] := hl
  refine lv_aload_n hx hb dX2_addView_0 rfl (lv_at hl 0 rfl) ?_
  refine va_get (D := G.1) (ci := 2) (v := .int (nI ev)) (C := RX2) (T := TX2) (N := 5) hx hb hts hi_X2_addView_RX2 hown hK hP 0 rfl rfl 1 (by decide) (hts _ hw_X2_addView_f17) (fun _ h9 => h9) rfl dX2_addView_1 ?_
  refine n_if_lt (tgt := 16) hx hb (by omega) dX2_addView_4 (by decide) (fun c_4 => ?_) (fun c_4 => ?_)
  · exact absurd c_4 (by omega)
  · refine lv_aload_n hx hb dX2_addView_7 rfl (lv_at hl 0 rfl) ?_
    refine va_get (D := G.1) (ci := 2) (v := .int (nI ev)) (C := RX2) (T := TX2) (N := 5) hx hb hts hi_X2_addView_RX2 hown hK hP 0 rfl rfl 1 (by decide) (hts _ hw_X2_addView_f17) (fun _ h9 => h9) rfl dX2_addView_8 ?_
    refine lv_bipush (v := nI 24) hx hb dX2_addView_11 (by decide) ?_
    refine n_icmp_lt (tgt := 19) hx hb (by omega) (by omega) dX2_addView_13 (by decide) (fun c_13 => ?_) (fun c_13 => ?_)
    · refine lv_aload_n hx hb dX2_addView_19 rfl (lv_at hl 0 rfl) ?_
      refine va_get (D := G.1) (ci := 2) (v := .ref nv) (C := RX2) (T := TX2) (N := 5) hx hb hts hi_X2_addView_RX2 hown hK hP 0 rfl rfl 0 (by decide) (hts _ hw_X2_addView_f11) (fun _ h9 => h9) rfl dX2_addView_20 ?_
      refine lv_aload_n hx hb dX2_addView_23 rfl (lv_at hl 0 rfl) ?_
      refine va_get (D := G.1) (ci := 2) (v := .int (nI ev)) (C := RX2) (T := TX2) (N := 5) hx hb hts hi_X2_addView_RX2 hown hK hP 0 rfl rfl 1 (by decide) (hts _ hw_X2_addView_f17) (fun _ h9 => h9) rfl dX2_addView_24 ?_
      refine lv_aload_n hx hb dX2_addView_27 rfl (lv_at hl 1 rfl) ?_
      refine q_aast (E := "TailVectors$View") hx hb hK hP hD hS 1 2 rfl rfl (x_any hK (x_ro hV hS hVA) (q0 := 0) (ci := 4) rfl rfl) (by omega) (by decide) dX2_addView_28 (fun H locs hP hD hS => ?_)
      have hP : va_P G.1 vwCl [(n0, .inr (2, [.ref nv, .int (nI ev), .int (nI md), va_rf er, .int fo])), (nv, .inl (xcV G, 24, .inr (.inr (.inr (.inr (va_up vf ev (some pv)))))))] H := hP
      have hD : va_D (fun q => q ∈ [n0, nv]) [(n0, .inr (2, [.ref nv, .int (nI ev), .int (nI md), va_rf er, .int fo])), (nv, .inl (xcV G, 24, .inr (.inr (.inr (.inr (va_up vf ev (some pv)))))))] := hD
      refine lv_aload_n hx hb dX2_addView_29 rfl (lv_at hl 0 rfl) ?_
      refine lv_dup hx hb dX2_addView_30 rfl ?_
      refine va_get (D := G.1) (ci := 2) (v := .int (nI ev)) (C := RX2) (T := TX2) (N := 5) hx hb hts hi_X2_addView_RX2 hown hK hP 0 rfl rfl 1 (by decide) (hts _ hw_X2_addView_f17) (fun _ h9 => h9) rfl dX2_addView_31 ?_
      refine lv_iconst (v := nI 1) hx hb dX2_addView_34 rfl ?_
      refine n_iadd hx hb dX2_addView_35 ?_
      refine va_put (D := G.1) (ci := 2) (v := .int (nI (ev + 1))) (ty := .int) (C := RX2) (T := TX2) (N := 5) hx hb hts hi_X2_addView_RX2 tyX2 tyX2_ok nmX2 hown hK hP hD hS 0 rfl rfl 1 (by decide) (hts _ hw_X2_addView_f17) (fun _ h9 => h9) rfl (by decide +kernel) rfl rfl (Nat.le_of_ble_eq_true rfl) dX2_addView_36 (fun H locs hP hD hS => ?_)
      have hP : va_P G.1 vwCl [(n0, .inr (2, [.ref nv, .int (nI (ev + 1)), .int (nI md), va_rf er, .int fo])), (nv, .inl (xcV G, 24, .inr (.inr (.inr (.inr (va_up vf ev (some pv)))))))] H := hP
      have hD : va_D (fun q => q ∈ [n0, nv]) [(n0, .inr (2, [.ref nv, .int (nI (ev + 1)), .int (nI md), va_rf er, .int fo])), (nv, .inl (xcV G, 24, .inr (.inr (.inr (.inr (va_up vf ev (some pv)))))))] := hD
      refine lv_aload_n hx hb dX2_addView_39 rfl (lv_at hl 0 rfl) ?_
      refine va_get (D := G.1) (ci := 2) (v := .int (nI (ev + 1))) (C := RX2) (T := TX2) (N := 5) hx hb hts hi_X2_addView_RX2 hown hK hP 0 rfl rfl 1 (by decide) (hts _ hw_X2_addView_f17) (fun _ h9 => h9) rfl dX2_addView_40 ?_
      refine lv_iconst (v := nI 1) hx hb dX2_addView_43 rfl ?_
      refine n_isub hx hb (by omega) dX2_addView_44 ?_
      refine n_top (y := nI ev) (by rw [Nat.add_sub_cancel]) ?_
      exact xend_i () hx hb hr hlk_ hS (fun _ h => h) dX2_addView_45 rfl hP (Nat.le_refl _) (Nat.le_refl _)
    · exact absurd c_13 (by omega)

theorem hw_X2_removeView_f11 : Cond.fieldLink RX2 11 "TailVectors$State" "views" "[LTailVectors$View;" ∈ wsX2_removeView := by decide +kernel
theorem hi_X2_removeView_RX2 : ∀ w ∈ u_ws RX2 TX2 5, w ∈ wsX2_removeView := by decide +kernel
set_option maxHeartbeats 4000000 in
set_option maxRecDepth 100000 in
theorem c_X2_removeView (l : Launch) (G : xG) (n0 : Nat) (nv : Nat) (vf : Nat → Option Nat) (ev : Nat) (md : Nat) (er : Option Nat) (fo : Int32) (i : Nat) (hdis : xDis (xB0 G) [n0, nv]) (hi : i < 24) : Met l yX2_removeView wsX2_removeView ({ frames := 0, cells := 0, slots := 0, locals := 0 } : Room) (xPc G [.ref n0, .int (nI i)] (fun H => va_P G.1 vwCl [(n0, .inr (2, [.ref nv, .int (nI ev), .int (nI md), va_rf er, .int fo])), (nv, .inl (xcV G, 24, .inr (.inr (.inr (.inr vf)))))] H)) (xQ (σ := Unit) (fun _ => none) (fun _ H => va_P G.1 vwCl [(n0, .inr (2, [.ref nv, .int (nI ev), .int (nI md), va_rf er, .int fo])), (nv, .inl (xcV G, 24, .inr (.inr (.inr (.inr (va_up vf i none))))))] H) (fun q => q ∈ [n0, nv])) 0 0 (fun q => q ∈ [n0, nv]) := by
  refine xMet (cc := cX2_removeView) (nL := 2) (ret := none) (by decide) rfl (Nat.le_of_ble_eq_true rfl) ?_
  intro p e s m below meth c S hr hlk_ hnm hE hP ls hl
  obtain ⟨hx, hb, hml, hown, hts⟩ := id S
  have hown : s.vm.findClass RX2 = some m.cls := hown
  have hK := hE.1
  have hS : va_S (fun q => q ∈ [n0, nv]) s.heap s.heap [] := va_S.rf
  have hA : ∀ q, (fun q => q ∈ [n0, nv]) q → xB0 G ≤ q := hdis.2
  have hP : va_P G.1 vwCl [(n0, .inr (2, [.ref nv, .int (nI ev), .int (nI md), va_rf er, .int fo])), (nv, .inl (xcV G, 24, .inr (.inr (.inr (.inr vf)))))] s.heap := hP
  have hD : va_D (fun q => q ∈ [n0, nv]) [(n0, .inr (2, [.ref nv, .int (nI ev), .int (nI md), va_rf er, .int fo])), (nv, .inl (xcV G, 24, .inr (.inr (.inr (.inr vf)))))] := (hdis.to rfl)
  have hl : lv_has ls 2 [(0, .ref n0), (1, .int (nI i))] := hl
  refine lv_iload_n hx hb dX2_removeView_0 rfl (lv_at hl 1 rfl) ?_
  refine n_if_lt (tgt := 17) hx hb (by omega) dX2_removeView_1 (by decide) (fun c_1 => ?_) (fun c_1 => ?_)
  · exact absurd c_1 (by omega)
  · refine lv_iload_n hx hb dX2_removeView_4 rfl (lv_at hl 1 rfl) ?_
    refine lv_bipush (v := nI 24) hx hb dX2_removeView_5 (by decide) ?_
    refine n_icmp_ge (tgt := 17) hx hb (by omega) (by omega) dX2_removeView_7 (by decide) (fun c_7 => ?_) (fun c_7 => ?_)
    · exact absurd c_7 (by omega)
    · refine lv_aload_n hx hb dX2_removeView_10 rfl (lv_at hl 0 rfl) ?_
      refine va_get (D := G.1) (ci := 2) (v := .ref nv) (C := RX2) (T := TX2) (N := 5) hx hb hts hi_X2_removeView_RX2 hown hK hP 0 rfl rfl 0 (by decide) (hts _ hw_X2_removeView_f11) (fun _ h9 => h9) rfl dX2_removeView_11 ?_
      refine lv_iload_n hx hb dX2_removeView_14 rfl (lv_at hl 1 rfl) ?_
      refine lv_null hx hb dX2_removeView_15 ?_
      refine q_aastN hx hb hK hP hD hS 1 2 rfl rfl (by omega) (by decide) dX2_removeView_16 (fun H locs hP hD hS => ?_)
      have hP : va_P G.1 vwCl [(n0, .inr (2, [.ref nv, .int (nI ev), .int (nI md), va_rf er, .int fo])), (nv, .inl (xcV G, 24, .inr (.inr (.inr (.inr (va_up vf i none))))))] H := hP
      have hD : va_D (fun q => q ∈ [n0, nv]) [(n0, .inr (2, [.ref nv, .int (nI ev), .int (nI md), va_rf er, .int fo])), (nv, .inl (xcV G, 24, .inr (.inr (.inr (.inr (va_up vf i none))))))] := hD
      exact xend_v () hx hb hr hlk_ hS (fun _ h => h) dX2_removeView_17 rfl hP (Nat.le_refl _) (Nat.le_refl _)

theorem hw_X2_beginEdit_f24 : Cond.fieldLink RX2 24 "TailVectors$State" "editRow" "LTailVectors$Row;" ∈ wsX2_beginEdit := by decide +kernel
theorem hi_X2_beginEdit_RX2 : ∀ w ∈ u_ws RX2 TX2 5, w ∈ wsX2_beginEdit := by decide +kernel
theorem hw_X2_beginEdit_f21 : Cond.fieldLink RX2 21 "TailVectors$State" "made" "I" ∈ wsX2_beginEdit := by decide +kernel
theorem hw_X2_beginEdit_f29 : Cond.fieldLink RX2 29 "TailVectors$State" "firstOwn" "I" ∈ wsX2_beginEdit := by decide +kernel
set_option maxHeartbeats 4000000 in
set_option maxRecDepth 100000 in
theorem c_X2_beginEdit (l : Launch) (G : xG) (n0 : Nat) (nv : Nat) (vf : Nat → Option Nat) (ev : Nat) (md : Nat) (er : Option Nat) (fo : Int32) (pr : Nat) (hdis : xDis (xB0 G) [n0, nv]) : Met l yX2_beginEdit wsX2_beginEdit ({ frames := 0, cells := 0, slots := 0, locals := 0 } : Room) (xPc G [.ref n0, .ref pr] (fun H => va_P G.1 vwCl [(n0, .inr (2, [.ref nv, .int (nI ev), .int (nI md), va_rf er, .int fo])), (nv, .inl (xcV G, 24, .inr (.inr (.inr (.inr vf)))))] H)) (xQ (σ := Unit) (fun _ => none) (fun _ H => va_P G.1 vwCl [(n0, .inr (2, [.ref nv, .int (nI ev), .int (nI md), .ref pr, .int (nI md)])), (nv, .inl (xcV G, 24, .inr (.inr (.inr (.inr vf)))))] H) (fun q => q ∈ [n0, nv])) 0 0 (fun q => q ∈ [n0, nv]) := by
  refine xMet (cc := cX2_beginEdit) (nL := 2) (ret := none) (by decide) rfl (Nat.le_of_ble_eq_true rfl) ?_
  intro p e s m below meth c S hr hlk_ hnm hE hP ls hl
  obtain ⟨hx, hb, hml, hown, hts⟩ := id S
  have hown : s.vm.findClass RX2 = some m.cls := hown
  have hK := hE.1
  have hS : va_S (fun q => q ∈ [n0, nv]) s.heap s.heap [] := va_S.rf
  have hA : ∀ q, (fun q => q ∈ [n0, nv]) q → xB0 G ≤ q := hdis.2
  have hP : va_P G.1 vwCl [(n0, .inr (2, [.ref nv, .int (nI ev), .int (nI md), va_rf er, .int fo])), (nv, .inl (xcV G, 24, .inr (.inr (.inr (.inr vf)))))] s.heap := hP
  have hD : va_D (fun q => q ∈ [n0, nv]) [(n0, .inr (2, [.ref nv, .int (nI ev), .int (nI md), va_rf er, .int fo])), (nv, .inl (xcV G, 24, .inr (.inr (.inr (.inr vf)))))] := (hdis.to rfl)
  have hl : lv_has ls 2 [(0, .ref n0), (1, .ref pr)] := hl
  refine lv_aload_n hx hb dX2_beginEdit_0 rfl (lv_at hl 0 rfl) ?_
  refine lv_aload_n hx hb dX2_beginEdit_1 rfl (lv_at hl 1 rfl) ?_
  refine va_put (D := G.1) (ci := 2) (v := .ref pr) (ty := (.object "TailVectors$Row")) (C := RX2) (T := TX2) (N := 5) hx hb hts hi_X2_beginEdit_RX2 tyX2 tyX2_ok nmX2 hown hK hP hD hS 0 rfl rfl 3 (by decide) (hts _ hw_X2_beginEdit_f24) (fun _ h9 => h9) rfl (by decide +kernel) rfl rfl (Nat.le_of_ble_eq_true rfl) dX2_beginEdit_2 (fun H locs hP hD hS => ?_)
  have hP : va_P G.1 vwCl [(n0, .inr (2, [.ref nv, .int (nI ev), .int (nI md), .ref pr, .int fo])), (nv, .inl (xcV G, 24, .inr (.inr (.inr (.inr vf)))))] H := hP
  have hD : va_D (fun q => q ∈ [n0, nv]) [(n0, .inr (2, [.ref nv, .int (nI ev), .int (nI md), .ref pr, .int fo])), (nv, .inl (xcV G, 24, .inr (.inr (.inr (.inr vf)))))] := hD
  refine lv_aload_n hx hb dX2_beginEdit_5 rfl (lv_at hl 0 rfl) ?_
  refine lv_aload_n hx hb dX2_beginEdit_6 rfl (lv_at hl 0 rfl) ?_
  refine va_get (D := G.1) (ci := 2) (v := .int (nI md)) (C := RX2) (T := TX2) (N := 5) hx hb hts hi_X2_beginEdit_RX2 hown hK hP 0 rfl rfl 2 (by decide) (hts _ hw_X2_beginEdit_f21) (fun _ h9 => h9) rfl dX2_beginEdit_7 ?_
  refine va_put (D := G.1) (ci := 2) (v := .int (nI md)) (ty := .int) (C := RX2) (T := TX2) (N := 5) hx hb hts hi_X2_beginEdit_RX2 tyX2 tyX2_ok nmX2 hown hK hP hD hS 0 rfl rfl 4 (by decide) (hts _ hw_X2_beginEdit_f29) (fun _ h9 => h9) rfl (by decide +kernel) rfl rfl (Nat.le_of_ble_eq_true rfl) dX2_beginEdit_10 (fun H locs hP hD hS => ?_)
  have hP : va_P G.1 vwCl [(n0, .inr (2, [.ref nv, .int (nI ev), .int (nI md), .ref pr, .int (nI md)])), (nv, .inl (xcV G, 24, .inr (.inr (.inr (.inr vf)))))] H := hP
  have hD : va_D (fun q => q ∈ [n0, nv]) [(n0, .inr (2, [.ref nv, .int (nI ev), .int (nI md), .ref pr, .int (nI md)])), (nv, .inl (xcV G, 24, .inr (.inr (.inr (.inr vf)))))] := hD
  exact xend_v () hx hb hr hlk_ hS (fun _ h => h) dX2_beginEdit_13 rfl hP (Nat.le_refl _) (Nat.le_refl _)

theorem hw_X2_endEdit_f24 : Cond.fieldLink RX2 24 "TailVectors$State" "editRow" "LTailVectors$Row;" ∈ wsX2_endEdit := by decide +kernel
theorem hi_X2_endEdit_RX2 : ∀ w ∈ u_ws RX2 TX2 5, w ∈ wsX2_endEdit := by decide +kernel
theorem hw_X2_endEdit_c28 : Cond.constant RX2 28 (2147483647) ∈ wsX2_endEdit := by decide +kernel
theorem hw_X2_endEdit_f29 : Cond.fieldLink RX2 29 "TailVectors$State" "firstOwn" "I" ∈ wsX2_endEdit := by decide +kernel
set_option maxHeartbeats 4000000 in
set_option maxRecDepth 100000 in
theorem c_X2_endEdit (l : Launch) (G : xG) (n0 : Nat) (nv : Nat) (vf : Nat → Option Nat) (ev : Nat) (md : Nat) (er : Option Nat) (fo : Int32) (hdis : xDis (xB0 G) [n0, nv]) : Met l yX2_endEdit wsX2_endEdit ({ frames := 0, cells := 0, slots := 0, locals := 0 } : Room) (xPc G [.ref n0] (fun H => va_P G.1 vwCl [(n0, .inr (2, [.ref nv, .int (nI ev), .int (nI md), va_rf er, .int fo])), (nv, .inl (xcV G, 24, .inr (.inr (.inr (.inr vf)))))] H)) (xQ (σ := Unit) (fun _ => none) (fun _ H => va_P G.1 vwCl [(n0, .inr (2, [.ref nv, .int (nI ev), .int (nI md), .null, .int (nI 2147483647)])), (nv, .inl (xcV G, 24, .inr (.inr (.inr (.inr vf)))))] H) (fun q => q ∈ [n0, nv])) 0 0 (fun q => q ∈ [n0, nv]) := by
  refine xMet (cc := cX2_endEdit) (nL := 1) (ret := none) (by decide) rfl (Nat.le_of_ble_eq_true rfl) ?_
  intro p e s m below meth c S hr hlk_ hnm hE hP ls hl
  obtain ⟨hx, hb, hml, hown, hts⟩ := id S
  have hown : s.vm.findClass RX2 = some m.cls := hown
  have hK := hE.1
  have hS : va_S (fun q => q ∈ [n0, nv]) s.heap s.heap [] := va_S.rf
  have hA : ∀ q, (fun q => q ∈ [n0, nv]) q → xB0 G ≤ q := hdis.2
  have hP : va_P G.1 vwCl [(n0, .inr (2, [.ref nv, .int (nI ev), .int (nI md), va_rf er, .int fo])), (nv, .inl (xcV G, 24, .inr (.inr (.inr (.inr vf)))))] s.heap := hP
  have hD : va_D (fun q => q ∈ [n0, nv]) [(n0, .inr (2, [.ref nv, .int (nI ev), .int (nI md), va_rf er, .int fo])), (nv, .inl (xcV G, 24, .inr (.inr (.inr (.inr vf)))))] := (hdis.to rfl)
  have hl : lv_has ls 1 [(0, .ref n0)] := hl
  refine lv_aload_n hx hb dX2_endEdit_0 rfl (lv_at hl 0 rfl) ?_
  refine lv_null hx hb dX2_endEdit_1 ?_
  refine va_put (D := G.1) (ci := 2) (v := .null) (ty := (.object "TailVectors$Row")) (C := RX2) (T := TX2) (N := 5) hx hb hts hi_X2_endEdit_RX2 tyX2 tyX2_ok nmX2 hown hK hP hD hS 0 rfl rfl 3 (by decide) (hts _ hw_X2_endEdit_f24) (fun _ h9 => h9) rfl (by decide +kernel) rfl rfl (Nat.le_of_ble_eq_true rfl) dX2_endEdit_2 (fun H locs hP hD hS => ?_)
  have hP : va_P G.1 vwCl [(n0, .inr (2, [.ref nv, .int (nI ev), .int (nI md), .null, .int fo])), (nv, .inl (xcV G, 24, .inr (.inr (.inr (.inr vf)))))] H := hP
  have hD : va_D (fun q => q ∈ [n0, nv]) [(n0, .inr (2, [.ref nv, .int (nI ev), .int (nI md), .null, .int fo])), (nv, .inl (xcV G, 24, .inr (.inr (.inr (.inr vf)))))] := hD
  refine lv_aload_n hx hb dX2_endEdit_5 rfl (lv_at hl 0 rfl) ?_
  refine lv_ldc (v := nI 2147483647) hx hb hown (hts _ hw_X2_endEdit_c28) dX2_endEdit_6 ?_
  refine va_put (D := G.1) (ci := 2) (v := .int (nI 2147483647)) (ty := .int) (C := RX2) (T := TX2) (N := 5) hx hb hts hi_X2_endEdit_RX2 tyX2 tyX2_ok nmX2 hown hK hP hD hS 0 rfl rfl 4 (by decide) (hts _ hw_X2_endEdit_f29) (fun _ h9 => h9) rfl (by decide +kernel) rfl rfl (Nat.le_of_ble_eq_true rfl) dX2_endEdit_8 (fun H locs hP hD hS => ?_)
  have hP : va_P G.1 vwCl [(n0, .inr (2, [.ref nv, .int (nI ev), .int (nI md), .null, .int (nI 2147483647)])), (nv, .inl (xcV G, 24, .inr (.inr (.inr (.inr vf)))))] H := hP
  have hD : va_D (fun q => q ∈ [n0, nv]) [(n0, .inr (2, [.ref nv, .int (nI ev), .int (nI md), .null, .int (nI 2147483647)])), (nv, .inl (xcV G, 24, .inr (.inr (.inr (.inr vf)))))] := hD
  exact xend_v () hx hb hr hlk_ hS (fun _ h => h) dX2_endEdit_11 rfl hP (Nat.le_refl _) (Nat.le_refl _)

theorem hw_X2_takeEditRow_f24 : Cond.fieldLink RX2 24 "TailVectors$State" "editRow" "LTailVectors$Row;" ∈ wsX2_takeEditRow := by decide +kernel
theorem hi_X2_takeEditRow_RX2 : ∀ w ∈ u_ws RX2 TX2 5, w ∈ wsX2_takeEditRow := by decide +kernel
theorem hw_X2_takeEditRow_f21 : Cond.fieldLink RX2 21 "TailVectors$State" "made" "I" ∈ wsX2_takeEditRow := by decide +kernel
set_option maxHeartbeats 4000000 in
set_option maxRecDepth 100000 in
theorem c_X2_takeEditRow (l : Launch) (G : xG) (n0 : Nat) (nv : Nat) (vf : Nat → Option Nat) (ev : Nat) (md : Nat) (er : Option Nat) (fo : Int32) (pr : Nat) (b : Nat) (hdis : xDis (xB0 G) [n0, nv]) : Met l yX2_takeEditRow wsX2_takeEditRow ({ frames := 0, cells := 0, slots := 0, locals := 0 } : Room) (xPc G [.ref n0, .ref pr, .int (nI b)] (fun H => va_P G.1 vwCl [(n0, .inr (2, [.ref nv, .int (nI ev), .int (nI md), va_rf er, .int fo])), (nv, .inl (xcV G, 24, .inr (.inr (.inr (.inr vf)))))] H)) (xQ (σ := Unit) (fun _ => some (.int (nI b))) (fun _ H => va_P G.1 vwCl [(n0, .inr (2, [.ref nv, .int (nI ev), .int (nI (md + b)), .ref pr, .int fo])), (nv, .inl (xcV G, 24, .inr (.inr (.inr (.inr vf)))))] H) (fun q => q ∈ [n0, nv])) 0 0 (fun q => q ∈ [n0, nv]) := by
  refine xMet (cc := cX2_takeEditRow) (nL := 3) (ret := (some (.int))) (by decide) rfl (Nat.le_of_ble_eq_true rfl) ?_
  intro p e s m below meth c S hr hlk_ hnm hE hP ls hl
  obtain ⟨hx, hb, hml, hown, hts⟩ := id S
  have hown : s.vm.findClass RX2 = some m.cls := hown
  have hK := hE.1
  have hS : va_S (fun q => q ∈ [n0, nv]) s.heap s.heap [] := va_S.rf
  have hA : ∀ q, (fun q => q ∈ [n0, nv]) q → xB0 G ≤ q := hdis.2
  have hP : va_P G.1 vwCl [(n0, .inr (2, [.ref nv, .int (nI ev), .int (nI md), va_rf er, .int fo])), (nv, .inl (xcV G, 24, .inr (.inr (.inr (.inr vf)))))] s.heap := hP
  have hD : va_D (fun q => q ∈ [n0, nv]) [(n0, .inr (2, [.ref nv, .int (nI ev), .int (nI md), va_rf er, .int fo])), (nv, .inl (xcV G, 24, .inr (.inr (.inr (.inr vf)))))] := (hdis.to rfl)
  have hl : lv_has ls 3 [(0, .ref n0), (1, .ref pr), (2, .int (nI b))] := hl
  refine lv_aload_n hx hb dX2_takeEditRow_0 rfl (lv_at hl 0 rfl) ?_
  refine lv_aload_n hx hb dX2_takeEditRow_1 rfl (lv_at hl 1 rfl) ?_
  refine va_put (D := G.1) (ci := 2) (v := .ref pr) (ty := (.object "TailVectors$Row")) (C := RX2) (T := TX2) (N := 5) hx hb hts hi_X2_takeEditRow_RX2 tyX2 tyX2_ok nmX2 hown hK hP hD hS 0 rfl rfl 3 (by decide) (hts _ hw_X2_takeEditRow_f24) (fun _ h9 => h9) rfl (by decide +kernel) rfl rfl (Nat.le_of_ble_eq_true rfl) dX2_takeEditRow_2 (fun H locs hP hD hS => ?_)
  have hP : va_P G.1 vwCl [(n0, .inr (2, [.ref nv, .int (nI ev), .int (nI md), .ref pr, .int fo])), (nv, .inl (xcV G, 24, .inr (.inr (.inr (.inr vf)))))] H := hP
  have hD : va_D (fun q => q ∈ [n0, nv]) [(n0, .inr (2, [.ref nv, .int (nI ev), .int (nI md), .ref pr, .int fo])), (nv, .inl (xcV G, 24, .inr (.inr (.inr (.inr vf)))))] := hD
  refine lv_aload_n hx hb dX2_takeEditRow_5 rfl (lv_at hl 0 rfl) ?_
  refine lv_dup hx hb dX2_takeEditRow_6 rfl ?_
  refine va_get (D := G.1) (ci := 2) (v := .int (nI md)) (C := RX2) (T := TX2) (N := 5) hx hb hts hi_X2_takeEditRow_RX2 hown hK hP 0 rfl rfl 2 (by decide) (hts _ hw_X2_takeEditRow_f21) (fun _ h9 => h9) rfl dX2_takeEditRow_7 ?_
  refine lv_iload_n hx hb dX2_takeEditRow_10 rfl (lv_at hl 2 rfl) ?_
  refine n_iadd hx hb dX2_takeEditRow_11 ?_
  refine va_put (D := G.1) (ci := 2) (v := .int (nI (md + b))) (ty := .int) (C := RX2) (T := TX2) (N := 5) hx hb hts hi_X2_takeEditRow_RX2 tyX2 tyX2_ok nmX2 hown hK hP hD hS 0 rfl rfl 2 (by decide) (hts _ hw_X2_takeEditRow_f21) (fun _ h9 => h9) rfl (by decide +kernel) rfl rfl (Nat.le_of_ble_eq_true rfl) dX2_takeEditRow_12 (fun H locs hP hD hS => ?_)
  have hP : va_P G.1 vwCl [(n0, .inr (2, [.ref nv, .int (nI ev), .int (nI (md + b)), .ref pr, .int fo])), (nv, .inl (xcV G, 24, .inr (.inr (.inr (.inr vf)))))] H := hP
  have hD : va_D (fun q => q ∈ [n0, nv]) [(n0, .inr (2, [.ref nv, .int (nI ev), .int (nI (md + b)), .ref pr, .int fo])), (nv, .inl (xcV G, 24, .inr (.inr (.inr (.inr vf)))))] := hD
  refine lv_iload_n hx hb dX2_takeEditRow_15 rfl (lv_at hl 2 rfl) ?_
  exact xend_i () hx hb hr hlk_ hS (fun _ h => h) dX2_takeEditRow_16 rfl hP (Nat.le_refl _) (Nat.le_refl _)

theorem hw_X2_copyFrom_f17 : Cond.fieldLink RX2 17 "TailVectors$State" "ever" "I" ∈ wsX2_copyFrom := by decide +kernel
theorem hi_X2_copyFrom_RX2 : ∀ w ∈ u_ws RX2 TX2 5, w ∈ wsX2_copyFrom := by decide +kernel
theorem hw_X2_copyFrom_f21 : Cond.fieldLink RX2 21 "TailVectors$State" "made" "I" ∈ wsX2_copyFrom := by decide +kernel
theorem hw_X2_copyFrom_f24 : Cond.fieldLink RX2 24 "TailVectors$State" "editRow" "LTailVectors$Row;" ∈ wsX2_copyFrom := by decide +kernel
theorem hw_X2_copyFrom_f29 : Cond.fieldLink RX2 29 "TailVectors$State" "firstOwn" "I" ∈ wsX2_copyFrom := by decide +kernel
theorem hw_X2_copyFrom_f11 : Cond.fieldLink RX2 11 "TailVectors$State" "views" "[LTailVectors$View;" ∈ wsX2_copyFrom := by decide +kernel
set_option maxHeartbeats 4000000 in
set_option maxRecDepth 100000 in
theorem c_X2_copyFrom (l : Launch) (G : xG) (n0 : Nat) (nv : Nat) (vf : Nat → Option Nat) (ev : Nat) (md : Nat) (er : Option Nat) (fo : Int32) (n2 : Nat) (nv2 : Nat) (vf2 : Nat → Option Nat) (ev2 : Nat) (md2 : Nat) (er2 : Option Nat) (fo2 : Int32) (hdis : xDis (xB0 G) [n0, nv]) (h2d : ∀ q ∈ [n2, nv2], q ∉ [n0, nv]) : Met l yX2_copyFrom wsX2_copyFrom ({ frames := 0, cells := 0, slots := 0, locals := 0 } : Room) (xPc G [.ref n0, .ref n2] (fun H => va_P G.1 vwCl [(n0, .inr (2, [.ref nv, .int (nI ev), .int (nI md), va_rf er, .int fo])), (nv, .inl (xcV G, 24, .inr (.inr (.inr (.inr vf)))))] H ∧ va_P G.1 vwCl [(n2, .inr (2, [.ref nv2, .int (nI ev2), .int (nI md2), va_rf er2, .int fo2])), (nv2, .inl (xcV G, 24, .inr (.inr (.inr (.inr vf2)))))] H ∧ vpl G [n0, nv] vf2 H)) (xQ (σ := Unit) (fun _ => none) (fun _ H => va_P G.1 vwCl [(n0, .inr (2, [.ref nv, .int (nI ev2), .int (nI md2), va_rf er2, .int fo2])), (nv, .inl (xcV G, 24, .inr (.inr (.inr (.inr vf2)))))] H) (fun q => q ∈ [n0, nv])) 0 0 (fun q => q ∈ [n0, nv]) := by
  refine xMet (cc := cX2_copyFrom) (nL := 3) (ret := none) (by decide) rfl (Nat.le_of_ble_eq_true rfl) ?_
  intro p e s m below meth c S hr hlk_ hnm hE hP ls hl
  obtain ⟨hx, hb, hml, hown, hts⟩ := id S
  have hown : s.vm.findClass RX2 = some m.cls := hown
  have hK := hE.1
  have hS : va_S (fun q => q ∈ [n0, nv]) s.heap s.heap [] := va_S.rf
  have hA : ∀ q, (fun q => q ∈ [n0, nv]) q → xB0 G ≤ q := hdis.2
  obtain ⟨hP, hO, hpl⟩ := hP
  have hOA : ∀ q ∈ ([(n2, .inr (2, [.ref nv2, .int (nI ev2), .int (nI md2), va_rf er2, .int fo2])), (nv2, .inl (xcV G, 24, .inr (.inr (.inr (.inr vf2)))))] : va_W).map (fun x => x.1), ¬ q ∈ [n0, nv] := h2d
  have hP : va_P G.1 vwCl [(n0, .inr (2, [.ref nv, .int (nI ev), .int (nI md), va_rf er, .int fo])), (nv, .inl (xcV G, 24, .inr (.inr (.inr (.inr vf)))))] s.heap := hP
  have hD : va_D (fun q => q ∈ [n0, nv]) [(n0, .inr (2, [.ref nv, .int (nI ev), .int (nI md), va_rf er, .int fo])), (nv, .inl (xcV G, 24, .inr (.inr (.inr (.inr vf)))))] := (hdis.to rfl)
  have hl : lv_has ls 3 [(0, .ref n0), (1, .ref n2)] := hl
  refine lv_iconst (v := nI 0) hx hb dX2_copyFrom_0 rfl ?_
  refine lv_istore_n (lv' := [(2, .int (nI 0)), (0, .ref n0), (1, .ref n2)]) hx hb dX2_copyFrom_1 rfl hl (by decide) rfl (fun ls hl => ?_)
  have hP : va_P G.1 vwCl [(n0, .inr (2, [.ref nv, .int (nI ev), .int (nI md), va_rf er, .int fo])), (nv, .inl (xcV G, 24, .inr (.inr (.inr (.inr (cpQ vf vf2 0))))))] s.heap := (by rw [cpQ_0]; exact hP)
  have hl : lv_has ls 3 [(2, .int (nI 0)), (0, .ref n0), (1, .ref n2)] := lv_sub hl [0, 1, 2] rfl
  refine xloop (σ := Nat) (C := (fun (x_ : Nat) H locs ls => (x_ ≤ 24) ∧ va_P G.1 vwCl [(n0, .inr (2, [.ref nv, .int (nI ev), .int (nI md), va_rf er, .int fo])), (nv, .inl (xcV G, 24, .inr (.inr (.inr (.inr (cpQ vf vf2 x_))))))] H ∧ va_S (fun q => q ∈ [n0, nv]) s.heap H locs ∧ lv_has ls 3 [(2, .int (nI x_)), (0, .ref n0), (1, .ref n2)])) (μ := (fun (x_ : Nat) => 24 - x_)) (W' := fun H locs ls => W p l e _ s m _ below meth c H locs _ _ _ (F0 m 2 ls [])) ?_ 0 _ _ _ ⟨(Nat.zero_le _), hP, hS, hl⟩
  intro x_ H locs ls hC ih_2
  obtain ⟨i, rfl⟩ : ∃ z, z = x_ := ⟨x_, rfl⟩
  obtain ⟨hi, hP, hS, hl⟩ := hC
  replace hi : i ≤ 24 := hi
  replace hP : va_P G.1 vwCl [(n0, .inr (2, [.ref nv, .int (nI ev), .int (nI md), va_rf er, .int fo])), (nv, .inl (xcV G, 24, .inr (.inr (.inr (.inr (cpQ vf vf2 i))))))] H := hP
  have hD : va_D (fun q => q ∈ [n0, nv]) [(n0, .inr (2, [.ref nv, .int (nI ev), .int (nI md), va_rf er, .int fo])), (nv, .inl (xcV G, 24, .inr (.inr (.inr (.inr (cpQ vf vf2 i))))))] := (hdis.to rfl)
  replace hl : lv_has ls 3 [(2, .int (nI i)), (0, .ref n0), (1, .ref n2)] := hl
  refine id ?_
  refine lv_iload_n hx hb dX2_copyFrom_2 rfl (lv_at hl 0 rfl) ?_
  refine lv_bipush (v := nI 24) hx hb dX2_copyFrom_3 (by decide) ?_
  refine n_icmp_ge (tgt := 26) hx hb (by omega) (by omega) dX2_copyFrom_5 (by decide) (fun c_5 => ?_) (fun c_5 => ?_)
  · have hi9 : i = 24 := by omega
    subst hi9
    have hP : va_P G.1 vwCl [(n0, .inr (2, [.ref nv, .int (nI ev), .int (nI md), va_rf er, .int fo])), (nv, .inl (xcV G, 24, .inr (.inr (.inr (.inr vf2)))))] H := x_arrQ 1 hP rfl (fun j hj => if_pos hj)
    have hD : va_D (fun q => q ∈ [n0, nv]) [(n0, .inr (2, [.ref nv, .int (nI ev), .int (nI md), va_rf er, .int fo])), (nv, .inl (xcV G, 24, .inr (.inr (.inr (.inr vf2)))))] := (hdis.to rfl)
    refine lv_aload_n hx hb dX2_copyFrom_26 rfl (lv_at hl 1 rfl) ?_
    refine lv_aload_n hx hb dX2_copyFrom_27 rfl (lv_at hl 2 rfl) ?_
    refine va_get (D := G.1) (ci := 2) (v := .int (nI ev2)) (C := RX2) (T := TX2) (N := 5) hx hb hts hi_X2_copyFrom_RX2 hown hK (x_ro hO hS hOA) 0 rfl rfl 1 (by decide) (hts _ hw_X2_copyFrom_f17) (fun _ h9 => h9) rfl dX2_copyFrom_28 ?_
    refine va_put (D := G.1) (ci := 2) (v := .int (nI ev2)) (ty := .int) (C := RX2) (T := TX2) (N := 5) hx hb hts hi_X2_copyFrom_RX2 tyX2 tyX2_ok nmX2 hown hK hP hD hS 0 rfl rfl 1 (by decide) (hts _ hw_X2_copyFrom_f17) (fun _ h9 => h9) rfl (by decide +kernel) rfl rfl (Nat.le_of_ble_eq_true rfl) dX2_copyFrom_31 (fun H locs hP hD hS => ?_)
    have hP : va_P G.1 vwCl [(n0, .inr (2, [.ref nv, .int (nI ev2), .int (nI md), va_rf er, .int fo])), (nv, .inl (xcV G, 24, .inr (.inr (.inr (.inr vf2)))))] H := hP
    have hD : va_D (fun q => q ∈ [n0, nv]) [(n0, .inr (2, [.ref nv, .int (nI ev2), .int (nI md), va_rf er, .int fo])), (nv, .inl (xcV G, 24, .inr (.inr (.inr (.inr vf2)))))] := hD
    refine lv_aload_n hx hb dX2_copyFrom_34 rfl (lv_at hl 1 rfl) ?_
    refine lv_aload_n hx hb dX2_copyFrom_35 rfl (lv_at hl 2 rfl) ?_
    refine va_get (D := G.1) (ci := 2) (v := .int (nI md2)) (C := RX2) (T := TX2) (N := 5) hx hb hts hi_X2_copyFrom_RX2 hown hK (x_ro hO hS hOA) 0 rfl rfl 2 (by decide) (hts _ hw_X2_copyFrom_f21) (fun _ h9 => h9) rfl dX2_copyFrom_36 ?_
    refine va_put (D := G.1) (ci := 2) (v := .int (nI md2)) (ty := .int) (C := RX2) (T := TX2) (N := 5) hx hb hts hi_X2_copyFrom_RX2 tyX2 tyX2_ok nmX2 hown hK hP hD hS 0 rfl rfl 2 (by decide) (hts _ hw_X2_copyFrom_f21) (fun _ h9 => h9) rfl (by decide +kernel) rfl rfl (Nat.le_of_ble_eq_true rfl) dX2_copyFrom_39 (fun H locs hP hD hS => ?_)
    have hP : va_P G.1 vwCl [(n0, .inr (2, [.ref nv, .int (nI ev2), .int (nI md2), va_rf er, .int fo])), (nv, .inl (xcV G, 24, .inr (.inr (.inr (.inr vf2)))))] H := hP
    have hD : va_D (fun q => q ∈ [n0, nv]) [(n0, .inr (2, [.ref nv, .int (nI ev2), .int (nI md2), va_rf er, .int fo])), (nv, .inl (xcV G, 24, .inr (.inr (.inr (.inr vf2)))))] := hD
    refine lv_aload_n hx hb dX2_copyFrom_42 rfl (lv_at hl 1 rfl) ?_
    refine lv_aload_n hx hb dX2_copyFrom_43 rfl (lv_at hl 2 rfl) ?_
    refine va_get (D := G.1) (ci := 2) (v := va_rf er2) (C := RX2) (T := TX2) (N := 5) hx hb hts hi_X2_copyFrom_RX2 hown hK (x_ro hO hS hOA) 0 rfl rfl 3 (by decide) (hts _ hw_X2_copyFrom_f24) (fun _ h9 => h9) rfl dX2_copyFrom_44 ?_
    refine va_put (D := G.1) (ci := 2) (v := va_rf er2) (ty := (.object "TailVectors$Row")) (C := RX2) (T := TX2) (N := 5) hx hb hts hi_X2_copyFrom_RX2 tyX2 tyX2_ok nmX2 hown hK hP hD hS 0 rfl rfl 3 (by decide) (hts _ hw_X2_copyFrom_f24) (fun _ h9 => h9) rfl (by decide +kernel) (by cases er2 <;> rfl) (by cases er2 <;> rfl) (Nat.le_of_ble_eq_true rfl) dX2_copyFrom_47 (fun H locs hP hD hS => ?_)
    have hP : va_P G.1 vwCl [(n0, .inr (2, [.ref nv, .int (nI ev2), .int (nI md2), va_rf er2, .int fo])), (nv, .inl (xcV G, 24, .inr (.inr (.inr (.inr vf2)))))] H := hP
    have hD : va_D (fun q => q ∈ [n0, nv]) [(n0, .inr (2, [.ref nv, .int (nI ev2), .int (nI md2), va_rf er2, .int fo])), (nv, .inl (xcV G, 24, .inr (.inr (.inr (.inr vf2)))))] := hD
    refine lv_aload_n hx hb dX2_copyFrom_50 rfl (lv_at hl 1 rfl) ?_
    refine lv_aload_n hx hb dX2_copyFrom_51 rfl (lv_at hl 2 rfl) ?_
    refine va_get (D := G.1) (ci := 2) (v := .int fo2) (C := RX2) (T := TX2) (N := 5) hx hb hts hi_X2_copyFrom_RX2 hown hK (x_ro hO hS hOA) 0 rfl rfl 4 (by decide) (hts _ hw_X2_copyFrom_f29) (fun _ h9 => h9) rfl dX2_copyFrom_52 ?_
    refine va_put (D := G.1) (ci := 2) (v := .int fo2) (ty := .int) (C := RX2) (T := TX2) (N := 5) hx hb hts hi_X2_copyFrom_RX2 tyX2 tyX2_ok nmX2 hown hK hP hD hS 0 rfl rfl 4 (by decide) (hts _ hw_X2_copyFrom_f29) (fun _ h9 => h9) rfl (by decide +kernel) rfl rfl (Nat.le_of_ble_eq_true rfl) dX2_copyFrom_55 (fun H locs hP hD hS => ?_)
    have hP : va_P G.1 vwCl [(n0, .inr (2, [.ref nv, .int (nI ev2), .int (nI md2), va_rf er2, .int fo2])), (nv, .inl (xcV G, 24, .inr (.inr (.inr (.inr vf2)))))] H := hP
    have hD : va_D (fun q => q ∈ [n0, nv]) [(n0, .inr (2, [.ref nv, .int (nI ev2), .int (nI md2), va_rf er2, .int fo2])), (nv, .inl (xcV G, 24, .inr (.inr (.inr (.inr vf2)))))] := hD
    exact xend_v () hx hb hr hlk_ hS (fun _ h => h) dX2_copyFrom_58 rfl hP (Nat.le_refl _) (Nat.le_refl _)
  · refine lv_aload_n hx hb dX2_copyFrom_8 rfl (lv_at hl 1 rfl) ?_
    refine va_get (D := G.1) (ci := 2) (v := .ref nv) (C := RX2) (T := TX2) (N := 5) hx hb hts hi_X2_copyFrom_RX2 hown hK hP 0 rfl rfl 0 (by decide) (hts _ hw_X2_copyFrom_f11) (fun _ h9 => h9) rfl dX2_copyFrom_9 ?_
    refine lv_iload_n hx hb dX2_copyFrom_12 rfl (lv_at hl 0 rfl) ?_
    refine lv_aload_n hx hb dX2_copyFrom_13 rfl (lv_at hl 2 rfl) ?_
    refine va_get (D := G.1) (ci := 2) (v := .ref nv2) (C := RX2) (T := TX2) (N := 5) hx hb hts hi_X2_copyFrom_RX2 hown hK (x_ro hO hS hOA) 0 rfl rfl 0 (by decide) (hts _ hw_X2_copyFrom_f11) (fun _ h9 => h9) rfl dX2_copyFrom_14 ?_
    refine lv_iload_n hx hb dX2_copyFrom_17 rfl (lv_at hl 0 rfl) ?_
    refine q_aald hx hb hK (x_ro hO hS hOA) 1 2 rfl rfl (by omega) (by decide) dX2_copyFrom_18 ?_
    rcases hv : vf2 i with _ | q
    · refine W.eq (g2 := F0 m 19 ls [.null, .int (nI i), .ref nv]) rfl ?_
      refine q_aastN hx hb hK hP hD hS 1 2 rfl rfl (by omega) (by decide) dX2_copyFrom_19 (fun H locs hP hD hS => ?_)
      have hP : va_P G.1 vwCl [(n0, .inr (2, [.ref nv, .int (nI ev), .int (nI md), va_rf er, .int fo])), (nv, .inl (xcV G, 24, .inr (.inr (.inr (.inr (va_up (cpQ vf vf2 i) i none))))))] H := hP
      have hD : va_D (fun q => q ∈ [n0, nv]) [(n0, .inr (2, [.ref nv, .int (nI ev), .int (nI md), va_rf er, .int fo])), (nv, .inl (xcV G, 24, .inr (.inr (.inr (.inr (va_up (cpQ vf vf2 i) i none))))))] := hD
      refine lv_iinc (v := nI (i + 1)) (lv' := [(2, .int (nI (i + 1))), (0, .ref n0), (1, .ref n2)]) hx hb dX2_copyFrom_20 hl (k := 0) rfl (nI_add i 1) (by decide) rfl (fun ls hl => ?_)
      refine lv_goto (tgt := 2) hx hb dX2_copyFrom_23 (by decide) ?_
      have hl : lv_has ls 3 [(2, .int (nI (i + 1))), (0, .ref n0), (1, .ref n2)] := lv_sub hl [0, 1, 2] rfl
      have hP : va_P G.1 vwCl [(n0, .inr (2, [.ref nv, .int (nI ev), .int (nI md), va_rf er, .int fo])), (nv, .inl (xcV G, 24, .inr (.inr (.inr (.inr (cpQ vf vf2 (i + 1)))))))] H := (by rw [← cpQ_s hv]; exact hP)
      exact ih_2 (i + 1) _ _ _ (by show 24 - (i + 1) < 24 - i; omega) ⟨(by (try dsimp only); omega), hP, hS, hl⟩
    · refine W.eq (g2 := F0 m 19 ls [.ref q, .int (nI i), .ref nv]) rfl ?_
      obtain ⟨hq1, fs9, hq2⟩ := hpl i (by omega) q hv
      refine q_aast (E := "TailVectors$View") hx hb hK hP hD hS 1 2 rfl rfl (x_any hK (x_ro hq2 hS (fun z hz => by rw [List.mem_singleton.mp hz]; exact hq1)) (q0 := 0) (ci := 4) rfl rfl) (by omega) (by decide) dX2_copyFrom_19 (fun H locs hP hD hS => ?_)
      have hP : va_P G.1 vwCl [(n0, .inr (2, [.ref nv, .int (nI ev), .int (nI md), va_rf er, .int fo])), (nv, .inl (xcV G, 24, .inr (.inr (.inr (.inr (va_up (cpQ vf vf2 i) i (some q)))))))] H := hP
      have hD : va_D (fun q => q ∈ [n0, nv]) [(n0, .inr (2, [.ref nv, .int (nI ev), .int (nI md), va_rf er, .int fo])), (nv, .inl (xcV G, 24, .inr (.inr (.inr (.inr (va_up (cpQ vf vf2 i) i (some q)))))))] := hD
      refine lv_iinc (v := nI (i + 1)) (lv' := [(2, .int (nI (i + 1))), (0, .ref n0), (1, .ref n2)]) hx hb dX2_copyFrom_20 hl (k := 0) rfl (nI_add i 1) (by decide) rfl (fun ls hl => ?_)
      refine lv_goto (tgt := 2) hx hb dX2_copyFrom_23 (by decide) ?_
      have hl : lv_has ls 3 [(2, .int (nI (i + 1))), (0, .ref n0), (1, .ref n2)] := lv_sub hl [0, 1, 2] rfl
      have hP : va_P G.1 vwCl [(n0, .inr (2, [.ref nv, .int (nI ev), .int (nI md), va_rf er, .int fo])), (nv, .inl (xcV G, 24, .inr (.inr (.inr (.inr (cpQ vf vf2 (i + 1)))))))] H := (by rw [← cpQ_s hv]; exact hP)
      exact ih_2 (i + 1) _ _ _ (by show 24 - (i + 1) < 24 - i; omega) ⟨(by (try dsimp only); omega), hP, hS, hl⟩

set_option maxHeartbeats 4000000 in
set_option maxRecDepth 100000 in
theorem c_X2_takeEditRow_o (l : Launch) (G : xG) (n0 : Nat) (nv : Nat) (ev : Nat) (md : Nat) (er : Option Nat) (fo : Int32) (pr : Nat) (b : Nat) (hn0 : xB0 G ≤ n0) : Met l yX2_takeEditRow wsX2_takeEditRow ({ frames := 0, cells := 0, slots := 0, locals := 0 } : Room) (xPc G [.ref n0, .ref pr, .int (nI b)] (fun H => va_P G.1 vwCl [(n0, .inr (2, [.ref nv, .int (nI ev), .int (nI md), va_rf er, .int fo]))] H)) (xQ (σ := Unit) (fun _ => some (.int (nI b))) (fun _ H => va_P G.1 vwCl [(n0, .inr (2, [.ref nv, .int (nI ev), .int (nI (md + b)), .ref pr, .int fo]))] H) (fun q => q ∈ [n0])) 0 0 (fun q => q ∈ [n0]) := by
  refine xMet (cc := cX2_takeEditRow) (nL := 3) (ret := (some (.int))) (by decide) rfl (Nat.le_of_ble_eq_true rfl) ?_
  intro p e s m below meth c S hr hlk_ hnm hE hP ls hl
  obtain ⟨hx, hb, hml, hown, hts⟩ := id S
  have hown : s.vm.findClass RX2 = some m.cls := hown
  have hK := hE.1
  have hS : va_S (fun q => q ∈ [n0]) s.heap s.heap [] := va_S.rf
  have hA : ∀ q, (fun q => q ∈ [n0]) q → xB0 G ≤ q := (fun q h => by rw [List.mem_singleton.mp h]; exact hn0)
  have hP : va_P G.1 vwCl [(n0, .inr (2, [.ref nv, .int (nI ev), .int (nI md), va_rf er, .int fo]))] s.heap := hP
  have hD : va_D (fun q => q ∈ [n0]) [(n0, .inr (2, [.ref nv, .int (nI ev), .int (nI md), va_rf er, .int fo]))] := ⟨fun i j p q hi hj _ => by have := (List.getElem?_eq_some_iff.mp hi).1; have := (List.getElem?_eq_some_iff.mp hj).1; simp at *; omega, fun k q hk => by have := List.mem_of_getElem? hk; simp at this; rw [this]; exact List.mem_singleton.mpr rfl⟩
  have hl : lv_has ls 3 [(0, .ref n0), (1, .ref pr), (2, .int (nI b))] := hl
  refine lv_aload_n hx hb dX2_takeEditRow_0 rfl (lv_at hl 0 rfl) ?_
  refine lv_aload_n hx hb dX2_takeEditRow_1 rfl (lv_at hl 1 rfl) ?_
  refine va_put (D := G.1) (ci := 2) (v := .ref pr) (ty := (.object "TailVectors$Row")) (C := RX2) (T := TX2) (N := 5) hx hb hts hi_X2_takeEditRow_RX2 tyX2 tyX2_ok nmX2 hown hK hP hD hS 0 rfl rfl 3 (by decide) (hts _ hw_X2_takeEditRow_f24) (fun _ h9 => h9) rfl (by decide +kernel) rfl rfl (Nat.le_of_ble_eq_true rfl) dX2_takeEditRow_2 (fun H locs hP hD hS => ?_)
  have hP : va_P G.1 vwCl [(n0, .inr (2, [.ref nv, .int (nI ev), .int (nI md), .ref pr, .int fo]))] H := hP
  have hD : va_D (fun q => q ∈ [n0]) [(n0, .inr (2, [.ref nv, .int (nI ev), .int (nI md), .ref pr, .int fo]))] := hD
  refine lv_aload_n hx hb dX2_takeEditRow_5 rfl (lv_at hl 0 rfl) ?_
  refine lv_dup hx hb dX2_takeEditRow_6 rfl ?_
  refine va_get (D := G.1) (ci := 2) (v := .int (nI md)) (C := RX2) (T := TX2) (N := 5) hx hb hts hi_X2_takeEditRow_RX2 hown hK hP 0 rfl rfl 2 (by decide) (hts _ hw_X2_takeEditRow_f21) (fun _ h9 => h9) rfl dX2_takeEditRow_7 ?_
  refine lv_iload_n hx hb dX2_takeEditRow_10 rfl (lv_at hl 2 rfl) ?_
  refine n_iadd hx hb dX2_takeEditRow_11 ?_
  refine va_put (D := G.1) (ci := 2) (v := .int (nI (md + b))) (ty := .int) (C := RX2) (T := TX2) (N := 5) hx hb hts hi_X2_takeEditRow_RX2 tyX2 tyX2_ok nmX2 hown hK hP hD hS 0 rfl rfl 2 (by decide) (hts _ hw_X2_takeEditRow_f21) (fun _ h9 => h9) rfl (by decide +kernel) rfl rfl (Nat.le_of_ble_eq_true rfl) dX2_takeEditRow_12 (fun H locs hP hD hS => ?_)
  have hP : va_P G.1 vwCl [(n0, .inr (2, [.ref nv, .int (nI ev), .int (nI (md + b)), .ref pr, .int fo]))] H := hP
  have hD : va_D (fun q => q ∈ [n0]) [(n0, .inr (2, [.ref nv, .int (nI ev), .int (nI (md + b)), .ref pr, .int fo]))] := hD
  refine lv_iload_n hx hb dX2_takeEditRow_15 rfl (lv_at hl 2 rfl) ?_
  exact xend_i () hx hb hr hlk_ hS (fun _ h => h) dX2_takeEditRow_16 rfl hP (Nat.le_refl _) (Nat.le_refl _)

theorem hw_X2_rowWith_f21 : Cond.fieldLink RX2 21 "TailVectors$State" "made" "I" ∈ wsX2_rowWith := by decide +kernel
theorem hi_X2_rowWith_RX2 : ∀ w ∈ u_ws RX2 TX2 5, w ∈ wsX2_rowWith := by decide +kernel
theorem hw_X2_rowWith_c28 : Cond.constant RX2 28 (2147483647) ∈ wsX2_rowWith := by decide +kernel
set_option maxHeartbeats 4000000 in
set_option maxRecDepth 100000 in
theorem c_X2_rowWith (l : Launch) (G : xG) (n0 : Nat) (nv : Nat) (ev : Nat) (md : Nat) (er : Option Nat) (fo : Int32) (rx : Nat) (vx : Nat) (nx : Nat) (r : Rw) (sz : Nat) (q : Nat) (x : Int32) (hn0 : xB0 G ≤ n0) (hsz0 : xB0 G ≤ sz) (hxn : ∀ q ∈ [rx, vx, nx], q ∉ [n0]) (hokr : okR r) (hql : q ≤ r.2.2.2) (hq3 : q < 300) : Met l yX2_rowWith wsX2_rowWith ({ frames := 4, cells := 3, slots := 404, locals := 97 } : Room) (xPc G [.ref n0, .ref rx, .int (nI q), .int x] (fun H => H.size = sz ∧ va_P G.1 vwCl [(n0, .inr (2, [.ref nv, .int (nI ev), .int (nI md), va_rf er, .int fo]))] H ∧ va_P G.1 vwCl [(rx, .inr (1, [.ref vx, .ref nx, .int (nI r.2.2.2)])), (vx, .inl (xcI G, r.1, .inl r.2.1)), (nx, .inl (xcI G, 101, .inl r.2.2.1))] H)) (xQ (σ := (Nat × Nat × Nat)) (fun u => some (.ref u.1)) (fun u H => va_P G.1 vwCl [(n0, .inr (2, [.ref nv, .int (nI ev), .int (nI (md + rwWrC (rwCp r 1) q md (nI 2147483647))), va_rf er, .int fo])), (u.1, .inr (1, [.ref u.2.1, .ref u.2.2, .int (nI ((rwWr (rwCp r 1) q x md (nI 2147483647)).2.2.2))])), (u.2.1, .inl (xcI G, (rwWr (rwCp r 1) q x md (nI 2147483647)).1, .inl ((rwWr (rwCp r 1) q x md (nI 2147483647)).2.1))), (u.2.2, .inl (xcI G, 101, .inl ((rwWr (rwCp r 1) q x md (nI 2147483647)).2.2.1)))] H ∧ xDis (xB0 G) [n0, u.1, u.2.1, u.2.2] ∧ sz ≤ u.1 ∧ sz ≤ u.2.1 ∧ sz ≤ u.2.2) (fun q => q ∈ [n0] ∨ sz ≤ q)) 3 404 (fun q => q ∈ [n0] ∨ sz ≤ q) := by
  refine xMet (cc := cX2_rowWith) (nL := 5) (ret := (some ((.object "TailVectors$Row")))) (by decide) rfl (Nat.le_of_ble_eq_true rfl) ?_
  intro p e s m below meth c S hr hlk_ hnm hE hP ls hl
  obtain ⟨hx, hb, hml, hown, hts⟩ := id S
  have hown : s.vm.findClass RX2 = some m.cls := hown
  have hK := hE.1
  have hS : va_S (fun q => q ∈ [n0] ∨ sz ≤ q) s.heap s.heap [] := va_S.rf
  have hA : ∀ q, (fun q => q ∈ [n0] ∨ sz ≤ q) q → xB0 G ≤ q := (fun q h => h.elim (fun z => by rw [List.mem_singleton.mp z]; exact hn0) (fun z => Nat.le_trans hsz0 z))
  obtain ⟨hsz, hP, hPo⟩ := hP
  have hPo : va_P G.1 vwCl [(rx, .inr (1, [.ref vx, .ref nx, .int (nI r.2.2.2)])), (vx, .inl (xcI G, r.1, .inl r.2.1)), (nx, .inl (xcI G, 101, .inl r.2.2.1))] s.heap := hPo
  have hAn : ∀ q, s.heap.size ≤ q → (fun q => q ∈ [n0] ∨ sz ≤ q) q := fun q h => Or.inr (by rw [← hsz]; exact h)
  obtain ⟨hk1, hk2, hk3⟩ := hokr
  have hPoA : ∀ q ∈ ([(rx, .inr (1, [.ref vx, .ref nx, .int (nI r.2.2.2)])), (vx, .inl (xcI G, r.1, .inl r.2.1)), (nx, .inl (xcI G, 101, .inl r.2.2.1))] : va_W).map (fun x => x.1), ¬ (q ∈ [n0] ∨ sz ≤ q) := fun q hq z => z.elim (hxn q hq) (fun y => absurd (x_lt hPo hq) (Nat.not_lt.mpr (by rw [hsz]; exact y)))
  have hP : va_P G.1 vwCl [(n0, .inr (2, [.ref nv, .int (nI ev), .int (nI md), va_rf er, .int fo]))] s.heap := hP
  have hD : va_D (fun q => q ∈ [n0] ∨ sz ≤ q) [(n0, .inr (2, [.ref nv, .int (nI ev), .int (nI md), va_rf er, .int fo]))] := ⟨fun i j p q hi hj _ => by have := (List.getElem?_eq_some_iff.mp hi).1; have := (List.getElem?_eq_some_iff.mp hj).1; simp at *; omega, fun k q hk => by have := List.mem_of_getElem? hk; simp at this; rw [this]; exact Or.inl (List.mem_singleton.mpr rfl)⟩
  have hl : lv_has ls 5 [(0, .ref n0), (1, .ref rx), (2, .int (nI q)), (3, .int x)] := hl
  refine lv_aload_n hx hb dX2_rowWith_0 rfl (lv_at hl 1 rfl) ?_
  refine lv_iconst (v := nI 1) hx hb dX2_rowWith_1 rfl ?_
  have hup := x_up hS hsz
  have hPold := hP; have hDold := hD; have hSold := hS
  refine xwr (xrunV (As := [.int (nI 1)]) (rest := []) S (c_X1_copy l G rx vx nx r.1 r.2.1 r.2.2.1 r.2.2.2 s.heap.size 1 (by rw [hsz]; exact hsz0) (by omega) hk1 hk2 hk3) (cwV 1 hts gX2_rowWith_X1_copy rfl rfl rfl (by decide +kernel) ⟨Nat.le_of_ble_eq_true rfl, Nat.le_of_ble_eq_true rfl⟩) hE hS hA 0 1 (x_ro hPo hS hPoA) rfl rfl rfl ⟨rfl, hPo⟩ rfl rfl hl.1 (Nat.le_of_ble_eq_true rfl) dX2_rowWith_2 ⟨Nat.le_of_ble_eq_true rfl, Nat.le_of_ble_eq_true rfl⟩) hS (fun q h => h.elim (fun z => absurd z List.not_mem_nil) (fun z => hAn q (Nat.le_trans hS.1 z))) (fun q h => h.elim (fun z => absurd z List.not_mem_nil) (fun z => hAn q (Nat.le_trans hS.1 z))) (fun uw_ H locs hΨ hz hkp hS => ?_)
  obtain ⟨v1, v2, v3⟩ := uw_
  obtain ⟨hP1, hdd1, hv_v1, hv_v2, hv_v3⟩ := hΨ
  have hv1 : sz ≤ v1 := Nat.le_trans hup hv_v1
  have hv2 : sz ≤ v2 := Nat.le_trans hup hv_v2
  have hv3 : sz ≤ v3 := Nat.le_trans hup hv_v3
  have hP1 : va_P G.1 vwCl [(v1, .inr (1, [.ref v2, .ref v3, .int (nI r.2.2.2)])), (v2, .inl (xcI G, capN (r.2.2.2 + 1), .inl (cpI (fun _ => 0) r.2.1 r.2.2.2))), (v3, .inl (xcI G, 101, .inl (cpI (fillF (fun _ => 0) (-5) 101) r.2.2.1 101)))] H := hP1
  obtain ⟨hP, hD⟩ := x_joinA hPold hDold hSold hAn [] [0] (wc := []) (wr := [(n0, .inr (2, [.ref nv, .int (nI ev), .int (nI md), va_rf er, .int fo]))]) (w1 := [(v1, .inr (1, [.ref v2, .ref v3, .int (nI r.2.2.2)])), (v2, .inl (xcI G, capN (r.2.2.2 + 1), .inl (cpI (fun _ => 0) r.2.1 r.2.2.2))), (v3, .inl (xcI G, 101, .inl (cpI (fillF (fun _ => 0) (-5) 101) r.2.2.1 101)))]) rfl rfl (by decide) (by decide) (fun q h1 h2 => hkp q h1 (fun z => z.elim (fun y => absurd y List.not_mem_nil) (fun y => absurd y (Nat.not_le.mpr h1)))) hP1 hdd1.1 (by simp only [List.map_cons, List.map_nil, List.mem_cons, List.not_mem_nil, or_false]; rintro q (rfl | rfl | rfl) <;> first | exact Or.inl rfl | exact Or.inr (by assumption) | simp)
  have hP : va_P G.1 vwCl [(n0, .inr (2, [.ref nv, .int (nI ev), .int (nI md), va_rf er, .int fo])), (v1, .inr (1, [.ref v2, .ref v3, .int (nI r.2.2.2)])), (v2, .inl (xcI G, capN (r.2.2.2 + 1), .inl (cpI (fun _ => 0) r.2.1 r.2.2.2))), (v3, .inl (xcI G, 101, .inl (cpI (fillF (fun _ => 0) (-5) 101) r.2.2.1 101)))] H := hP
  have hD : va_D (fun q => q ∈ [n0] ∨ sz ≤ q) [(n0, .inr (2, [.ref nv, .int (nI ev), .int (nI md), va_rf er, .int fo])), (v1, .inr (1, [.ref v2, .ref v3, .int (nI r.2.2.2)])), (v2, .inl (xcI G, capN (r.2.2.2 + 1), .inl (cpI (fun _ => 0) r.2.1 r.2.2.2))), (v3, .inl (xcI G, 101, .inl (cpI (fillF (fun _ => 0) (-5) 101) r.2.2.1 101)))] := hD
  refine W.eq (g2 := F0 m 5 ls [.ref v1]) rfl ?_
  refine lv_astore (lv' := [(4, .ref v1), (0, .ref n0), (1, .ref rx), (2, .int (nI q)), (3, .int x)]) hx hb dX2_rowWith_5 hl (by decide) rfl (fun ls hl => ?_)
  refine lv_aload_n hx hb dX2_rowWith_7 rfl (lv_at hl 1 rfl) ?_
  refine lv_dup hx hb dX2_rowWith_8 rfl ?_
  refine va_get (D := G.1) (ci := 2) (v := .int (nI md)) (C := RX2) (T := TX2) (N := 5) hx hb hts hi_X2_rowWith_RX2 hown hK hP 0 rfl rfl 2 (by decide) (hts _ hw_X2_rowWith_f21) (fun _ h9 => h9) rfl dX2_rowWith_9 ?_
  refine lv_aload hx hb dX2_rowWith_12 (lv_at hl 0 rfl) ?_
  refine lv_iload_n hx hb dX2_rowWith_14 rfl (lv_at hl 3 rfl) ?_
  refine lv_iload_n hx hb dX2_rowWith_15 rfl (lv_at hl 4 rfl) ?_
  refine lv_aload_n hx hb dX2_rowWith_16 rfl (lv_at hl 1 rfl) ?_
  refine va_get (D := G.1) (ci := 2) (v := .int (nI md)) (C := RX2) (T := TX2) (N := 5) hx hb hts hi_X2_rowWith_RX2 hown hK hP 0 rfl rfl 2 (by decide) (hts _ hw_X2_rowWith_f21) (fun _ h9 => h9) rfl dX2_rowWith_17 ?_
  refine lv_ldc (v := nI 2147483647) hx hb hown (hts _ hw_X2_rowWith_c28) dX2_rowWith_20 ?_
  have hd3 : xDis (xB0 G) [v1, v2, v3] := hdd1
  refine xwr (xrunV (As := [.int (nI q), .int x, .int (nI md), .int (nI 2147483647)]) (rest := [.int (nI md), .ref n0]) S (c_X1_write l G v1 v2 v3 (capN (r.2.2.2 + 1)) (cpI (fun _ => 0) r.2.1 r.2.2.2) (cpI (fillF (fun _ => 0) (-5) 101) r.2.2.1 101) r.2.2.2 q x md (nI 2147483647) hd3 hql (by unfold capN; split <;> omega) (capN_le _) hk1) (cwV 4 hts gX2_rowWith_X1_write rfl rfl rfl (by decide +kernel) ⟨Nat.le_of_ble_eq_true rfl, Nat.le_of_ble_eq_true rfl⟩) hE hS hA 1 1 hP rfl rfl rfl (hP.sub [1, 2, 3] rfl) rfl rfl hl.1 (Nat.le_of_ble_eq_true rfl) dX2_rowWith_22 ⟨Nat.le_of_ble_eq_true rfl, Nat.le_of_ble_eq_true rfl⟩) hS (fun q h => Or.inr (by simp only [List.mem_cons, List.not_mem_nil, or_false] at h; rcases h with rfl | rfl | rfl <;> assumption)) (fun q h => Or.inr (by simp only [List.mem_cons, List.not_mem_nil, or_false] at h; rcases h with rfl | rfl | rfl <;> assumption)) (fun uw_ H locs hΨ hz hkp hS => ?_)
  have hP := (x_join hP hD [1, 2, 3] [0] (wc := [(v1, .inr (1, [.ref v2, .ref v3, .int (nI r.2.2.2)])), (v2, .inl (xcI G, (capN (r.2.2.2 + 1)), .inl (cpI (fun _ => 0) r.2.1 r.2.2.2))), (v3, .inl (xcI G, 101, .inl (cpI (fillF (fun _ => 0) (-5) 101) r.2.2.1 101)))]) (wr := [(n0, .inr (2, [.ref nv, .int (nI ev), .int (nI md), va_rf er, .int fo]))]) rfl rfl (by decide) hkp hΨ).sub (ws' := [(n0, .inr (2, [.ref nv, .int (nI ev), .int (nI md), va_rf er, .int fo])), (v1, .inr (1, [.ref v2, .ref v3, .int (nI (if q = r.2.2.2 then r.2.2.2 + 1 else r.2.2.2))])), (v2, .inl (xcI G, (capN (r.2.2.2 + 1)), .inl (upd (cpI (fun _ => 0) r.2.1 r.2.2.2) q x))), (v3, .inl (xcI G, 101, .inl ((wrN (cpI (fillF (fun _ => 0) (-5) 101) r.2.2.1 101) r.2.2.2 q md (nI 2147483647)).1)))]) [0, 1, 2, 3] rfl
  have hD : va_D (fun q => q ∈ [n0] ∨ sz ≤ q) [(n0, .inr (2, [.ref nv, .int (nI ev), .int (nI md), va_rf er, .int fo])), (v1, .inr (1, [.ref v2, .ref v3, .int (nI (if q = r.2.2.2 then r.2.2.2 + 1 else r.2.2.2))])), (v2, .inl (xcI G, (capN (r.2.2.2 + 1)), .inl (upd (cpI (fun _ => 0) r.2.1 r.2.2.2) q x))), (v3, .inl (xcI G, 101, .inl ((wrN (cpI (fillF (fun _ => 0) (-5) 101) r.2.2.1 101) r.2.2.2 q md (nI 2147483647)).1)))] := (x_Dadr hD rfl)
  refine W.eq (g2 := F0 m 25 ls [.int (nI ((wrN (cpI (fillF (fun _ => 0) (-5) 101) r.2.2.1 101) r.2.2.2 q md (nI 2147483647)).2)), .int (nI md), .ref n0]) rfl ?_
  refine n_iadd hx hb dX2_rowWith_25 ?_
  refine va_put (D := G.1) (ci := 2) (v := .int (nI (md + ((wrN (cpI (fillF (fun _ => 0) (-5) 101) r.2.2.1 101) r.2.2.2 q md (nI 2147483647)).2)))) (ty := .int) (C := RX2) (T := TX2) (N := 5) hx hb hts hi_X2_rowWith_RX2 tyX2 tyX2_ok nmX2 hown hK hP hD hS 0 rfl rfl 2 (by decide) (hts _ hw_X2_rowWith_f21) (fun _ h9 => h9) rfl (by decide +kernel) rfl rfl (Nat.le_of_ble_eq_true rfl) dX2_rowWith_26 (fun H locs hP hD hS => ?_)
  have hP : va_P G.1 vwCl [(n0, .inr (2, [.ref nv, .int (nI ev), .int (nI (md + ((wrN (cpI (fillF (fun _ => 0) (-5) 101) r.2.2.1 101) r.2.2.2 q md (nI 2147483647)).2))), va_rf er, .int fo])), (v1, .inr (1, [.ref v2, .ref v3, .int (nI (if q = r.2.2.2 then r.2.2.2 + 1 else r.2.2.2))])), (v2, .inl (xcI G, (capN (r.2.2.2 + 1)), .inl (upd (cpI (fun _ => 0) r.2.1 r.2.2.2) q x))), (v3, .inl (xcI G, 101, .inl ((wrN (cpI (fillF (fun _ => 0) (-5) 101) r.2.2.1 101) r.2.2.2 q md (nI 2147483647)).1)))] H := hP
  have hD : va_D (fun q => q ∈ [n0] ∨ sz ≤ q) [(n0, .inr (2, [.ref nv, .int (nI ev), .int (nI (md + ((wrN (cpI (fillF (fun _ => 0) (-5) 101) r.2.2.1 101) r.2.2.2 q md (nI 2147483647)).2))), va_rf er, .int fo])), (v1, .inr (1, [.ref v2, .ref v3, .int (nI (if q = r.2.2.2 then r.2.2.2 + 1 else r.2.2.2))])), (v2, .inl (xcI G, (capN (r.2.2.2 + 1)), .inl (upd (cpI (fun _ => 0) r.2.1 r.2.2.2) q x))), (v3, .inl (xcI G, 101, .inl ((wrN (cpI (fillF (fun _ => 0) (-5) 101) r.2.2.1 101) r.2.2.2 q md (nI 2147483647)).1)))] := hD
  refine lv_aload hx hb dX2_rowWith_29 (lv_at hl 0 rfl) ?_
  have hdd := xDis.of (B := xB0 G) hD (by simp only [List.map_cons, List.map_nil, List.mem_cons, List.not_mem_nil, or_false]; rintro q (rfl | rfl | rfl | rfl) <;> omega)
  exact xend_a (v1, v2, v3) hx hb hr (Or.inl ⟨_, rfl⟩) hlk_ hS (fun _ h => h) dX2_rowWith_31 rfl ⟨hP, hdd, hv1, hv2, hv3⟩ (Nat.le_refl _) (Nat.le_refl _)

theorem hw_X2_rowWithoutLast_f21 : Cond.fieldLink RX2 21 "TailVectors$State" "made" "I" ∈ wsX2_rowWithoutLast := by decide +kernel
theorem hi_X2_rowWithoutLast_RX2 : ∀ w ∈ u_ws RX2 TX2 5, w ∈ wsX2_rowWithoutLast := by decide +kernel
theorem hw_X2_rowWithoutLast_c28 : Cond.constant RX2 28 (2147483647) ∈ wsX2_rowWithoutLast := by decide +kernel
set_option maxHeartbeats 4000000 in
set_option maxRecDepth 100000 in
theorem c_X2_rowWithoutLast (l : Launch) (G : xG) (n0 : Nat) (nv : Nat) (ev : Nat) (md : Nat) (er : Option Nat) (fo : Int32) (rx : Nat) (vx : Nat) (nx : Nat) (r : Rw) (sz : Nat) (hn0 : xB0 G ≤ n0) (hsz0 : xB0 G ≤ sz) (hxn : ∀ q ∈ [rx, vx, nx], q ∉ [n0]) (hokr : okR r) (hl1 : 1 ≤ r.2.2.2) : Met l yX2_rowWithoutLast wsX2_rowWithoutLast ({ frames := 3, cells := 3, slots := 404, locals := 74 } : Room) (xPc G [.ref n0, .ref rx] (fun H => H.size = sz ∧ va_P G.1 vwCl [(n0, .inr (2, [.ref nv, .int (nI ev), .int (nI md), va_rf er, .int fo]))] H ∧ va_P G.1 vwCl [(rx, .inr (1, [.ref vx, .ref nx, .int (nI r.2.2.2)])), (vx, .inl (xcI G, r.1, .inl r.2.1)), (nx, .inl (xcI G, 101, .inl r.2.2.1))] H)) (xQ (σ := (Nat × Nat × Nat)) (fun u => some (.ref u.1)) (fun u H => va_P G.1 vwCl [(n0, .inr (2, [.ref nv, .int (nI ev), .int (nI (md + rwRmC (rwCp r 0) md (nI 2147483647))), va_rf er, .int fo])), (u.1, .inr (1, [.ref u.2.1, .ref u.2.2, .int (nI ((rwRm (rwCp r 0) md (nI 2147483647)).2.2.2))])), (u.2.1, .inl (xcI G, (rwRm (rwCp r 0) md (nI 2147483647)).1, .inl ((rwRm (rwCp r 0) md (nI 2147483647)).2.1))), (u.2.2, .inl (xcI G, 101, .inl ((rwRm (rwCp r 0) md (nI 2147483647)).2.2.1)))] H ∧ xDis (xB0 G) [n0, u.1, u.2.1, u.2.2] ∧ sz ≤ u.1 ∧ sz ≤ u.2.1 ∧ sz ≤ u.2.2) (fun q => q ∈ [n0] ∨ sz ≤ q)) 3 404 (fun q => q ∈ [n0] ∨ sz ≤ q) := by
  refine xMet (cc := cX2_rowWithoutLast) (nL := 3) (ret := (some ((.object "TailVectors$Row")))) (by decide) rfl (Nat.le_of_ble_eq_true rfl) ?_
  intro p e s m below meth c S hr hlk_ hnm hE hP ls hl
  obtain ⟨hx, hb, hml, hown, hts⟩ := id S
  have hown : s.vm.findClass RX2 = some m.cls := hown
  have hK := hE.1
  have hS : va_S (fun q => q ∈ [n0] ∨ sz ≤ q) s.heap s.heap [] := va_S.rf
  have hA : ∀ q, (fun q => q ∈ [n0] ∨ sz ≤ q) q → xB0 G ≤ q := (fun q h => h.elim (fun z => by rw [List.mem_singleton.mp z]; exact hn0) (fun z => Nat.le_trans hsz0 z))
  obtain ⟨hsz, hP, hPo⟩ := hP
  have hPo : va_P G.1 vwCl [(rx, .inr (1, [.ref vx, .ref nx, .int (nI r.2.2.2)])), (vx, .inl (xcI G, r.1, .inl r.2.1)), (nx, .inl (xcI G, 101, .inl r.2.2.1))] s.heap := hPo
  have hAn : ∀ q, s.heap.size ≤ q → (fun q => q ∈ [n0] ∨ sz ≤ q) q := fun q h => Or.inr (by rw [← hsz]; exact h)
  obtain ⟨hk1, hk2, hk3⟩ := hokr
  have hPoA : ∀ q ∈ ([(rx, .inr (1, [.ref vx, .ref nx, .int (nI r.2.2.2)])), (vx, .inl (xcI G, r.1, .inl r.2.1)), (nx, .inl (xcI G, 101, .inl r.2.2.1))] : va_W).map (fun x => x.1), ¬ (q ∈ [n0] ∨ sz ≤ q) := fun q hq z => z.elim (hxn q hq) (fun y => absurd (x_lt hPo hq) (Nat.not_lt.mpr (by rw [hsz]; exact y)))
  have hP : va_P G.1 vwCl [(n0, .inr (2, [.ref nv, .int (nI ev), .int (nI md), va_rf er, .int fo]))] s.heap := hP
  have hD : va_D (fun q => q ∈ [n0] ∨ sz ≤ q) [(n0, .inr (2, [.ref nv, .int (nI ev), .int (nI md), va_rf er, .int fo]))] := ⟨fun i j p q hi hj _ => by have := (List.getElem?_eq_some_iff.mp hi).1; have := (List.getElem?_eq_some_iff.mp hj).1; simp at *; omega, fun k q hk => by have := List.mem_of_getElem? hk; simp at this; rw [this]; exact Or.inl (List.mem_singleton.mpr rfl)⟩
  have hl : lv_has ls 3 [(0, .ref n0), (1, .ref rx)] := hl
  refine lv_aload_n hx hb dX2_rowWithoutLast_0 rfl (lv_at hl 1 rfl) ?_
  refine lv_iconst (v := nI 0) hx hb dX2_rowWithoutLast_1 rfl ?_
  have hup := x_up hS hsz
  have hPold := hP; have hDold := hD; have hSold := hS
  refine xwr (xrunV (As := [.int (nI 0)]) (rest := []) S (c_X1_copy l G rx vx nx r.1 r.2.1 r.2.2.1 r.2.2.2 s.heap.size 0 (by rw [hsz]; exact hsz0) (by omega) hk1 hk2 hk3) (cwV 1 hts gX2_rowWithoutLast_X1_copy rfl rfl rfl (by decide +kernel) ⟨Nat.le_of_ble_eq_true rfl, Nat.le_of_ble_eq_true rfl⟩) hE hS hA 0 1 (x_ro hPo hS hPoA) rfl rfl rfl ⟨rfl, hPo⟩ rfl rfl hl.1 (Nat.le_of_ble_eq_true rfl) dX2_rowWithoutLast_2 ⟨Nat.le_of_ble_eq_true rfl, Nat.le_of_ble_eq_true rfl⟩) hS (fun q h => h.elim (fun z => absurd z List.not_mem_nil) (fun z => hAn q (Nat.le_trans hS.1 z))) (fun q h => h.elim (fun z => absurd z List.not_mem_nil) (fun z => hAn q (Nat.le_trans hS.1 z))) (fun uw_ H locs hΨ hz hkp hS => ?_)
  obtain ⟨v1, v2, v3⟩ := uw_
  obtain ⟨hP1, hdd1, hv_v1, hv_v2, hv_v3⟩ := hΨ
  have hv1 : sz ≤ v1 := Nat.le_trans hup hv_v1
  have hv2 : sz ≤ v2 := Nat.le_trans hup hv_v2
  have hv3 : sz ≤ v3 := Nat.le_trans hup hv_v3
  have hP1 : va_P G.1 vwCl [(v1, .inr (1, [.ref v2, .ref v3, .int (nI r.2.2.2)])), (v2, .inl (xcI G, capN (r.2.2.2 + 0), .inl (cpI (fun _ => 0) r.2.1 r.2.2.2))), (v3, .inl (xcI G, 101, .inl (cpI (fillF (fun _ => 0) (-5) 101) r.2.2.1 101)))] H := hP1
  obtain ⟨hP, hD⟩ := x_joinA hPold hDold hSold hAn [] [0] (wc := []) (wr := [(n0, .inr (2, [.ref nv, .int (nI ev), .int (nI md), va_rf er, .int fo]))]) (w1 := [(v1, .inr (1, [.ref v2, .ref v3, .int (nI r.2.2.2)])), (v2, .inl (xcI G, capN (r.2.2.2 + 0), .inl (cpI (fun _ => 0) r.2.1 r.2.2.2))), (v3, .inl (xcI G, 101, .inl (cpI (fillF (fun _ => 0) (-5) 101) r.2.2.1 101)))]) rfl rfl (by decide) (by decide) (fun q h1 h2 => hkp q h1 (fun z => z.elim (fun y => absurd y List.not_mem_nil) (fun y => absurd y (Nat.not_le.mpr h1)))) hP1 hdd1.1 (by simp only [List.map_cons, List.map_nil, List.mem_cons, List.not_mem_nil, or_false]; rintro q (rfl | rfl | rfl) <;> first | exact Or.inl rfl | exact Or.inr (by assumption) | simp)
  have hP : va_P G.1 vwCl [(n0, .inr (2, [.ref nv, .int (nI ev), .int (nI md), va_rf er, .int fo])), (v1, .inr (1, [.ref v2, .ref v3, .int (nI r.2.2.2)])), (v2, .inl (xcI G, capN (r.2.2.2 + 0), .inl (cpI (fun _ => 0) r.2.1 r.2.2.2))), (v3, .inl (xcI G, 101, .inl (cpI (fillF (fun _ => 0) (-5) 101) r.2.2.1 101)))] H := hP
  have hD : va_D (fun q => q ∈ [n0] ∨ sz ≤ q) [(n0, .inr (2, [.ref nv, .int (nI ev), .int (nI md), va_rf er, .int fo])), (v1, .inr (1, [.ref v2, .ref v3, .int (nI r.2.2.2)])), (v2, .inl (xcI G, capN (r.2.2.2 + 0), .inl (cpI (fun _ => 0) r.2.1 r.2.2.2))), (v3, .inl (xcI G, 101, .inl (cpI (fillF (fun _ => 0) (-5) 101) r.2.2.1 101)))] := hD
  refine W.eq (g2 := F0 m 5 ls [.ref v1]) rfl ?_
  refine lv_astore_n (lv' := [(2, .ref v1), (0, .ref n0), (1, .ref rx)]) hx hb dX2_rowWithoutLast_5 rfl hl (by decide) rfl (fun ls hl => ?_)
  refine lv_aload_n hx hb dX2_rowWithoutLast_6 rfl (lv_at hl 1 rfl) ?_
  refine lv_dup hx hb dX2_rowWithoutLast_7 rfl ?_
  refine va_get (D := G.1) (ci := 2) (v := .int (nI md)) (C := RX2) (T := TX2) (N := 5) hx hb hts hi_X2_rowWithoutLast_RX2 hown hK hP 0 rfl rfl 2 (by decide) (hts _ hw_X2_rowWithoutLast_f21) (fun _ h9 => h9) rfl dX2_rowWithoutLast_8 ?_
  refine lv_aload_n hx hb dX2_rowWithoutLast_11 rfl (lv_at hl 0 rfl) ?_
  refine lv_aload_n hx hb dX2_rowWithoutLast_12 rfl (lv_at hl 1 rfl) ?_
  refine va_get (D := G.1) (ci := 2) (v := .int (nI md)) (C := RX2) (T := TX2) (N := 5) hx hb hts hi_X2_rowWithoutLast_RX2 hown hK hP 0 rfl rfl 2 (by decide) (hts _ hw_X2_rowWithoutLast_f21) (fun _ h9 => h9) rfl dX2_rowWithoutLast_13 ?_
  refine lv_ldc (v := nI 2147483647) hx hb hown (hts _ hw_X2_rowWithoutLast_c28) dX2_rowWithoutLast_16 ?_
  have hd3 : xDis (xB0 G) [v1, v2, v3] := hdd1
  refine xwr (xrunV (As := [.int (nI md), .int (nI 2147483647)]) (rest := [.int (nI md), .ref n0]) S (c_X1_removeLast l G v1 v2 v3 (capN (r.2.2.2 + 0)) (cpI (fun _ => 0) r.2.1 r.2.2.2) (cpI (fillF (fun _ => 0) (-5) 101) r.2.2.1 101) r.2.2.2 md (nI 2147483647) hd3 hl1 hk1) (cwV 2 hts gX2_rowWithoutLast_X1_removeLast rfl rfl rfl (by decide +kernel) ⟨Nat.le_of_ble_eq_true rfl, Nat.le_of_ble_eq_true rfl⟩) hE hS hA 1 1 hP rfl rfl rfl (hP.sub [1, 2, 3] rfl) rfl rfl hl.1 (Nat.le_of_ble_eq_true rfl) dX2_rowWithoutLast_18 ⟨Nat.le_of_ble_eq_true rfl, Nat.le_of_ble_eq_true rfl⟩) hS (fun q h => Or.inr (by simp only [List.mem_cons, List.not_mem_nil, or_false] at h; rcases h with rfl | rfl | rfl <;> assumption)) (fun q h => Or.inr (by simp only [List.mem_cons, List.not_mem_nil, or_false] at h; rcases h with rfl | rfl | rfl <;> assumption)) (fun uw_ H locs hΨ hz hkp hS => ?_)
  have hP := (x_join hP hD [1, 2, 3] [0] (wc := [(v1, .inr (1, [.ref v2, .ref v3, .int (nI r.2.2.2)])), (v2, .inl (xcI G, (capN (r.2.2.2 + 0)), .inl (cpI (fun _ => 0) r.2.1 r.2.2.2))), (v3, .inl (xcI G, 101, .inl (cpI (fillF (fun _ => 0) (-5) 101) r.2.2.1 101)))]) (wr := [(n0, .inr (2, [.ref nv, .int (nI ev), .int (nI md), va_rf er, .int fo]))]) rfl rfl (by decide) hkp hΨ).sub (ws' := [(n0, .inr (2, [.ref nv, .int (nI ev), .int (nI md), va_rf er, .int fo])), (v1, .inr (1, [.ref v2, .ref v3, .int (nI (r.2.2.2 - 1))])), (v2, .inl (xcI G, (capN (r.2.2.2 + 0)), .inl (cpI (fun _ => 0) r.2.1 r.2.2.2))), (v3, .inl (xcI G, 101, .inl ((rmN (cpI (fillF (fun _ => 0) (-5) 101) r.2.2.1 101) r.2.2.2 md (nI 2147483647)).1)))]) [0, 1, 2, 3] rfl
  have hD : va_D (fun q => q ∈ [n0] ∨ sz ≤ q) [(n0, .inr (2, [.ref nv, .int (nI ev), .int (nI md), va_rf er, .int fo])), (v1, .inr (1, [.ref v2, .ref v3, .int (nI (r.2.2.2 - 1))])), (v2, .inl (xcI G, (capN (r.2.2.2 + 0)), .inl (cpI (fun _ => 0) r.2.1 r.2.2.2))), (v3, .inl (xcI G, 101, .inl ((rmN (cpI (fillF (fun _ => 0) (-5) 101) r.2.2.1 101) r.2.2.2 md (nI 2147483647)).1)))] := (x_Dadr hD rfl)
  refine W.eq (g2 := F0 m 21 ls [.int (nI ((rmN (cpI (fillF (fun _ => 0) (-5) 101) r.2.2.1 101) r.2.2.2 md (nI 2147483647)).2)), .int (nI md), .ref n0]) rfl ?_
  refine n_iadd hx hb dX2_rowWithoutLast_21 ?_
  refine va_put (D := G.1) (ci := 2) (v := .int (nI (md + ((rmN (cpI (fillF (fun _ => 0) (-5) 101) r.2.2.1 101) r.2.2.2 md (nI 2147483647)).2)))) (ty := .int) (C := RX2) (T := TX2) (N := 5) hx hb hts hi_X2_rowWithoutLast_RX2 tyX2 tyX2_ok nmX2 hown hK hP hD hS 0 rfl rfl 2 (by decide) (hts _ hw_X2_rowWithoutLast_f21) (fun _ h9 => h9) rfl (by decide +kernel) rfl rfl (Nat.le_of_ble_eq_true rfl) dX2_rowWithoutLast_22 (fun H locs hP hD hS => ?_)
  have hP : va_P G.1 vwCl [(n0, .inr (2, [.ref nv, .int (nI ev), .int (nI (md + ((rmN (cpI (fillF (fun _ => 0) (-5) 101) r.2.2.1 101) r.2.2.2 md (nI 2147483647)).2))), va_rf er, .int fo])), (v1, .inr (1, [.ref v2, .ref v3, .int (nI (r.2.2.2 - 1))])), (v2, .inl (xcI G, (capN (r.2.2.2 + 0)), .inl (cpI (fun _ => 0) r.2.1 r.2.2.2))), (v3, .inl (xcI G, 101, .inl ((rmN (cpI (fillF (fun _ => 0) (-5) 101) r.2.2.1 101) r.2.2.2 md (nI 2147483647)).1)))] H := hP
  have hD : va_D (fun q => q ∈ [n0] ∨ sz ≤ q) [(n0, .inr (2, [.ref nv, .int (nI ev), .int (nI (md + ((rmN (cpI (fillF (fun _ => 0) (-5) 101) r.2.2.1 101) r.2.2.2 md (nI 2147483647)).2))), va_rf er, .int fo])), (v1, .inr (1, [.ref v2, .ref v3, .int (nI (r.2.2.2 - 1))])), (v2, .inl (xcI G, (capN (r.2.2.2 + 0)), .inl (cpI (fun _ => 0) r.2.1 r.2.2.2))), (v3, .inl (xcI G, 101, .inl ((rmN (cpI (fillF (fun _ => 0) (-5) 101) r.2.2.1 101) r.2.2.2 md (nI 2147483647)).1)))] := hD
  refine lv_aload_n hx hb dX2_rowWithoutLast_25 rfl (lv_at hl 0 rfl) ?_
  have hdd := xDis.of (B := xB0 G) hD (by simp only [List.map_cons, List.map_nil, List.mem_cons, List.not_mem_nil, or_false]; rintro q (rfl | rfl | rfl | rfl) <;> omega)
  exact xend_a (v1, v2, v3) hx hb hr (Or.inl ⟨_, rfl⟩) hlk_ hS (fun _ h => h) dX2_rowWithoutLast_26 rfl ⟨hP, hdd, hv1, hv2, hv3⟩ (Nat.le_refl _) (Nat.le_refl _)

theorem hw_X2_editWrite_f21 : Cond.fieldLink RX2 21 "TailVectors$State" "made" "I" ∈ wsX2_editWrite := by decide +kernel
theorem hi_X2_editWrite_RX2 : ∀ w ∈ u_ws RX2 TX2 5, w ∈ wsX2_editWrite := by decide +kernel
theorem hw_X2_editWrite_f29 : Cond.fieldLink RX2 29 "TailVectors$State" "firstOwn" "I" ∈ wsX2_editWrite := by decide +kernel
set_option maxHeartbeats 4000000 in
set_option maxRecDepth 100000 in
theorem c_X2_editWrite (l : Launch) (G : xG) (n0 : Nat) (nv : Nat) (ev : Nat) (md : Nat) (er : Option Nat) (fo : Int32) (rx : Nat) (vx : Nat) (nx : Nat) (r : Rw) (sz : Nat) (q : Nat) (x : Int32) (hn0 : xB0 G ≤ n0) (hsz0 : xB0 G ≤ sz) (hxn : ∀ q ∈ [rx, vx, nx], q ∉ [n0]) (hokr : okR r) (hql : q ≤ r.2.2.2) (hq3 : q < 300) : Met l yX2_editWrite wsX2_editWrite ({ frames := 4, cells := 3, slots := 404, locals := 97 } : Room) (xPc G [.ref n0, .ref rx, .int (nI q), .int x] (fun H => H.size = sz ∧ va_P G.1 vwCl [(n0, .inr (2, [.ref nv, .int (nI ev), .int (nI md), va_rf er, .int fo]))] H ∧ va_P G.1 vwCl [(rx, .inr (1, [.ref vx, .ref nx, .int (nI r.2.2.2)])), (vx, .inl (xcI G, r.1, .inl r.2.1)), (nx, .inl (xcI G, 101, .inl r.2.2.1))] H)) (xQ (σ := (Nat × Nat × Nat)) (fun u => some (.int (nI (rwWrC (rwCp r 1) q md fo)))) (fun u H => va_P G.1 vwCl [(n0, .inr (2, [.ref nv, .int (nI ev), .int (nI (md + rwWrC (rwCp r 1) q md fo)), .ref u.1, .int fo])), (u.1, .inr (1, [.ref u.2.1, .ref u.2.2, .int (nI ((rwWr (rwCp r 1) q x md fo).2.2.2))])), (u.2.1, .inl (xcI G, (rwWr (rwCp r 1) q x md fo).1, .inl ((rwWr (rwCp r 1) q x md fo).2.1))), (u.2.2, .inl (xcI G, 101, .inl ((rwWr (rwCp r 1) q x md fo).2.2.1)))] H ∧ xDis (xB0 G) [n0, u.1, u.2.1, u.2.2] ∧ sz ≤ u.1 ∧ sz ≤ u.2.1 ∧ sz ≤ u.2.2) (fun q => q ∈ [n0] ∨ sz ≤ q)) 3 404 (fun q => q ∈ [n0] ∨ sz ≤ q) := by
  refine xMet (cc := cX2_editWrite) (nL := 5) (ret := (some (.int))) (by decide) rfl (Nat.le_of_ble_eq_true rfl) ?_
  intro p e s m below meth c S hr hlk_ hnm hE hP ls hl
  obtain ⟨hx, hb, hml, hown, hts⟩ := id S
  have hown : s.vm.findClass RX2 = some m.cls := hown
  have hK := hE.1
  have hS : va_S (fun q => q ∈ [n0] ∨ sz ≤ q) s.heap s.heap [] := va_S.rf
  have hA : ∀ q, (fun q => q ∈ [n0] ∨ sz ≤ q) q → xB0 G ≤ q := (fun q h => h.elim (fun z => by rw [List.mem_singleton.mp z]; exact hn0) (fun z => Nat.le_trans hsz0 z))
  obtain ⟨hsz, hP, hPo⟩ := hP
  have hPo : va_P G.1 vwCl [(rx, .inr (1, [.ref vx, .ref nx, .int (nI r.2.2.2)])), (vx, .inl (xcI G, r.1, .inl r.2.1)), (nx, .inl (xcI G, 101, .inl r.2.2.1))] s.heap := hPo
  have hAn : ∀ q, s.heap.size ≤ q → (fun q => q ∈ [n0] ∨ sz ≤ q) q := fun q h => Or.inr (by rw [← hsz]; exact h)
  obtain ⟨hk1, hk2, hk3⟩ := hokr
  have hPoA : ∀ q ∈ ([(rx, .inr (1, [.ref vx, .ref nx, .int (nI r.2.2.2)])), (vx, .inl (xcI G, r.1, .inl r.2.1)), (nx, .inl (xcI G, 101, .inl r.2.2.1))] : va_W).map (fun x => x.1), ¬ (q ∈ [n0] ∨ sz ≤ q) := fun q hq z => z.elim (hxn q hq) (fun y => absurd (x_lt hPo hq) (Nat.not_lt.mpr (by rw [hsz]; exact y)))
  have hP : va_P G.1 vwCl [(n0, .inr (2, [.ref nv, .int (nI ev), .int (nI md), va_rf er, .int fo]))] s.heap := hP
  have hD : va_D (fun q => q ∈ [n0] ∨ sz ≤ q) [(n0, .inr (2, [.ref nv, .int (nI ev), .int (nI md), va_rf er, .int fo]))] := ⟨fun i j p q hi hj _ => by have := (List.getElem?_eq_some_iff.mp hi).1; have := (List.getElem?_eq_some_iff.mp hj).1; simp at *; omega, fun k q hk => by have := List.mem_of_getElem? hk; simp at this; rw [this]; exact Or.inl (List.mem_singleton.mpr rfl)⟩
  have hl : lv_has ls 5 [(0, .ref n0), (1, .ref rx), (2, .int (nI q)), (3, .int x)] := hl
  refine lv_aload_n hx hb dX2_editWrite_0 rfl (lv_at hl 1 rfl) ?_
  refine lv_iconst (v := nI 1) hx hb dX2_editWrite_1 rfl ?_
  have hup := x_up hS hsz
  have hPold := hP; have hDold := hD; have hSold := hS
  refine xwr (xrunV (As := [.int (nI 1)]) (rest := []) S (c_X1_copy l G rx vx nx r.1 r.2.1 r.2.2.1 r.2.2.2 s.heap.size 1 (by rw [hsz]; exact hsz0) (by omega) hk1 hk2 hk3) (cwV 1 hts gX2_editWrite_X1_copy rfl rfl rfl (by decide +kernel) ⟨Nat.le_of_ble_eq_true rfl, Nat.le_of_ble_eq_true rfl⟩) hE hS hA 0 1 (x_ro hPo hS hPoA) rfl rfl rfl ⟨rfl, hPo⟩ rfl rfl hl.1 (Nat.le_of_ble_eq_true rfl) dX2_editWrite_2 ⟨Nat.le_of_ble_eq_true rfl, Nat.le_of_ble_eq_true rfl⟩) hS (fun q h => h.elim (fun z => absurd z List.not_mem_nil) (fun z => hAn q (Nat.le_trans hS.1 z))) (fun q h => h.elim (fun z => absurd z List.not_mem_nil) (fun z => hAn q (Nat.le_trans hS.1 z))) (fun uw_ H locs hΨ hz hkp hS => ?_)
  obtain ⟨v1, v2, v3⟩ := uw_
  obtain ⟨hP1, hdd1, hv_v1, hv_v2, hv_v3⟩ := hΨ
  have hv1 : sz ≤ v1 := Nat.le_trans hup hv_v1
  have hv2 : sz ≤ v2 := Nat.le_trans hup hv_v2
  have hv3 : sz ≤ v3 := Nat.le_trans hup hv_v3
  have hP1 : va_P G.1 vwCl [(v1, .inr (1, [.ref v2, .ref v3, .int (nI r.2.2.2)])), (v2, .inl (xcI G, capN (r.2.2.2 + 1), .inl (cpI (fun _ => 0) r.2.1 r.2.2.2))), (v3, .inl (xcI G, 101, .inl (cpI (fillF (fun _ => 0) (-5) 101) r.2.2.1 101)))] H := hP1
  obtain ⟨hP, hD⟩ := x_joinA hPold hDold hSold hAn [] [0] (wc := []) (wr := [(n0, .inr (2, [.ref nv, .int (nI ev), .int (nI md), va_rf er, .int fo]))]) (w1 := [(v1, .inr (1, [.ref v2, .ref v3, .int (nI r.2.2.2)])), (v2, .inl (xcI G, capN (r.2.2.2 + 1), .inl (cpI (fun _ => 0) r.2.1 r.2.2.2))), (v3, .inl (xcI G, 101, .inl (cpI (fillF (fun _ => 0) (-5) 101) r.2.2.1 101)))]) rfl rfl (by decide) (by decide) (fun q h1 h2 => hkp q h1 (fun z => z.elim (fun y => absurd y List.not_mem_nil) (fun y => absurd y (Nat.not_le.mpr h1)))) hP1 hdd1.1 (by simp only [List.map_cons, List.map_nil, List.mem_cons, List.not_mem_nil, or_false]; rintro q (rfl | rfl | rfl) <;> first | exact Or.inl rfl | exact Or.inr (by assumption) | simp)
  have hP : va_P G.1 vwCl [(n0, .inr (2, [.ref nv, .int (nI ev), .int (nI md), va_rf er, .int fo])), (v1, .inr (1, [.ref v2, .ref v3, .int (nI r.2.2.2)])), (v2, .inl (xcI G, capN (r.2.2.2 + 1), .inl (cpI (fun _ => 0) r.2.1 r.2.2.2))), (v3, .inl (xcI G, 101, .inl (cpI (fillF (fun _ => 0) (-5) 101) r.2.2.1 101)))] H := hP
  have hD : va_D (fun q => q ∈ [n0] ∨ sz ≤ q) [(n0, .inr (2, [.ref nv, .int (nI ev), .int (nI md), va_rf er, .int fo])), (v1, .inr (1, [.ref v2, .ref v3, .int (nI r.2.2.2)])), (v2, .inl (xcI G, capN (r.2.2.2 + 1), .inl (cpI (fun _ => 0) r.2.1 r.2.2.2))), (v3, .inl (xcI G, 101, .inl (cpI (fillF (fun _ => 0) (-5) 101) r.2.2.1 101)))] := hD
  refine W.eq (g2 := F0 m 5 ls [.ref v1]) rfl ?_
  refine lv_astore (lv' := [(4, .ref v1), (0, .ref n0), (1, .ref rx), (2, .int (nI q)), (3, .int x)]) hx hb dX2_editWrite_5 hl (by decide) rfl (fun ls hl => ?_)
  refine lv_aload_n hx hb dX2_editWrite_7 rfl (lv_at hl 1 rfl) ?_
  refine lv_aload hx hb dX2_editWrite_8 (lv_at hl 0 rfl) ?_
  refine lv_aload hx hb dX2_editWrite_10 (lv_at hl 0 rfl) ?_
  refine lv_iload_n hx hb dX2_editWrite_12 rfl (lv_at hl 3 rfl) ?_
  refine lv_iload_n hx hb dX2_editWrite_13 rfl (lv_at hl 4 rfl) ?_
  refine lv_aload_n hx hb dX2_editWrite_14 rfl (lv_at hl 1 rfl) ?_
  refine va_get (D := G.1) (ci := 2) (v := .int (nI md)) (C := RX2) (T := TX2) (N := 5) hx hb hts hi_X2_editWrite_RX2 hown hK hP 0 rfl rfl 2 (by decide) (hts _ hw_X2_editWrite_f21) (fun _ h9 => h9) rfl dX2_editWrite_15 ?_
  refine lv_aload_n hx hb dX2_editWrite_18 rfl (lv_at hl 1 rfl) ?_
  refine va_get (D := G.1) (ci := 2) (v := .int fo) (C := RX2) (T := TX2) (N := 5) hx hb hts hi_X2_editWrite_RX2 hown hK hP 0 rfl rfl 4 (by decide) (hts _ hw_X2_editWrite_f29) (fun _ h9 => h9) rfl dX2_editWrite_19 ?_
  have hd3 : xDis (xB0 G) [v1, v2, v3] := hdd1
  refine xwr (xrunV (As := [.int (nI q), .int x, .int (nI md), .int fo]) (rest := [.ref v1, .ref n0]) S (c_X1_write l G v1 v2 v3 (capN (r.2.2.2 + 1)) (cpI (fun _ => 0) r.2.1 r.2.2.2) (cpI (fillF (fun _ => 0) (-5) 101) r.2.2.1 101) r.2.2.2 q x md fo hd3 hql (by unfold capN; split <;> omega) (capN_le _) hk1) (cwV 4 hts gX2_editWrite_X1_write rfl rfl rfl (by decide +kernel) ⟨Nat.le_of_ble_eq_true rfl, Nat.le_of_ble_eq_true rfl⟩) hE hS hA 1 1 hP rfl rfl rfl (hP.sub [1, 2, 3] rfl) rfl rfl hl.1 (Nat.le_of_ble_eq_true rfl) dX2_editWrite_22 ⟨Nat.le_of_ble_eq_true rfl, Nat.le_of_ble_eq_true rfl⟩) hS (fun q h => Or.inr (by simp only [List.mem_cons, List.not_mem_nil, or_false] at h; rcases h with rfl | rfl | rfl <;> assumption)) (fun q h => Or.inr (by simp only [List.mem_cons, List.not_mem_nil, or_false] at h; rcases h with rfl | rfl | rfl <;> assumption)) (fun uw_ H locs hΨ hz hkp hS => ?_)
  have hP := (x_join hP hD [1, 2, 3] [0] (wc := [(v1, .inr (1, [.ref v2, .ref v3, .int (nI r.2.2.2)])), (v2, .inl (xcI G, (capN (r.2.2.2 + 1)), .inl (cpI (fun _ => 0) r.2.1 r.2.2.2))), (v3, .inl (xcI G, 101, .inl (cpI (fillF (fun _ => 0) (-5) 101) r.2.2.1 101)))]) (wr := [(n0, .inr (2, [.ref nv, .int (nI ev), .int (nI md), va_rf er, .int fo]))]) rfl rfl (by decide) hkp hΨ).sub (ws' := [(n0, .inr (2, [.ref nv, .int (nI ev), .int (nI md), va_rf er, .int fo])), (v1, .inr (1, [.ref v2, .ref v3, .int (nI (if q = r.2.2.2 then r.2.2.2 + 1 else r.2.2.2))])), (v2, .inl (xcI G, (capN (r.2.2.2 + 1)), .inl (upd (cpI (fun _ => 0) r.2.1 r.2.2.2) q x))), (v3, .inl (xcI G, 101, .inl ((wrN (cpI (fillF (fun _ => 0) (-5) 101) r.2.2.1 101) r.2.2.2 q md fo).1)))]) [0, 1, 2, 3] rfl
  have hD : va_D (fun q => q ∈ [n0] ∨ sz ≤ q) [(n0, .inr (2, [.ref nv, .int (nI ev), .int (nI md), va_rf er, .int fo])), (v1, .inr (1, [.ref v2, .ref v3, .int (nI (if q = r.2.2.2 then r.2.2.2 + 1 else r.2.2.2))])), (v2, .inl (xcI G, (capN (r.2.2.2 + 1)), .inl (upd (cpI (fun _ => 0) r.2.1 r.2.2.2) q x))), (v3, .inl (xcI G, 101, .inl ((wrN (cpI (fillF (fun _ => 0) (-5) 101) r.2.2.1 101) r.2.2.2 q md fo).1)))] := (x_Dadr hD rfl)
  refine W.eq (g2 := F0 m 25 ls [.int (nI ((wrN (cpI (fillF (fun _ => 0) (-5) 101) r.2.2.1 101) r.2.2.2 q md fo).2)), .ref v1, .ref n0]) rfl ?_
  refine xwr (xrunV (As := [.ref v1, .int (nI ((wrN (cpI (fillF (fun _ => 0) (-5) 101) r.2.2.1 101) r.2.2.2 q md fo).2))]) (rest := []) S (c_X2_takeEditRow_o l G n0 nv ev md er fo v1 ((wrN (cpI (fillF (fun _ => 0) (-5) 101) r.2.2.1 101) r.2.2.2 q md fo).2) hn0) (cwV 2 hts gX2_editWrite_X2_takeEditRow rfl rfl rfl (by decide +kernel) ⟨Nat.le_of_ble_eq_true rfl, Nat.le_of_ble_eq_true rfl⟩) hE hS hA 0 2 hP rfl rfl rfl (hP.sub [0] rfl) rfl rfl hl.1 (Nat.le_of_ble_eq_true rfl) dX2_editWrite_25 ⟨Nat.le_of_ble_eq_true rfl, Nat.le_of_ble_eq_true rfl⟩) hS (fun q h => Or.inl h) (fun q h => Or.inl h) (fun uw_ H locs hΨ hz hkp hS => ?_)
  have hP := (x_join hP hD [0] [1, 2, 3] (wc := [(n0, .inr (2, [.ref nv, .int (nI ev), .int (nI md), va_rf er, .int fo]))]) (wr := [(v1, .inr (1, [.ref v2, .ref v3, .int (nI (if q = r.2.2.2 then r.2.2.2 + 1 else r.2.2.2))])), (v2, .inl (xcI G, (capN (r.2.2.2 + 1)), .inl (upd (cpI (fun _ => 0) r.2.1 r.2.2.2) q x))), (v3, .inl (xcI G, 101, .inl ((wrN (cpI (fillF (fun _ => 0) (-5) 101) r.2.2.1 101) r.2.2.2 q md fo).1)))]) rfl rfl (by decide) hkp hΨ).sub (ws' := [(n0, .inr (2, [.ref nv, .int (nI ev), .int (nI (md + ((wrN (cpI (fillF (fun _ => 0) (-5) 101) r.2.2.1 101) r.2.2.2 q md fo).2))), .ref v1, .int fo])), (v1, .inr (1, [.ref v2, .ref v3, .int (nI (if q = r.2.2.2 then r.2.2.2 + 1 else r.2.2.2))])), (v2, .inl (xcI G, (capN (r.2.2.2 + 1)), .inl (upd (cpI (fun _ => 0) r.2.1 r.2.2.2) q x))), (v3, .inl (xcI G, 101, .inl ((wrN (cpI (fillF (fun _ => 0) (-5) 101) r.2.2.1 101) r.2.2.2 q md fo).1)))]) [3, 0, 1, 2] rfl
  have hD : va_D (fun q => q ∈ [n0] ∨ sz ≤ q) [(n0, .inr (2, [.ref nv, .int (nI ev), .int (nI (md + ((wrN (cpI (fillF (fun _ => 0) (-5) 101) r.2.2.1 101) r.2.2.2 q md fo).2))), .ref v1, .int fo])), (v1, .inr (1, [.ref v2, .ref v3, .int (nI (if q = r.2.2.2 then r.2.2.2 + 1 else r.2.2.2))])), (v2, .inl (xcI G, (capN (r.2.2.2 + 1)), .inl (upd (cpI (fun _ => 0) r.2.1 r.2.2.2) q x))), (v3, .inl (xcI G, 101, .inl ((wrN (cpI (fillF (fun _ => 0) (-5) 101) r.2.2.1 101) r.2.2.2 q md fo).1)))] := (x_Dadr hD rfl)
  refine W.eq (g2 := F0 m 28 ls [.int (nI ((wrN (cpI (fillF (fun _ => 0) (-5) 101) r.2.2.1 101) r.2.2.2 q md fo).2))]) rfl ?_
  have hdd := xDis.of (B := xB0 G) hD (by simp only [List.map_cons, List.map_nil, List.mem_cons, List.not_mem_nil, or_false]; rintro q (rfl | rfl | rfl | rfl) <;> omega)
  exact xend_i (v1, v2, v3) hx hb hr hlk_ hS (fun _ h => h) dX2_editWrite_28 rfl ⟨hP, hdd, hv1, hv2, hv3⟩ (Nat.le_refl _) (Nat.le_refl _)

theorem hw_X2_editRemoveLast_f21 : Cond.fieldLink RX2 21 "TailVectors$State" "made" "I" ∈ wsX2_editRemoveLast := by decide +kernel
theorem hi_X2_editRemoveLast_RX2 : ∀ w ∈ u_ws RX2 TX2 5, w ∈ wsX2_editRemoveLast := by decide +kernel
theorem hw_X2_editRemoveLast_f29 : Cond.fieldLink RX2 29 "TailVectors$State" "firstOwn" "I" ∈ wsX2_editRemoveLast := by decide +kernel
set_option maxHeartbeats 4000000 in
set_option maxRecDepth 100000 in
theorem c_X2_editRemoveLast (l : Launch) (G : xG) (n0 : Nat) (nv : Nat) (ev : Nat) (md : Nat) (er : Option Nat) (fo : Int32) (rx : Nat) (vx : Nat) (nx : Nat) (r : Rw) (sz : Nat) (hn0 : xB0 G ≤ n0) (hsz0 : xB0 G ≤ sz) (hxn : ∀ q ∈ [rx, vx, nx], q ∉ [n0]) (hokr : okR r) (hl1 : 1 ≤ r.2.2.2) : Met l yX2_editRemoveLast wsX2_editRemoveLast ({ frames := 3, cells := 3, slots := 404, locals := 74 } : Room) (xPc G [.ref n0, .ref rx] (fun H => H.size = sz ∧ va_P G.1 vwCl [(n0, .inr (2, [.ref nv, .int (nI ev), .int (nI md), va_rf er, .int fo]))] H ∧ va_P G.1 vwCl [(rx, .inr (1, [.ref vx, .ref nx, .int (nI r.2.2.2)])), (vx, .inl (xcI G, r.1, .inl r.2.1)), (nx, .inl (xcI G, 101, .inl r.2.2.1))] H)) (xQ (σ := (Nat × Nat × Nat)) (fun u => some (.int (nI (rwRmC (rwCp r 0) md fo)))) (fun u H => va_P G.1 vwCl [(n0, .inr (2, [.ref nv, .int (nI ev), .int (nI (md + rwRmC (rwCp r 0) md fo)), .ref u.1, .int fo])), (u.1, .inr (1, [.ref u.2.1, .ref u.2.2, .int (nI ((rwRm (rwCp r 0) md fo).2.2.2))])), (u.2.1, .inl (xcI G, (rwRm (rwCp r 0) md fo).1, .inl ((rwRm (rwCp r 0) md fo).2.1))), (u.2.2, .inl (xcI G, 101, .inl ((rwRm (rwCp r 0) md fo).2.2.1)))] H ∧ xDis (xB0 G) [n0, u.1, u.2.1, u.2.2] ∧ sz ≤ u.1 ∧ sz ≤ u.2.1 ∧ sz ≤ u.2.2) (fun q => q ∈ [n0] ∨ sz ≤ q)) 3 404 (fun q => q ∈ [n0] ∨ sz ≤ q) := by
  refine xMet (cc := cX2_editRemoveLast) (nL := 3) (ret := (some (.int))) (by decide) rfl (Nat.le_of_ble_eq_true rfl) ?_
  intro p e s m below meth c S hr hlk_ hnm hE hP ls hl
  obtain ⟨hx, hb, hml, hown, hts⟩ := id S
  have hown : s.vm.findClass RX2 = some m.cls := hown
  have hK := hE.1
  have hS : va_S (fun q => q ∈ [n0] ∨ sz ≤ q) s.heap s.heap [] := va_S.rf
  have hA : ∀ q, (fun q => q ∈ [n0] ∨ sz ≤ q) q → xB0 G ≤ q := (fun q h => h.elim (fun z => by rw [List.mem_singleton.mp z]; exact hn0) (fun z => Nat.le_trans hsz0 z))
  obtain ⟨hsz, hP, hPo⟩ := hP
  have hPo : va_P G.1 vwCl [(rx, .inr (1, [.ref vx, .ref nx, .int (nI r.2.2.2)])), (vx, .inl (xcI G, r.1, .inl r.2.1)), (nx, .inl (xcI G, 101, .inl r.2.2.1))] s.heap := hPo
  have hAn : ∀ q, s.heap.size ≤ q → (fun q => q ∈ [n0] ∨ sz ≤ q) q := fun q h => Or.inr (by rw [← hsz]; exact h)
  obtain ⟨hk1, hk2, hk3⟩ := hokr
  have hPoA : ∀ q ∈ ([(rx, .inr (1, [.ref vx, .ref nx, .int (nI r.2.2.2)])), (vx, .inl (xcI G, r.1, .inl r.2.1)), (nx, .inl (xcI G, 101, .inl r.2.2.1))] : va_W).map (fun x => x.1), ¬ (q ∈ [n0] ∨ sz ≤ q) := fun q hq z => z.elim (hxn q hq) (fun y => absurd (x_lt hPo hq) (Nat.not_lt.mpr (by rw [hsz]; exact y)))
  have hP : va_P G.1 vwCl [(n0, .inr (2, [.ref nv, .int (nI ev), .int (nI md), va_rf er, .int fo]))] s.heap := hP
  have hD : va_D (fun q => q ∈ [n0] ∨ sz ≤ q) [(n0, .inr (2, [.ref nv, .int (nI ev), .int (nI md), va_rf er, .int fo]))] := ⟨fun i j p q hi hj _ => by have := (List.getElem?_eq_some_iff.mp hi).1; have := (List.getElem?_eq_some_iff.mp hj).1; simp at *; omega, fun k q hk => by have := List.mem_of_getElem? hk; simp at this; rw [this]; exact Or.inl (List.mem_singleton.mpr rfl)⟩
  have hl : lv_has ls 3 [(0, .ref n0), (1, .ref rx)] := hl
  refine lv_aload_n hx hb dX2_editRemoveLast_0 rfl (lv_at hl 1 rfl) ?_
  refine lv_iconst (v := nI 0) hx hb dX2_editRemoveLast_1 rfl ?_
  have hup := x_up hS hsz
  have hPold := hP; have hDold := hD; have hSold := hS
  refine xwr (xrunV (As := [.int (nI 0)]) (rest := []) S (c_X1_copy l G rx vx nx r.1 r.2.1 r.2.2.1 r.2.2.2 s.heap.size 0 (by rw [hsz]; exact hsz0) (by omega) hk1 hk2 hk3) (cwV 1 hts gX2_editRemoveLast_X1_copy rfl rfl rfl (by decide +kernel) ⟨Nat.le_of_ble_eq_true rfl, Nat.le_of_ble_eq_true rfl⟩) hE hS hA 0 1 (x_ro hPo hS hPoA) rfl rfl rfl ⟨rfl, hPo⟩ rfl rfl hl.1 (Nat.le_of_ble_eq_true rfl) dX2_editRemoveLast_2 ⟨Nat.le_of_ble_eq_true rfl, Nat.le_of_ble_eq_true rfl⟩) hS (fun q h => h.elim (fun z => absurd z List.not_mem_nil) (fun z => hAn q (Nat.le_trans hS.1 z))) (fun q h => h.elim (fun z => absurd z List.not_mem_nil) (fun z => hAn q (Nat.le_trans hS.1 z))) (fun uw_ H locs hΨ hz hkp hS => ?_)
  obtain ⟨v1, v2, v3⟩ := uw_
  obtain ⟨hP1, hdd1, hv_v1, hv_v2, hv_v3⟩ := hΨ
  have hv1 : sz ≤ v1 := Nat.le_trans hup hv_v1
  have hv2 : sz ≤ v2 := Nat.le_trans hup hv_v2
  have hv3 : sz ≤ v3 := Nat.le_trans hup hv_v3
  have hP1 : va_P G.1 vwCl [(v1, .inr (1, [.ref v2, .ref v3, .int (nI r.2.2.2)])), (v2, .inl (xcI G, capN (r.2.2.2 + 0), .inl (cpI (fun _ => 0) r.2.1 r.2.2.2))), (v3, .inl (xcI G, 101, .inl (cpI (fillF (fun _ => 0) (-5) 101) r.2.2.1 101)))] H := hP1
  obtain ⟨hP, hD⟩ := x_joinA hPold hDold hSold hAn [] [0] (wc := []) (wr := [(n0, .inr (2, [.ref nv, .int (nI ev), .int (nI md), va_rf er, .int fo]))]) (w1 := [(v1, .inr (1, [.ref v2, .ref v3, .int (nI r.2.2.2)])), (v2, .inl (xcI G, capN (r.2.2.2 + 0), .inl (cpI (fun _ => 0) r.2.1 r.2.2.2))), (v3, .inl (xcI G, 101, .inl (cpI (fillF (fun _ => 0) (-5) 101) r.2.2.1 101)))]) rfl rfl (by decide) (by decide) (fun q h1 h2 => hkp q h1 (fun z => z.elim (fun y => absurd y List.not_mem_nil) (fun y => absurd y (Nat.not_le.mpr h1)))) hP1 hdd1.1 (by simp only [List.map_cons, List.map_nil, List.mem_cons, List.not_mem_nil, or_false]; rintro q (rfl | rfl | rfl) <;> first | exact Or.inl rfl | exact Or.inr (by assumption) | simp)
  have hP : va_P G.1 vwCl [(n0, .inr (2, [.ref nv, .int (nI ev), .int (nI md), va_rf er, .int fo])), (v1, .inr (1, [.ref v2, .ref v3, .int (nI r.2.2.2)])), (v2, .inl (xcI G, capN (r.2.2.2 + 0), .inl (cpI (fun _ => 0) r.2.1 r.2.2.2))), (v3, .inl (xcI G, 101, .inl (cpI (fillF (fun _ => 0) (-5) 101) r.2.2.1 101)))] H := hP
  have hD : va_D (fun q => q ∈ [n0] ∨ sz ≤ q) [(n0, .inr (2, [.ref nv, .int (nI ev), .int (nI md), va_rf er, .int fo])), (v1, .inr (1, [.ref v2, .ref v3, .int (nI r.2.2.2)])), (v2, .inl (xcI G, capN (r.2.2.2 + 0), .inl (cpI (fun _ => 0) r.2.1 r.2.2.2))), (v3, .inl (xcI G, 101, .inl (cpI (fillF (fun _ => 0) (-5) 101) r.2.2.1 101)))] := hD
  refine W.eq (g2 := F0 m 5 ls [.ref v1]) rfl ?_
  refine lv_astore_n (lv' := [(2, .ref v1), (0, .ref n0), (1, .ref rx)]) hx hb dX2_editRemoveLast_5 rfl hl (by decide) rfl (fun ls hl => ?_)
  refine lv_aload_n hx hb dX2_editRemoveLast_6 rfl (lv_at hl 1 rfl) ?_
  refine lv_aload_n hx hb dX2_editRemoveLast_7 rfl (lv_at hl 0 rfl) ?_
  refine lv_aload_n hx hb dX2_editRemoveLast_8 rfl (lv_at hl 0 rfl) ?_
  refine lv_aload_n hx hb dX2_editRemoveLast_9 rfl (lv_at hl 1 rfl) ?_
  refine va_get (D := G.1) (ci := 2) (v := .int (nI md)) (C := RX2) (T := TX2) (N := 5) hx hb hts hi_X2_editRemoveLast_RX2 hown hK hP 0 rfl rfl 2 (by decide) (hts _ hw_X2_editRemoveLast_f21) (fun _ h9 => h9) rfl dX2_editRemoveLast_10 ?_
  refine lv_aload_n hx hb dX2_editRemoveLast_13 rfl (lv_at hl 1 rfl) ?_
  refine va_get (D := G.1) (ci := 2) (v := .int fo) (C := RX2) (T := TX2) (N := 5) hx hb hts hi_X2_editRemoveLast_RX2 hown hK hP 0 rfl rfl 4 (by decide) (hts _ hw_X2_editRemoveLast_f29) (fun _ h9 => h9) rfl dX2_editRemoveLast_14 ?_
  have hd3 : xDis (xB0 G) [v1, v2, v3] := hdd1
  refine xwr (xrunV (As := [.int (nI md), .int fo]) (rest := [.ref v1, .ref n0]) S (c_X1_removeLast l G v1 v2 v3 (capN (r.2.2.2 + 0)) (cpI (fun _ => 0) r.2.1 r.2.2.2) (cpI (fillF (fun _ => 0) (-5) 101) r.2.2.1 101) r.2.2.2 md fo hd3 hl1 hk1) (cwV 2 hts gX2_editRemoveLast_X1_removeLast rfl rfl rfl (by decide +kernel) ⟨Nat.le_of_ble_eq_true rfl, Nat.le_of_ble_eq_true rfl⟩) hE hS hA 1 1 hP rfl rfl rfl (hP.sub [1, 2, 3] rfl) rfl rfl hl.1 (Nat.le_of_ble_eq_true rfl) dX2_editRemoveLast_17 ⟨Nat.le_of_ble_eq_true rfl, Nat.le_of_ble_eq_true rfl⟩) hS (fun q h => Or.inr (by simp only [List.mem_cons, List.not_mem_nil, or_false] at h; rcases h with rfl | rfl | rfl <;> assumption)) (fun q h => Or.inr (by simp only [List.mem_cons, List.not_mem_nil, or_false] at h; rcases h with rfl | rfl | rfl <;> assumption)) (fun uw_ H locs hΨ hz hkp hS => ?_)
  have hP := (x_join hP hD [1, 2, 3] [0] (wc := [(v1, .inr (1, [.ref v2, .ref v3, .int (nI r.2.2.2)])), (v2, .inl (xcI G, (capN (r.2.2.2 + 0)), .inl (cpI (fun _ => 0) r.2.1 r.2.2.2))), (v3, .inl (xcI G, 101, .inl (cpI (fillF (fun _ => 0) (-5) 101) r.2.2.1 101)))]) (wr := [(n0, .inr (2, [.ref nv, .int (nI ev), .int (nI md), va_rf er, .int fo]))]) rfl rfl (by decide) hkp hΨ).sub (ws' := [(n0, .inr (2, [.ref nv, .int (nI ev), .int (nI md), va_rf er, .int fo])), (v1, .inr (1, [.ref v2, .ref v3, .int (nI (r.2.2.2 - 1))])), (v2, .inl (xcI G, (capN (r.2.2.2 + 0)), .inl (cpI (fun _ => 0) r.2.1 r.2.2.2))), (v3, .inl (xcI G, 101, .inl ((rmN (cpI (fillF (fun _ => 0) (-5) 101) r.2.2.1 101) r.2.2.2 md fo).1)))]) [0, 1, 2, 3] rfl
  have hD : va_D (fun q => q ∈ [n0] ∨ sz ≤ q) [(n0, .inr (2, [.ref nv, .int (nI ev), .int (nI md), va_rf er, .int fo])), (v1, .inr (1, [.ref v2, .ref v3, .int (nI (r.2.2.2 - 1))])), (v2, .inl (xcI G, (capN (r.2.2.2 + 0)), .inl (cpI (fun _ => 0) r.2.1 r.2.2.2))), (v3, .inl (xcI G, 101, .inl ((rmN (cpI (fillF (fun _ => 0) (-5) 101) r.2.2.1 101) r.2.2.2 md fo).1)))] := (x_Dadr hD rfl)
  refine W.eq (g2 := F0 m 20 ls [.int (nI ((rmN (cpI (fillF (fun _ => 0) (-5) 101) r.2.2.1 101) r.2.2.2 md fo).2)), .ref v1, .ref n0]) rfl ?_
  refine xwr (xrunV (As := [.ref v1, .int (nI ((rmN (cpI (fillF (fun _ => 0) (-5) 101) r.2.2.1 101) r.2.2.2 md fo).2))]) (rest := []) S (c_X2_takeEditRow_o l G n0 nv ev md er fo v1 ((rmN (cpI (fillF (fun _ => 0) (-5) 101) r.2.2.1 101) r.2.2.2 md fo).2) hn0) (cwV 2 hts gX2_editRemoveLast_X2_takeEditRow rfl rfl rfl (by decide +kernel) ⟨Nat.le_of_ble_eq_true rfl, Nat.le_of_ble_eq_true rfl⟩) hE hS hA 0 2 hP rfl rfl rfl (hP.sub [0] rfl) rfl rfl hl.1 (Nat.le_of_ble_eq_true rfl) dX2_editRemoveLast_20 ⟨Nat.le_of_ble_eq_true rfl, Nat.le_of_ble_eq_true rfl⟩) hS (fun q h => Or.inl h) (fun q h => Or.inl h) (fun uw_ H locs hΨ hz hkp hS => ?_)
  have hP := (x_join hP hD [0] [1, 2, 3] (wc := [(n0, .inr (2, [.ref nv, .int (nI ev), .int (nI md), va_rf er, .int fo]))]) (wr := [(v1, .inr (1, [.ref v2, .ref v3, .int (nI (r.2.2.2 - 1))])), (v2, .inl (xcI G, (capN (r.2.2.2 + 0)), .inl (cpI (fun _ => 0) r.2.1 r.2.2.2))), (v3, .inl (xcI G, 101, .inl ((rmN (cpI (fillF (fun _ => 0) (-5) 101) r.2.2.1 101) r.2.2.2 md fo).1)))]) rfl rfl (by decide) hkp hΨ).sub (ws' := [(n0, .inr (2, [.ref nv, .int (nI ev), .int (nI (md + ((rmN (cpI (fillF (fun _ => 0) (-5) 101) r.2.2.1 101) r.2.2.2 md fo).2))), .ref v1, .int fo])), (v1, .inr (1, [.ref v2, .ref v3, .int (nI (r.2.2.2 - 1))])), (v2, .inl (xcI G, (capN (r.2.2.2 + 0)), .inl (cpI (fun _ => 0) r.2.1 r.2.2.2))), (v3, .inl (xcI G, 101, .inl ((rmN (cpI (fillF (fun _ => 0) (-5) 101) r.2.2.1 101) r.2.2.2 md fo).1)))]) [3, 0, 1, 2] rfl
  have hD : va_D (fun q => q ∈ [n0] ∨ sz ≤ q) [(n0, .inr (2, [.ref nv, .int (nI ev), .int (nI (md + ((rmN (cpI (fillF (fun _ => 0) (-5) 101) r.2.2.1 101) r.2.2.2 md fo).2))), .ref v1, .int fo])), (v1, .inr (1, [.ref v2, .ref v3, .int (nI (r.2.2.2 - 1))])), (v2, .inl (xcI G, (capN (r.2.2.2 + 0)), .inl (cpI (fun _ => 0) r.2.1 r.2.2.2))), (v3, .inl (xcI G, 101, .inl ((rmN (cpI (fillF (fun _ => 0) (-5) 101) r.2.2.1 101) r.2.2.2 md fo).1)))] := (x_Dadr hD rfl)
  refine W.eq (g2 := F0 m 23 ls [.int (nI ((rmN (cpI (fillF (fun _ => 0) (-5) 101) r.2.2.1 101) r.2.2.2 md fo).2))]) rfl ?_
  have hdd := xDis.of (B := xB0 G) hD (by simp only [List.map_cons, List.map_nil, List.mem_cons, List.not_mem_nil, or_false]; rintro q (rfl | rfl | rfl | rfl) <;> omega)
  exact xend_i (v1, v2, v3) hx hb hr hlk_ hS (fun _ h => h) dX2_editRemoveLast_23 rfl ⟨hP, hdd, hv1, hv2, hv3⟩ (Nat.le_refl _) (Nat.le_refl _)

def apR (r : Rw) (vl : Nat → Int32) (md : Nat) (fo : Int32) : Nat → Rw × Nat
  | 0 => (r, 0)
  | k + 1 => (rwWr (apR r vl md fo k).1 (apR r vl md fo k).1.2.2.2 (vl k) (md + (apR r vl md fo k).2) fo, (apR r vl md fo k).2 + rwWrC (apR r vl md fo k).1 (apR r vl md fo k).1.2.2.2 (md + (apR r vl md fo k).2) fo)
theorem apR_len (r : Rw) (vl : Nat → Int32) (md : Nat) (fo : Int32) (k : Nat) : (apR r vl md fo k).1.2.2.2 = r.2.2.2 + k := by
  induction k with
  | zero => rfl
  | succ k ih => rw [apR]; show (if _ = _ then _ else _) = _; rw [if_pos rfl, ih]; rfl
theorem apR_cap (r : Rw) (vl : Nat → Int32) (md : Nat) (fo : Int32) (k : Nat) : (apR r vl md fo k).1.1 = r.1 := by
  induction k with
  | zero => rfl
  | succ k ih => rw [apR]; exact ih

theorem hw_X2_editAppendAll_f53 : Cond.fieldLink RX2 53 "TailVectors$Row" "length" "I" ∈ wsX2_editAppendAll := by decide +kernel
theorem hi_X2_editAppendAll_RX1 : ∀ w ∈ u_ws RX1 TX1 3, w ∈ wsX2_editAppendAll := by decide +kernel
theorem hw_X2_editAppendAll_f21 : Cond.fieldLink RX2 21 "TailVectors$State" "made" "I" ∈ wsX2_editAppendAll := by decide +kernel
theorem hi_X2_editAppendAll_RX2 : ∀ w ∈ u_ws RX2 TX2 5, w ∈ wsX2_editAppendAll := by decide +kernel
theorem hw_X2_editAppendAll_f29 : Cond.fieldLink RX2 29 "TailVectors$State" "firstOwn" "I" ∈ wsX2_editAppendAll := by decide +kernel
set_option maxHeartbeats 4000000 in
set_option maxRecDepth 100000 in
theorem c_X2_editAppendAll (l : Launch) (G : xG) (n0 : Nat) (nv : Nat) (ev : Nat) (md : Nat) (er : Option Nat) (fo : Int32) (rx : Nat) (vx : Nat) (nx : Nat) (r : Rw) (sz : Nat) (qa : Nat) (nvl : Nat) (vl : Nat → Int32) (hn0 : xB0 G ≤ n0) (hsz0 : xB0 G ≤ sz) (hxn : ∀ q ∈ [rx, vx, nx], q ∉ [n0]) (hokr : okR r) (hqn : ∀ q ∈ [qa], q ∉ [n0]) (hnv : r.2.2.2 + nvl ≤ 300) : Met l yX2_editAppendAll wsX2_editAppendAll ({ frames := 4, cells := 3, slots := 404, locals := 97 } : Room) (xPc G [.ref n0, .ref rx, .ref qa] (fun H => H.size = sz ∧ va_P G.1 vwCl [(n0, .inr (2, [.ref nv, .int (nI ev), .int (nI md), va_rf er, .int fo]))] H ∧ va_P G.1 vwCl [(rx, .inr (1, [.ref vx, .ref nx, .int (nI r.2.2.2)])), (vx, .inl (xcI G, r.1, .inl r.2.1)), (nx, .inl (xcI G, 101, .inl r.2.2.1))] H ∧ va_P G.1 vwCl [(qa, .inl (xcI G, nvl, .inl vl))] H)) (xQ (σ := (Nat × Nat × Nat)) (fun u => some (.int (nI ((apR (rwCp r nvl) vl md fo nvl).2)))) (fun u H => va_P G.1 vwCl [(n0, .inr (2, [.ref nv, .int (nI ev), .int (nI (md + (apR (rwCp r nvl) vl md fo nvl).2)), .ref u.1, .int fo])), (u.1, .inr (1, [.ref u.2.1, .ref u.2.2, .int (nI ((apR (rwCp r nvl) vl md fo nvl).1.2.2.2))])), (u.2.1, .inl (xcI G, (apR (rwCp r nvl) vl md fo nvl).1.1, .inl ((apR (rwCp r nvl) vl md fo nvl).1.2.1))), (u.2.2, .inl (xcI G, 101, .inl ((apR (rwCp r nvl) vl md fo nvl).1.2.2.1)))] H ∧ xDis (xB0 G) [n0, u.1, u.2.1, u.2.2] ∧ sz ≤ u.1 ∧ sz ≤ u.2.1 ∧ sz ≤ u.2.2) (fun q => q ∈ [n0] ∨ sz ≤ q)) 3 404 (fun q => q ∈ [n0] ∨ sz ≤ q) := by
  refine xMet (cc := cX2_editAppendAll) (nL := 9) (ret := (some (.int))) (by decide) rfl (Nat.le_of_ble_eq_true rfl) ?_
  intro p e s m below meth c S hr hlk_ hnm hE hP ls hl
  obtain ⟨hx, hb, hml, hown, hts⟩ := id S
  have hown : s.vm.findClass RX2 = some m.cls := hown
  have hK := hE.1
  have hS : va_S (fun q => q ∈ [n0] ∨ sz ≤ q) s.heap s.heap [] := va_S.rf
  have hA : ∀ q, (fun q => q ∈ [n0] ∨ sz ≤ q) q → xB0 G ≤ q := (fun q h => h.elim (fun z => by rw [List.mem_singleton.mp z]; exact hn0) (fun z => Nat.le_trans hsz0 z))
  obtain ⟨hsz, hP, hPo, hVo⟩ := hP
  have hPo : va_P G.1 vwCl [(rx, .inr (1, [.ref vx, .ref nx, .int (nI r.2.2.2)])), (vx, .inl (xcI G, r.1, .inl r.2.1)), (nx, .inl (xcI G, 101, .inl r.2.2.1))] s.heap := hPo
  have hAn : ∀ q, s.heap.size ≤ q → (fun q => q ∈ [n0] ∨ sz ≤ q) q := fun q h => Or.inr (by rw [← hsz]; exact h)
  obtain ⟨hk1, hk2, hk3⟩ := hokr
  have hPoA : ∀ q ∈ ([(rx, .inr (1, [.ref vx, .ref nx, .int (nI r.2.2.2)])), (vx, .inl (xcI G, r.1, .inl r.2.1)), (nx, .inl (xcI G, 101, .inl r.2.2.1))] : va_W).map (fun x => x.1), ¬ (q ∈ [n0] ∨ sz ≤ q) := fun q hq z => z.elim (hxn q hq) (fun y => absurd (x_lt hPo hq) (Nat.not_lt.mpr (by rw [hsz]; exact y)))
  have hVo : va_P G.1 vwCl [(qa, .inl (xcI G, nvl, .inl vl))] s.heap := hVo
  have hVoA : ∀ q ∈ ([(qa, .inl (xcI G, nvl, .inl vl))] : va_W).map (fun x => x.1), ¬ (q ∈ [n0] ∨ sz ≤ q) := fun q hq z => z.elim (hqn q hq) (fun y => absurd (x_lt hVo hq) (Nat.not_lt.mpr (by rw [hsz]; exact y)))
  have hP : va_P G.1 vwCl [(n0, .inr (2, [.ref nv, .int (nI ev), .int (nI md), va_rf er, .int fo]))] s.heap := hP
  have hD : va_D (fun q => q ∈ [n0] ∨ sz ≤ q) [(n0, .inr (2, [.ref nv, .int (nI ev), .int (nI md), va_rf er, .int fo]))] := ⟨fun i j p q hi hj _ => by have := (List.getElem?_eq_some_iff.mp hi).1; have := (List.getElem?_eq_some_iff.mp hj).1; simp at *; omega, fun k q hk => by have := List.mem_of_getElem? hk; simp at this; rw [this]; exact Or.inl (List.mem_singleton.mpr rfl)⟩
  have hl : lv_has ls 9 [(0, .ref n0), (1, .ref rx), (2, .ref qa)] := hl
  refine lv_aload_n hx hb dX2_editAppendAll_0 rfl (lv_at hl 1 rfl) ?_
  refine lv_aload_n hx hb dX2_editAppendAll_1 rfl (lv_at hl 2 rfl) ?_
  refine va_alen (v := nI nvl) hx hb hK (x_ro hVo hS hVoA) 0 0 rfl rfl rfl dX2_editAppendAll_2 ?_
  have hup := x_up hS hsz
  have hPold := hP; have hDold := hD; have hSold := hS
  refine xwr (xrunV (As := [.int (nI nvl)]) (rest := []) S (c_X1_copy l G rx vx nx r.1 r.2.1 r.2.2.1 r.2.2.2 s.heap.size nvl (by rw [hsz]; exact hsz0) (by omega) hk1 hk2 hk3) (cwV 1 hts gX2_editAppendAll_X1_copy rfl rfl rfl (by decide +kernel) ⟨Nat.le_of_ble_eq_true rfl, Nat.le_of_ble_eq_true rfl⟩) hE hS hA 0 1 (x_ro hPo hS hPoA) rfl rfl rfl ⟨rfl, hPo⟩ rfl rfl hl.1 (Nat.le_of_ble_eq_true rfl) dX2_editAppendAll_3 ⟨Nat.le_of_ble_eq_true rfl, Nat.le_of_ble_eq_true rfl⟩) hS (fun q h => h.elim (fun z => absurd z List.not_mem_nil) (fun z => hAn q (Nat.le_trans hS.1 z))) (fun q h => h.elim (fun z => absurd z List.not_mem_nil) (fun z => hAn q (Nat.le_trans hS.1 z))) (fun uw_ H locs hΨ hz hkp hS => ?_)
  obtain ⟨v1, v2, v3⟩ := uw_
  obtain ⟨hP1, hdd1, hv_v1, hv_v2, hv_v3⟩ := hΨ
  have hv1 : sz ≤ v1 := Nat.le_trans hup hv_v1
  have hv2 : sz ≤ v2 := Nat.le_trans hup hv_v2
  have hv3 : sz ≤ v3 := Nat.le_trans hup hv_v3
  have hP1 : va_P G.1 vwCl [(v1, .inr (1, [.ref v2, .ref v3, .int (nI r.2.2.2)])), (v2, .inl (xcI G, capN (r.2.2.2 + nvl), .inl (cpI (fun _ => 0) r.2.1 r.2.2.2))), (v3, .inl (xcI G, 101, .inl (cpI (fillF (fun _ => 0) (-5) 101) r.2.2.1 101)))] H := hP1
  obtain ⟨hP, hD⟩ := x_joinA hPold hDold hSold hAn [] [0] (wc := []) (wr := [(n0, .inr (2, [.ref nv, .int (nI ev), .int (nI md), va_rf er, .int fo]))]) (w1 := [(v1, .inr (1, [.ref v2, .ref v3, .int (nI r.2.2.2)])), (v2, .inl (xcI G, capN (r.2.2.2 + nvl), .inl (cpI (fun _ => 0) r.2.1 r.2.2.2))), (v3, .inl (xcI G, 101, .inl (cpI (fillF (fun _ => 0) (-5) 101) r.2.2.1 101)))]) rfl rfl (by decide) (by decide) (fun q h1 h2 => hkp q h1 (fun z => z.elim (fun y => absurd y List.not_mem_nil) (fun y => absurd y (Nat.not_le.mpr h1)))) hP1 hdd1.1 (by simp only [List.map_cons, List.map_nil, List.mem_cons, List.not_mem_nil, or_false]; rintro q (rfl | rfl | rfl) <;> first | exact Or.inl rfl | exact Or.inr (by assumption) | simp)
  have hP : va_P G.1 vwCl [(n0, .inr (2, [.ref nv, .int (nI ev), .int (nI md), va_rf er, .int fo])), (v1, .inr (1, [.ref v2, .ref v3, .int (nI r.2.2.2)])), (v2, .inl (xcI G, capN (r.2.2.2 + nvl), .inl (cpI (fun _ => 0) r.2.1 r.2.2.2))), (v3, .inl (xcI G, 101, .inl (cpI (fillF (fun _ => 0) (-5) 101) r.2.2.1 101)))] H := hP
  have hD : va_D (fun q => q ∈ [n0] ∨ sz ≤ q) [(n0, .inr (2, [.ref nv, .int (nI ev), .int (nI md), va_rf er, .int fo])), (v1, .inr (1, [.ref v2, .ref v3, .int (nI r.2.2.2)])), (v2, .inl (xcI G, capN (r.2.2.2 + nvl), .inl (cpI (fun _ => 0) r.2.1 r.2.2.2))), (v3, .inl (xcI G, 101, .inl (cpI (fillF (fun _ => 0) (-5) 101) r.2.2.1 101)))] := hD
  refine W.eq (g2 := F0 m 6 ls [.ref v1]) rfl ?_
  refine lv_astore_n (lv' := [(3, .ref v1), (0, .ref n0), (1, .ref rx), (2, .ref qa)]) hx hb dX2_editAppendAll_6 rfl hl (by decide) rfl (fun ls hl => ?_)
  refine lv_iconst (v := nI 0) hx hb dX2_editAppendAll_7 rfl ?_
  refine lv_istore (lv' := [(4, .int (nI 0)), (3, .ref v1), (0, .ref n0), (1, .ref rx), (2, .ref qa)]) hx hb dX2_editAppendAll_8 hl (by decide) rfl (fun ls hl => ?_)
  refine lv_aload_n hx hb dX2_editAppendAll_10 rfl (lv_at hl 4 rfl) ?_
  refine lv_astore (lv' := [(5, .ref qa), (4, .int (nI 0)), (3, .ref v1), (0, .ref n0), (1, .ref rx), (2, .ref qa)]) hx hb dX2_editAppendAll_11 hl (by decide) rfl (fun ls hl => ?_)
  refine lv_aload hx hb dX2_editAppendAll_13 (lv_at hl 0 rfl) ?_
  refine va_alen (v := nI nvl) hx hb hK (x_ro hVo hS hVoA) 0 0 rfl rfl rfl dX2_editAppendAll_15 ?_
  refine lv_istore (lv' := [(6, .int (nI nvl)), (5, .ref qa), (4, .int (nI 0)), (3, .ref v1), (0, .ref n0), (1, .ref rx), (2, .ref qa)]) hx hb dX2_editAppendAll_16 hl (by decide) rfl (fun ls hl => ?_)
  refine lv_iconst (v := nI 0) hx hb dX2_editAppendAll_18 rfl ?_
  refine lv_istore (lv' := [(7, .int (nI 0)), (6, .int (nI nvl)), (5, .ref qa), (4, .int (nI 0)), (3, .ref v1), (0, .ref n0), (1, .ref rx), (2, .ref qa)]) hx hb dX2_editAppendAll_19 hl (by decide) rfl (fun ls hl => ?_)
  have hd3 : xDis (xB0 G) [v1, v2, v3] := hdd1
  have hD0 := hD
  have hP : va_P G.1 vwCl [(n0, .inr (2, [.ref nv, .int (nI ev), .int (nI md), va_rf er, .int fo])), (v1, .inr (1, [.ref v2, .ref v3, .int (nI ((apR (rwCp r nvl) vl md fo 0).1.2.2.2))])), (v2, .inl (xcI G, (apR (rwCp r nvl) vl md fo 0).1.1, .inl ((apR (rwCp r nvl) vl md fo 0).1.2.1))), (v3, .inl (xcI G, 101, .inl ((apR (rwCp r nvl) vl md fo 0).1.2.2.1)))] H := hP
  have hl : lv_has ls 9 [(4, .int (nI ((apR (rwCp r nvl) vl md fo 0).2))), (7, .int (nI 0)), (6, .int (nI nvl)), (5, .ref qa), (3, .ref v1), (0, .ref n0), (1, .ref rx), (2, .ref qa)] := lv_sub hl [3, 0, 1, 2, 4, 5, 6, 7] rfl
  refine xloop (σ := Nat) (C := (fun (x_ : Nat) H locs ls => (x_ ≤ nvl) ∧ va_P G.1 vwCl [(n0, .inr (2, [.ref nv, .int (nI ev), .int (nI md), va_rf er, .int fo])), (v1, .inr (1, [.ref v2, .ref v3, .int (nI ((apR (rwCp r nvl) vl md fo x_).1.2.2.2))])), (v2, .inl (xcI G, (apR (rwCp r nvl) vl md fo x_).1.1, .inl ((apR (rwCp r nvl) vl md fo x_).1.2.1))), (v3, .inl (xcI G, 101, .inl ((apR (rwCp r nvl) vl md fo x_).1.2.2.1)))] H ∧ va_S (fun q => q ∈ [n0] ∨ sz ≤ q) s.heap H locs ∧ lv_has ls 9 [(4, .int (nI ((apR (rwCp r nvl) vl md fo x_).2))), (7, .int (nI x_)), (6, .int (nI nvl)), (5, .ref qa), (3, .ref v1), (0, .ref n0), (1, .ref rx), (2, .ref qa)])) (μ := (fun (x_ : Nat) => nvl - x_)) (W' := fun H locs ls => W p l e _ s m _ below meth c H locs _ _ _ (F0 m 21 ls [])) ?_ 0 _ _ _ ⟨(Nat.zero_le _), hP, hS, hl⟩
  intro x_ H locs ls hC ih_21
  obtain ⟨k, rfl⟩ : ∃ z, z = x_ := ⟨x_, rfl⟩
  obtain ⟨hkn, hP, hS, hl⟩ := hC
  replace hkn : k ≤ nvl := hkn
  replace hP : va_P G.1 vwCl [(n0, .inr (2, [.ref nv, .int (nI ev), .int (nI md), va_rf er, .int fo])), (v1, .inr (1, [.ref v2, .ref v3, .int (nI ((apR (rwCp r nvl) vl md fo k).1.2.2.2))])), (v2, .inl (xcI G, (apR (rwCp r nvl) vl md fo k).1.1, .inl ((apR (rwCp r nvl) vl md fo k).1.2.1))), (v3, .inl (xcI G, 101, .inl ((apR (rwCp r nvl) vl md fo k).1.2.2.1)))] H := hP
  have hD : va_D (fun q => q ∈ [n0] ∨ sz ≤ q) [(n0, .inr (2, [.ref nv, .int (nI ev), .int (nI md), va_rf er, .int fo])), (v1, .inr (1, [.ref v2, .ref v3, .int (nI ((apR (rwCp r nvl) vl md fo k).1.2.2.2))])), (v2, .inl (xcI G, (apR (rwCp r nvl) vl md fo k).1.1, .inl ((apR (rwCp r nvl) vl md fo k).1.2.1))), (v3, .inl (xcI G, 101, .inl ((apR (rwCp r nvl) vl md fo k).1.2.2.1)))] := (x_Dadr hD0 rfl)
  replace hl : lv_has ls 9 [(4, .int (nI ((apR (rwCp r nvl) vl md fo k).2))), (7, .int (nI k)), (6, .int (nI nvl)), (5, .ref qa), (3, .ref v1), (0, .ref n0), (1, .ref rx), (2, .ref qa)] := hl
  refine id ?_
  have hL9 : (apR (rwCp r nvl) vl md fo k).1.2.2.2 = r.2.2.2 + k := apR_len _ _ _ _ _
  have hC9 : (apR (rwCp r nvl) vl md fo k).1.1 = r.2.2.2 + nvl := (apR_cap _ _ _ _ _).trans (capN_id hnv)
  refine lv_iload hx hb dX2_editAppendAll_21 (lv_at hl 1 rfl) ?_
  refine lv_iload hx hb dX2_editAppendAll_23 (lv_at hl 2 rfl) ?_
  refine n_icmp_ge (tgt := 67) hx hb (by omega) (by omega) dX2_editAppendAll_25 (by decide) (fun c_25 => ?_) (fun c_25 => ?_)
  · have hi9 : nvl = k := by omega
    subst hi9
    refine lv_aload_n hx hb dX2_editAppendAll_67 rfl (lv_at hl 5 rfl) ?_
    refine lv_aload_n hx hb dX2_editAppendAll_68 rfl (lv_at hl 4 rfl) ?_
    refine lv_iload hx hb dX2_editAppendAll_69 (lv_at hl 0 rfl) ?_
    refine xwr (xrunV (As := [.ref v1, .int (nI ((apR (rwCp r nvl) vl md fo nvl).2))]) (rest := []) S (c_X2_takeEditRow_o l G n0 nv ev md er fo v1 ((apR (rwCp r nvl) vl md fo nvl).2) hn0) (cwV 2 hts gX2_editAppendAll_X2_takeEditRow rfl rfl rfl (by decide +kernel) ⟨Nat.le_of_ble_eq_true rfl, Nat.le_of_ble_eq_true rfl⟩) hE hS hA 0 2 hP rfl rfl rfl (hP.sub [0] rfl) rfl rfl hl.1 (Nat.le_of_ble_eq_true rfl) dX2_editAppendAll_71 ⟨Nat.le_of_ble_eq_true rfl, Nat.le_of_ble_eq_true rfl⟩) hS (fun q h => Or.inl h) (fun q h => Or.inl h) (fun uw_ H locs hΨ hz hkp hS => ?_)
    have hP := (x_join hP hD [0] [1, 2, 3] (wc := [(n0, .inr (2, [.ref nv, .int (nI ev), .int (nI md), va_rf er, .int fo]))]) (wr := [(v1, .inr (1, [.ref v2, .ref v3, .int (nI ((apR (rwCp r nvl) vl md fo nvl).1.2.2.2))])), (v2, .inl (xcI G, (apR (rwCp r nvl) vl md fo nvl).1.1, .inl ((apR (rwCp r nvl) vl md fo nvl).1.2.1))), (v3, .inl (xcI G, 101, .inl ((apR (rwCp r nvl) vl md fo nvl).1.2.2.1)))]) rfl rfl (by decide) hkp hΨ).sub (ws' := [(n0, .inr (2, [.ref nv, .int (nI ev), .int (nI (md + ((apR (rwCp r nvl) vl md fo nvl).2))), .ref v1, .int fo])), (v1, .inr (1, [.ref v2, .ref v3, .int (nI ((apR (rwCp r nvl) vl md fo nvl).1.2.2.2))])), (v2, .inl (xcI G, (apR (rwCp r nvl) vl md fo nvl).1.1, .inl ((apR (rwCp r nvl) vl md fo nvl).1.2.1))), (v3, .inl (xcI G, 101, .inl ((apR (rwCp r nvl) vl md fo nvl).1.2.2.1)))]) [3, 0, 1, 2] rfl
    have hD : va_D (fun q => q ∈ [n0] ∨ sz ≤ q) [(n0, .inr (2, [.ref nv, .int (nI ev), .int (nI (md + ((apR (rwCp r nvl) vl md fo nvl).2))), .ref v1, .int fo])), (v1, .inr (1, [.ref v2, .ref v3, .int (nI ((apR (rwCp r nvl) vl md fo nvl).1.2.2.2))])), (v2, .inl (xcI G, (apR (rwCp r nvl) vl md fo nvl).1.1, .inl ((apR (rwCp r nvl) vl md fo nvl).1.2.1))), (v3, .inl (xcI G, 101, .inl ((apR (rwCp r nvl) vl md fo nvl).1.2.2.1)))] := (x_Dadr hD rfl)
    refine W.eq (g2 := F0 m 74 ls [.int (nI ((apR (rwCp r nvl) vl md fo nvl).2))]) rfl ?_
    have hdd := xDis.of (B := xB0 G) hD (by simp only [List.map_cons, List.map_nil, List.mem_cons, List.not_mem_nil, or_false]; rintro q (rfl | rfl | rfl | rfl) <;> omega)
    exact xend_i (v1, v2, v3) hx hb hr hlk_ hS (fun _ h => h) dX2_editAppendAll_74 rfl ⟨hP, hdd, hv1, hv2, hv3⟩ (Nat.le_refl _) (Nat.le_refl _)
  · refine lv_aload hx hb dX2_editAppendAll_28 (lv_at hl 3 rfl) ?_
    refine lv_iload hx hb dX2_editAppendAll_30 (lv_at hl 1 rfl) ?_
    refine i_iald hx hb hK (x_ro hVo hS hVoA) 0 0 rfl rfl (by omega) (by omega) dX2_editAppendAll_32 ?_
    refine lv_istore (lv' := [(8, .int (vl k)), (4, .int (nI ((apR (rwCp r nvl) vl md fo k).2))), (7, .int (nI k)), (6, .int (nI nvl)), (5, .ref qa), (3, .ref v1), (0, .ref n0), (1, .ref rx), (2, .ref qa)]) hx hb dX2_editAppendAll_33 hl (by decide) rfl (fun ls hl => ?_)
    refine lv_iload hx hb dX2_editAppendAll_35 (lv_at hl 1 rfl) ?_
    refine lv_aload_n hx hb dX2_editAppendAll_37 rfl (lv_at hl 5 rfl) ?_
    refine lv_aload_n hx hb dX2_editAppendAll_38 rfl (lv_at hl 5 rfl) ?_
    refine va_get (D := G.1) (ci := 1) (v := .int (nI ((apR (rwCp r nvl) vl md fo k).1.2.2.2))) (C := RX1) (T := TX1) (N := 3) hx hb hts hi_X2_editAppendAll_RX1 hown hK hP 1 rfl rfl 2 (by decide) (hts _ hw_X2_editAppendAll_f53) (fun _ h9 => h9) rfl dX2_editAppendAll_39 ?_
    refine lv_iload hx hb dX2_editAppendAll_42 (lv_at hl 0 rfl) ?_
    refine lv_aload_n hx hb dX2_editAppendAll_44 rfl (lv_at hl 6 rfl) ?_
    refine va_get (D := G.1) (ci := 2) (v := .int (nI md)) (C := RX2) (T := TX2) (N := 5) hx hb hts hi_X2_editAppendAll_RX2 hown hK hP 0 rfl rfl 2 (by decide) (hts _ hw_X2_editAppendAll_f21) (fun _ h9 => h9) rfl dX2_editAppendAll_45 ?_
    refine lv_iload hx hb dX2_editAppendAll_48 (lv_at hl 1 rfl) ?_
    refine n_iadd hx hb dX2_editAppendAll_50 ?_
    refine lv_aload_n hx hb dX2_editAppendAll_51 rfl (lv_at hl 6 rfl) ?_
    refine va_get (D := G.1) (ci := 2) (v := .int fo) (C := RX2) (T := TX2) (N := 5) hx hb hts hi_X2_editAppendAll_RX2 hown hK hP 0 rfl rfl 4 (by decide) (hts _ hw_X2_editAppendAll_f29) (fun _ h9 => h9) rfl dX2_editAppendAll_52 ?_
    refine xwr (xrunV (As := [.int (nI ((apR (rwCp r nvl) vl md fo k).1.2.2.2)), .int (vl k), .int (nI (md + ((apR (rwCp r nvl) vl md fo k).2))), .int fo]) (rest := [.int (nI ((apR (rwCp r nvl) vl md fo k).2))]) S (c_X1_write l G v1 v2 v3 ((apR (rwCp r nvl) vl md fo k).1.1) ((apR (rwCp r nvl) vl md fo k).1.2.1) ((apR (rwCp r nvl) vl md fo k).1.2.2.1) ((apR (rwCp r nvl) vl md fo k).1.2.2.2) ((apR (rwCp r nvl) vl md fo k).1.2.2.2) (vl k) (md + ((apR (rwCp r nvl) vl md fo k).2)) fo hd3 (Nat.le_refl _) (by rw [hL9, hC9]; omega) (by rw [hC9]; omega) (by rw [hL9]; omega)) (cwV 4 hts gX2_editAppendAll_X1_write rfl rfl rfl (by decide +kernel) ⟨Nat.le_of_ble_eq_true rfl, Nat.le_of_ble_eq_true rfl⟩) hE hS hA 1 1 hP rfl rfl rfl (hP.sub [1, 2, 3] rfl) rfl rfl hl.1 (Nat.le_of_ble_eq_true rfl) dX2_editAppendAll_55 ⟨Nat.le_of_ble_eq_true rfl, Nat.le_of_ble_eq_true rfl⟩) hS (fun q h => Or.inr (by simp only [List.mem_cons, List.not_mem_nil, or_false] at h; rcases h with rfl | rfl | rfl <;> assumption)) (fun q h => Or.inr (by simp only [List.mem_cons, List.not_mem_nil, or_false] at h; rcases h with rfl | rfl | rfl <;> assumption)) (fun uw_ H locs hΨ hz hkp hS => ?_)
    have hP := (x_join hP hD [1, 2, 3] [0] (wc := [(v1, .inr (1, [.ref v2, .ref v3, .int (nI ((apR (rwCp r nvl) vl md fo k).1.2.2.2))])), (v2, .inl (xcI G, ((apR (rwCp r nvl) vl md fo k).1.1), .inl ((apR (rwCp r nvl) vl md fo k).1.2.1))), (v3, .inl (xcI G, 101, .inl ((apR (rwCp r nvl) vl md fo k).1.2.2.1)))]) (wr := [(n0, .inr (2, [.ref nv, .int (nI ev), .int (nI md), va_rf er, .int fo]))]) rfl rfl (by decide) hkp hΨ).sub (ws' := [(n0, .inr (2, [.ref nv, .int (nI ev), .int (nI md), va_rf er, .int fo])), (v1, .inr (1, [.ref v2, .ref v3, .int (nI (if ((apR (rwCp r nvl) vl md fo k).1.2.2.2) = ((apR (rwCp r nvl) vl md fo k).1.2.2.2) then ((apR (rwCp r nvl) vl md fo k).1.2.2.2) + 1 else ((apR (rwCp r nvl) vl md fo k).1.2.2.2)))])), (v2, .inl (xcI G, ((apR (rwCp r nvl) vl md fo k).1.1), .inl (upd ((apR (rwCp r nvl) vl md fo k).1.2.1) ((apR (rwCp r nvl) vl md fo k).1.2.2.2) (vl k)))), (v3, .inl (xcI G, 101, .inl ((wrN ((apR (rwCp r nvl) vl md fo k).1.2.2.1) ((apR (rwCp r nvl) vl md fo k).1.2.2.2) ((apR (rwCp r nvl) vl md fo k).1.2.2.2) (md + ((apR (rwCp r nvl) vl md fo k).2)) fo).1)))]) [0, 1, 2, 3] rfl
    have hD : va_D (fun q => q ∈ [n0] ∨ sz ≤ q) [(n0, .inr (2, [.ref nv, .int (nI ev), .int (nI md), va_rf er, .int fo])), (v1, .inr (1, [.ref v2, .ref v3, .int (nI (if ((apR (rwCp r nvl) vl md fo k).1.2.2.2) = ((apR (rwCp r nvl) vl md fo k).1.2.2.2) then ((apR (rwCp r nvl) vl md fo k).1.2.2.2) + 1 else ((apR (rwCp r nvl) vl md fo k).1.2.2.2)))])), (v2, .inl (xcI G, ((apR (rwCp r nvl) vl md fo k).1.1), .inl (upd ((apR (rwCp r nvl) vl md fo k).1.2.1) ((apR (rwCp r nvl) vl md fo k).1.2.2.2) (vl k)))), (v3, .inl (xcI G, 101, .inl ((wrN ((apR (rwCp r nvl) vl md fo k).1.2.2.1) ((apR (rwCp r nvl) vl md fo k).1.2.2.2) ((apR (rwCp r nvl) vl md fo k).1.2.2.2) (md + ((apR (rwCp r nvl) vl md fo k).2)) fo).1)))] := (x_Dadr hD rfl)
    refine W.eq (g2 := F0 m 58 ls [.int (nI ((wrN ((apR (rwCp r nvl) vl md fo k).1.2.2.1) ((apR (rwCp r nvl) vl md fo k).1.2.2.2) ((apR (rwCp r nvl) vl md fo k).1.2.2.2) (md + ((apR (rwCp r nvl) vl md fo k).2)) fo).2)), .int (nI ((apR (rwCp r nvl) vl md fo k).2))]) rfl ?_
    refine n_iadd hx hb dX2_editAppendAll_58 ?_
    refine lv_istore (lv' := [(4, .int (nI (((apR (rwCp r nvl) vl md fo k).2) + ((wrN ((apR (rwCp r nvl) vl md fo k).1.2.2.1) ((apR (rwCp r nvl) vl md fo k).1.2.2.2) ((apR (rwCp r nvl) vl md fo k).1.2.2.2) (md + ((apR (rwCp r nvl) vl md fo k).2)) fo).2)))), (8, .int (vl k)), (7, .int (nI k)), (6, .int (nI nvl)), (5, .ref qa), (3, .ref v1), (0, .ref n0), (1, .ref rx), (2, .ref qa)]) hx hb dX2_editAppendAll_59 hl (by decide) rfl (fun ls hl => ?_)
    refine lv_iinc (v := nI (k + 1)) (lv' := [(7, .int (nI (k + 1))), (4, .int (nI (((apR (rwCp r nvl) vl md fo k).2) + ((wrN ((apR (rwCp r nvl) vl md fo k).1.2.2.1) ((apR (rwCp r nvl) vl md fo k).1.2.2.2) ((apR (rwCp r nvl) vl md fo k).1.2.2.2) (md + ((apR (rwCp r nvl) vl md fo k).2)) fo).2)))), (8, .int (vl k)), (6, .int (nI nvl)), (5, .ref qa), (3, .ref v1), (0, .ref n0), (1, .ref rx), (2, .ref qa)]) hx hb dX2_editAppendAll_61 hl (k := 2) rfl (nI_add k 1) (by decide) rfl (fun ls hl => ?_)
    refine lv_goto (tgt := 21) hx hb dX2_editAppendAll_64 (by decide) ?_
    have hl : lv_has ls 9 [(4, .int (nI ((apR (rwCp r nvl) vl md fo (k + 1)).2))), (7, .int (nI (k + 1))), (6, .int (nI nvl)), (5, .ref qa), (3, .ref v1), (0, .ref n0), (1, .ref rx), (2, .ref qa)] := lv_sub hl [1, 0, 3, 4, 5, 6, 7, 8] rfl
    have hP : va_P G.1 vwCl [(n0, .inr (2, [.ref nv, .int (nI ev), .int (nI md), va_rf er, .int fo])), (v1, .inr (1, [.ref v2, .ref v3, .int (nI ((apR (rwCp r nvl) vl md fo (k + 1)).1.2.2.2))])), (v2, .inl (xcI G, (apR (rwCp r nvl) vl md fo (k + 1)).1.1, .inl ((apR (rwCp r nvl) vl md fo (k + 1)).1.2.1))), (v3, .inl (xcI G, 101, .inl ((apR (rwCp r nvl) vl md fo (k + 1)).1.2.2.1)))] H := hP
    exact ih_21 (k + 1) _ _ _ (by show nvl - (k + 1) < nvl - k; omega) ⟨(by (try dsimp only); omega), hP, hS, hl⟩
