theorem c_X6_in_n (l : Launch) (G : xG) (x a b : Nat) (hx : x < 2 ^ 31) (ha : a < 2 ^ 31) (hb : b < 2 ^ 31) : Met l yX6_in wsX6_in ({ frames := 0, cells := 0, slots := 0, locals := 0 } : Room) (xPc G [.int (nI x), .int (nI a), .int (nI b)] (fun _ => True)) (k2_QcV (.int (bI (a ≤ x ∧ x ≤ b)))) 0 0 (fun _ => False) := by
  have h := c_X6_in l G (nI x) (nI a) (nI b)
  rwa [bI_iff (show (nI a ≤ nI x ∧ nI x ≤ nI b) ↔ (a ≤ x ∧ x ≤ b) by rw [nI_leI ha hx, nI_leI hx hb])] at h
abbrev rDg (tx : Nat → Nat) (ty a : Nat) : Prop := a < ty ∧ 48 ≤ tx a ∧ tx a ≤ 57
def tkL (tx : Nat → Nat) (ty : Nat) : Nat → Nat → Nat → Nat × Nat
  | 0, a, n => (a, n)
  | f + 1, a, n => if 0 < n ∧ rDg tx ty a then tkL tx ty f (a + 1) (10 * n + tx a - 48) else (a, n)
theorem tkL_go {tx : Nat → Nat} {ty f a n : Nat} (h1 : 0 < n) (h2 : rDg tx ty a) (hf : 0 < f) : tkL tx ty f a n = tkL tx ty (f - 1) (a + 1) (10 * n + tx a - 48) := by
  cases f with
  | zero => omega
  | succ f => exact if_pos ⟨h1, h2⟩
theorem tkL_st {tx : Nat → Nat} {ty f a n : Nat} (h : ¬ (0 < n ∧ rDg tx ty a) ∨ f = 0) : tkL tx ty f a n = (a, n) := by
  cases f with
  | zero => rfl
  | succ f =>
    rcases h with h | h
    · exact if_neg h
    · omega
theorem tkL_at (tx : Nat → Nat) (ty : Nat) : ∀ f a n, a ≤ (tkL tx ty f a n).1 ∧ (tkL tx ty f a n).1 ≤ a + f
  | 0, a, n => ⟨Nat.le_refl _, Nat.le_refl _⟩
  | f + 1, a, n => by
    unfold tkL
    split
    · have := tkL_at tx ty f (a + 1) (10 * n + tx a - 48)
      omega
    · exact ⟨Nat.le_refl _, by show a ≤ a + (f + 1); omega⟩
theorem tkL_ty (tx : Nat → Nat) (ty : Nat) : ∀ f a n, a ≤ ty → (tkL tx ty f a n).1 ≤ ty
  | 0, a, n, h => h
  | f + 1, a, n, h => by
    unfold tkL
    split
    · rename_i q
      exact tkL_ty tx ty f (a + 1) _ q.2.1
    · exact h
theorem tkL_nu (tx : Nat → Nat) (ty : Nat) : ∀ f a n, (tkL tx ty f a n).2 < (n + 1) * 10 ^ f
  | 0, a, n => by show n < (n + 1) * 1; omega
  | f + 1, a, n => by
    unfold tkL
    split
    · rename_i q
      have h1 := tkL_nu tx ty f (a + 1) (10 * n + tx a - 48)
      refine Nat.lt_of_lt_of_le h1 ?_
      have h2 : 10 * n + tx a - 48 + 1 ≤ (n + 1) * 10 := by omega
      have h3 := Nat.mul_le_mul_right (10 ^ f) h2
      rw [Nat.pow_succ, Nat.mul_comm (10 ^ f) 10, ← Nat.mul_assoc]
      exact h3
    · have h3 : n + 1 ≤ (n + 1) * 10 ^ (f + 1) := Nat.le_mul_of_pos_right _ (Nat.pow_pos (by decide))
      exact h3
def tkR (tx : Nat → Nat) (ty a u : Nat) : Nat × Nat := if rDg tx ty a then tkL tx ty 2 (a + 1) (tx a - 48) else (a, u)
def vtL (tx : Nat → Nat) (ty : Nat) : Nat → Nat → Nat → Nat → Int32 × Nat × Nat
  | 0, a, n, u => (nI n, a, u)
  | f + 1, a, n, u => if rDg tx ty a then (if (tkR tx ty a u).1 < ty then (if tx (tkR tx ty a u).1 = 44 then vtL tx ty f ((tkR tx ty a u).1 + 1) (n + 1) (tkR tx ty a u).2 else (-5, (tkR tx ty a u).1, (tkR tx ty a u).2)) else (nI (n + 1), (tkR tx ty a u).1, (tkR tx ty a u).2)) else (-5, a, u)
def rVt (tx : Nat → Nat) (ty u : Nat) : Int32 × Nat × Nat := vtL tx ty 61 0 0 u
theorem tkR_at {tx : Nat → Nat} {ty a u : Nat} (h : rDg tx ty a) : a + 1 ≤ (tkR tx ty a u).1 ∧ (tkR tx ty a u).1 ≤ ty := by
  rw [tkR, if_pos h]
  exact ⟨(tkL_at tx ty 2 (a + 1) _).1, tkL_ty tx ty 2 (a + 1) _ h.1⟩
theorem tkR_f {tx : Nat → Nat} {ty a u : Nat} (h : ¬ rDg tx ty a) : tkR tx ty a u = (a, u) := if_neg h
theorem vtL_no {tx : Nat → Nat} {ty a n u : Nat} (h : ¬ rDg tx ty a) {f : Nat} (hf : 0 < f) : vtL tx ty f a n u = (-5, a, u) := by
  cases f with
  | zero => omega
  | succ f => exact if_neg h
theorem tkR_nu {tx : Nat → Nat} {ty a u : Nat} (h : rDg tx ty a) : (tkR tx ty a u).2 < 1000 := by
  rw [tkR, if_pos h]
  refine Nat.lt_of_lt_of_le (tkL_nu tx ty 2 (a + 1) _) ?_
  have := h.2.2
  omega

theorem hw_X6_isDigit_f105 : Cond.fieldLink RX6 105 "TailVectorsModel" "at" "I" ∈ wsX6_isDigit := by decide +kernel
theorem hi_X6_isDigit_RX6 : ∀ w ∈ u_ws RX6 TX6 9, w ∈ wsX6_isDigit := by decide +kernel
theorem hw_X6_isDigit_f102 : Cond.fieldLink RX6 102 "TailVectorsModel" "typed" "I" ∈ wsX6_isDigit := by decide +kernel
theorem hw_X6_isDigit_f20 : Cond.fieldLink RX6 20 "TailVectorsModel" "text" "[C" ∈ wsX6_isDigit := by decide +kernel
set_option maxHeartbeats 4000000 in
set_option maxRecDepth 100000 in
theorem c_X6_isDigit (l : Launch) (G : xG) (m0 : Nat) (aN : Nat) (aH : Nat) (aS : Nat) (aT : Nat) (N : Nat → Nat) (Hs : Nat → Nat) (Sl : Nat → Nat) (tx : Nat → Nat) (kept : Nat) (fil : Nat) (ty : Nat) (at_ : Nat) (nu : Nat) (hN : ∀ j, N j < 2 ^ 24) (htx : ∀ j, tx j < 65536) (hty : ty ≤ 60) (hat : at_ < 2 ^ 24) : Met l yX6_isDigit wsX6_isDigit ({ frames := 1, cells := 0, slots := 0, locals := 22 } : Room) (xPc G [.ref m0] (fun H => va_P G.1 vwCl [(m0, .inr (6, [.ref aN, .ref aH, .int (nI kept), .ref aS, .int (nI fil), .int (nI ty), .ref aT, .int (nI at_), .int (nI nu)])), (aN, .inl (xcI G, 10276, .inl (nf N))), (aH, .inl (xcI G, 41104, .inl (nf Hs))), (aS, .inl (xcI G, 10276, .inl (nf Sl))), (aT, .inl (xcC G, 60, .inl (nf tx)))] H)) (k2_QcV (.int (bI (rDg tx ty at_)))) 0 0 (fun _ => False) := by
  refine xMet (cc := cX6_isDigit) (nL := 1) (ret := (some (.boolean))) (by decide) rfl (Nat.le_of_ble_eq_true rfl) ?_
  intro p e s m below meth c S hr hk hnm hE hP ls hl
  obtain ⟨hx, hb, hml, hown, hts⟩ := id S
  have hown : s.vm.findClass RX6 = some m.cls := hown
  have hK := hE.1
  have hS : va_S (fun _ : Nat => False) s.heap s.heap [] := va_S.rf
  have hA : ∀ q, (fun _ : Nat => False) q → xB0 G ≤ q := fun _ h => h.elim
  have hP : va_P G.1 vwCl [(m0, .inr (6, [.ref aN, .ref aH, .int (nI kept), .ref aS, .int (nI fil), .int (nI ty), .ref aT, .int (nI at_), .int (nI nu)])), (aN, .inl (xcI G, 10276, .inl (nf N))), (aH, .inl (xcI G, 41104, .inl (nf Hs))), (aS, .inl (xcI G, 10276, .inl (nf Sl))), (aT, .inl (xcC G, 60, .inl (nf tx)))] s.heap := hP
  have hl : lv_has ls 1 [(0, .ref m0)] := hl
  refine lv_aload_n hx hb dX6_isDigit_0 rfl (lv_at hl 0 rfl) ?_
  refine va_get (D := G.1) (ci := 6) (v := .int (nI at_)) (C := RX6) (T := TX6) (N := 9) hx hb hts hi_X6_isDigit_RX6 hown hK hP 0 rfl rfl 7 (by decide) (hts _ hw_X6_isDigit_f105) (fun _ h9 => h9) rfl dX6_isDigit_1 ?_
  refine lv_aload_n hx hb dX6_isDigit_4 rfl (lv_at hl 0 rfl) ?_
  refine va_get (D := G.1) (ci := 6) (v := .int (nI ty)) (C := RX6) (T := TX6) (N := 9) hx hb hts hi_X6_isDigit_RX6 hown hK hP 0 rfl rfl 5 (by decide) (hts _ hw_X6_isDigit_f102) (fun _ h9 => h9) rfl dX6_isDigit_5 ?_
  refine n_icmp_ge (tgt := 34) hx hb (by omega) (by omega) dX6_isDigit_8 (by decide) (fun c_8 => ?_) (fun c_8 => ?_)
  · refine lv_iconst (v := nI 0) hx hb dX6_isDigit_34 rfl ?_
    exact xret_z hx hb hr hk dX6_isDigit_35 (by first | exact Or.inl rfl | exact Or.inr rfl) (xb0 (fun q => absurd q.1 (Nat.not_lt.mpr c_8)))
  · refine lv_aload_n hx hb dX6_isDigit_11 rfl (lv_at hl 0 rfl) ?_
    refine va_get (D := G.1) (ci := 6) (v := .ref aT) (C := RX6) (T := TX6) (N := 9) hx hb hts hi_X6_isDigit_RX6 hown hK hP 0 rfl rfl 6 (by decide) (hts _ hw_X6_isDigit_f20) (fun _ h9 => h9) rfl dX6_isDigit_12 ?_
    refine lv_aload_n hx hb dX6_isDigit_15 rfl (lv_at hl 0 rfl) ?_
    refine va_get (D := G.1) (ci := 6) (v := .int (nI at_)) (C := RX6) (T := TX6) (N := 9) hx hb hts hi_X6_isDigit_RX6 hown hK hP 0 rfl rfl 7 (by decide) (hts _ hw_X6_isDigit_f105) (fun _ h9 => h9) rfl dX6_isDigit_16 ?_
    refine n_cald hx hb hK hP 4 1 rfl rfl (by omega) (by decide) dX6_isDigit_19 ?_
    refine lv_bipush (v := nI 48) hx hb dX6_isDigit_20 (by decide) ?_
    refine lv_bipush (v := nI 57) hx hb dX6_isDigit_22 (by decide) ?_
    refine xrd (xrunS (As := [.int (nI (tx at_)), .int (nI 48), .int (nI 57)]) (rest := []) S (c_X6_in_n l G (tx at_) 48 57 (by have := htx at_; omega) (by omega) (by omega)) (va_cwS 3 hts gX6_isDigit_X6_in rfl rfl rfl (by decide +kernel) ⟨Nat.le_of_ble_eq_true rfl, Nat.le_of_ble_eq_true rfl⟩) hE hS hA trivial rfl rfl hl.1 (Nat.le_of_ble_eq_true rfl) dX6_isDigit_24 ⟨Nat.le_of_ble_eq_true rfl, Nat.le_of_ble_eq_true rfl⟩) ?_
    refine b_if_eq (tgt := 34) hx hb dX6_isDigit_27 (by decide) (fun c_27 => ?_) (fun c_27 => ?_)
    · refine lv_iconst (v := nI 0) hx hb dX6_isDigit_34 rfl ?_
      exact xret_z hx hb hr hk dX6_isDigit_35 (by first | exact Or.inl rfl | exact Or.inr rfl) (xb0 (fun q => c_27 q.2))
    · refine lv_iconst (v := nI 1) hx hb dX6_isDigit_30 rfl ?_
      refine lv_goto (tgt := 35) hx hb dX6_isDigit_31 (by decide) ?_
      exact xret_z hx hb hr hk dX6_isDigit_35 (by first | exact Or.inl rfl | exact Or.inr rfl) (xb1 ⟨c_8, c_27.1, c_27.2⟩)

theorem hw_X6_takesNumber_f20 : Cond.fieldLink RX6 20 "TailVectorsModel" "text" "[C" ∈ wsX6_takesNumber := by decide +kernel
theorem hi_X6_takesNumber_RX6 : ∀ w ∈ u_ws RX6 TX6 9, w ∈ wsX6_takesNumber := by decide +kernel
theorem hw_X6_takesNumber_f105 : Cond.fieldLink RX6 105 "TailVectorsModel" "at" "I" ∈ wsX6_takesNumber := by decide +kernel
theorem hw_X6_takesNumber_f111 : Cond.fieldLink RX6 111 "TailVectorsModel" "number" "I" ∈ wsX6_takesNumber := by decide +kernel
set_option maxHeartbeats 4000000 in
set_option maxRecDepth 100000 in
theorem c_X6_takesNumber (l : Launch) (G : xG) (m0 : Nat) (aN : Nat) (aH : Nat) (aS : Nat) (aT : Nat) (N : Nat → Nat) (Hs : Nat → Nat) (Sl : Nat → Nat) (tx : Nat → Nat) (kept : Nat) (fil : Nat) (ty : Nat) (at_ : Nat) (nu : Nat) (hN : ∀ j, N j < 2 ^ 24) (hdis : xDis (xB0 G) [m0, aN, aH, aS, aT]) (htx : ∀ j, tx j < 65536) (hty : ty ≤ 60) (hat : at_ ≤ 60) : Met l yX6_takesNumber wsX6_takesNumber ({ frames := 2, cells := 0, slots := 0, locals := 42 } : Room) (xPc G [.ref m0] (fun H => va_P G.1 vwCl [(m0, .inr (6, [.ref aN, .ref aH, .int (nI kept), .ref aS, .int (nI fil), .int (nI ty), .ref aT, .int (nI at_), .int (nI nu)])), (aN, .inl (xcI G, 10276, .inl (nf N))), (aH, .inl (xcI G, 41104, .inl (nf Hs))), (aS, .inl (xcI G, 10276, .inl (nf Sl))), (aT, .inl (xcC G, 60, .inl (nf tx)))] H)) (xQ (σ := Unit) (fun _ => some (.int (bI (rDg tx ty at_)))) (fun _ H => va_P G.1 vwCl [(m0, .inr (6, [.ref aN, .ref aH, .int (nI kept), .ref aS, .int (nI fil), .int (nI ty), .ref aT, .int (nI ((tkR tx ty at_ nu).1)), .int (nI ((tkR tx ty at_ nu).2))])), (aN, .inl (xcI G, 10276, .inl (nf N))), (aH, .inl (xcI G, 41104, .inl (nf Hs))), (aS, .inl (xcI G, 10276, .inl (nf Sl))), (aT, .inl (xcC G, 60, .inl (nf tx)))] H) (fun q => q ∈ [m0, aN, aH, aS, aT])) 0 0 (fun q => q ∈ [m0, aN, aH, aS, aT]) := by
  refine xMet (cc := cX6_takesNumber) (nL := 2) (ret := (some (.boolean))) (by decide) rfl (Nat.le_of_ble_eq_true rfl) ?_
  intro p e s m below meth c S hr hk hnm hE hP ls hl
  obtain ⟨hx, hb, hml, hown, hts⟩ := id S
  have hown : s.vm.findClass RX6 = some m.cls := hown
  have hK := hE.1
  have hS : va_S (fun q => q ∈ [m0, aN, aH, aS, aT]) s.heap s.heap [] := va_S.rf
  have hA : ∀ q, (fun q => q ∈ [m0, aN, aH, aS, aT]) q → xB0 G ≤ q := hdis.2
  have hP : va_P G.1 vwCl [(m0, .inr (6, [.ref aN, .ref aH, .int (nI kept), .ref aS, .int (nI fil), .int (nI ty), .ref aT, .int (nI at_), .int (nI nu)])), (aN, .inl (xcI G, 10276, .inl (nf N))), (aH, .inl (xcI G, 41104, .inl (nf Hs))), (aS, .inl (xcI G, 10276, .inl (nf Sl))), (aT, .inl (xcC G, 60, .inl (nf tx)))] s.heap := hP
  have hD : va_D (fun q => q ∈ [m0, aN, aH, aS, aT]) [(m0, .inr (6, [.ref aN, .ref aH, .int (nI kept), .ref aS, .int (nI fil), .int (nI ty), .ref aT, .int (nI at_), .int (nI nu)])), (aN, .inl (xcI G, 10276, .inl (nf N))), (aH, .inl (xcI G, 41104, .inl (nf Hs))), (aS, .inl (xcI G, 10276, .inl (nf Sl))), (aT, .inl (xcC G, 60, .inl (nf tx)))] := (hdis.to rfl)
  have hl : lv_has ls 2 [(0, .ref m0)] := hl
  refine lv_aload_n hx hb dX6_takesNumber_0 rfl (lv_at hl 0 rfl) ?_
  refine xrd (xrunV (As := []) (rest := []) S (c_X6_isDigit l G m0 aN aH aS aT N Hs Sl tx kept fil ty at_ nu hN htx hty (by omega)) (cwV 0 hts gX6_takesNumber_X6_isDigit rfl rfl rfl (by decide +kernel) ⟨Nat.le_of_ble_eq_true rfl, Nat.le_of_ble_eq_true rfl⟩) hE hS hA 0 6 hP rfl rfl rfl hP rfl rfl hl.1 (Nat.le_of_ble_eq_true rfl) dX6_takesNumber_1 ⟨Nat.le_of_ble_eq_true rfl, Nat.le_of_ble_eq_true rfl⟩) ?_
  refine b_if_ne (tgt := 9) hx hb dX6_takesNumber_4 (by decide) (fun c_4 => ?_) (fun c_4 => ?_)
  · refine lv_aload_n hx hb dX6_takesNumber_9 rfl (lv_at hl 0 rfl) ?_
    refine lv_aload_n hx hb dX6_takesNumber_10 rfl (lv_at hl 0 rfl) ?_
    refine va_get (D := G.1) (ci := 6) (v := .ref aT) (C := RX6) (T := TX6) (N := 9) hx hb hts hi_X6_takesNumber_RX6 hown hK hP 0 rfl rfl 6 (by decide) (hts _ hw_X6_takesNumber_f20) (fun _ h9 => h9) rfl dX6_takesNumber_11 ?_
    refine lv_aload_n hx hb dX6_takesNumber_14 rfl (lv_at hl 0 rfl) ?_
    refine va_get (D := G.1) (ci := 6) (v := .int (nI at_)) (C := RX6) (T := TX6) (N := 9) hx hb hts hi_X6_takesNumber_RX6 hown hK hP 0 rfl rfl 7 (by decide) (hts _ hw_X6_takesNumber_f105) (fun _ h9 => h9) rfl dX6_takesNumber_15 ?_
    refine n_cald hx hb hK hP 4 1 rfl rfl (by have := c_4.1; omega) (by decide) dX6_takesNumber_18 ?_
    refine lv_bipush (v := nI 48) hx hb dX6_takesNumber_19 (by decide) ?_
    refine n_isub hx hb (by have := c_4.2; omega) dX6_takesNumber_21 ?_
    refine va_put (D := G.1) (ci := 6) (v := .int (nI ((tx at_) - 48))) (ty := .int) (C := RX6) (T := TX6) (N := 9) hx hb hts hi_X6_takesNumber_RX6 tyX6 tyX6_ok nmX6 hown hK hP hD hS 0 rfl rfl 8 (by decide) (hts _ hw_X6_takesNumber_f111) (fun _ h9 => h9) rfl (by decide +kernel) rfl rfl (Nat.le_of_ble_eq_true rfl) dX6_takesNumber_22 (fun H locs hP hD hS => ?_)
    have hP : va_P G.1 vwCl [(m0, .inr (6, [.ref aN, .ref aH, .int (nI kept), .ref aS, .int (nI fil), .int (nI ty), .ref aT, .int (nI at_), .int (nI ((tx at_) - 48))])), (aN, .inl (xcI G, 10276, .inl (nf N))), (aH, .inl (xcI G, 41104, .inl (nf Hs))), (aS, .inl (xcI G, 10276, .inl (nf Sl))), (aT, .inl (xcC G, 60, .inl (nf tx)))] H := hP
    have hD : va_D (fun q => q ∈ [m0, aN, aH, aS, aT]) [(m0, .inr (6, [.ref aN, .ref aH, .int (nI kept), .ref aS, .int (nI fil), .int (nI ty), .ref aT, .int (nI at_), .int (nI ((tx at_) - 48))])), (aN, .inl (xcI G, 10276, .inl (nf N))), (aH, .inl (xcI G, 41104, .inl (nf Hs))), (aS, .inl (xcI G, 10276, .inl (nf Sl))), (aT, .inl (xcC G, 60, .inl (nf tx)))] := hD
    refine lv_aload_n hx hb dX6_takesNumber_25 rfl (lv_at hl 0 rfl) ?_
    refine lv_dup hx hb dX6_takesNumber_26 rfl ?_
    refine va_get (D := G.1) (ci := 6) (v := .int (nI at_)) (C := RX6) (T := TX6) (N := 9) hx hb hts hi_X6_takesNumber_RX6 hown hK hP 0 rfl rfl 7 (by decide) (hts _ hw_X6_takesNumber_f105) (fun _ h9 => h9) rfl dX6_takesNumber_27 ?_
    refine lv_iconst (v := nI 1) hx hb dX6_takesNumber_30 rfl ?_
    refine n_iadd hx hb dX6_takesNumber_31 ?_
    refine va_put (D := G.1) (ci := 6) (v := .int (nI (at_ + 1))) (ty := .int) (C := RX6) (T := TX6) (N := 9) hx hb hts hi_X6_takesNumber_RX6 tyX6 tyX6_ok nmX6 hown hK hP hD hS 0 rfl rfl 7 (by decide) (hts _ hw_X6_takesNumber_f105) (fun _ h9 => h9) rfl (by decide +kernel) rfl rfl (Nat.le_of_ble_eq_true rfl) dX6_takesNumber_32 (fun H locs hP hD hS => ?_)
    have hP : va_P G.1 vwCl [(m0, .inr (6, [.ref aN, .ref aH, .int (nI kept), .ref aS, .int (nI fil), .int (nI ty), .ref aT, .int (nI (at_ + 1)), .int (nI ((tx at_) - 48))])), (aN, .inl (xcI G, 10276, .inl (nf N))), (aH, .inl (xcI G, 41104, .inl (nf Hs))), (aS, .inl (xcI G, 10276, .inl (nf Sl))), (aT, .inl (xcC G, 60, .inl (nf tx)))] H := hP
    have hD : va_D (fun q => q ∈ [m0, aN, aH, aS, aT]) [(m0, .inr (6, [.ref aN, .ref aH, .int (nI kept), .ref aS, .int (nI fil), .int (nI ty), .ref aT, .int (nI (at_ + 1)), .int (nI ((tx at_) - 48))])), (aN, .inl (xcI G, 10276, .inl (nf N))), (aH, .inl (xcI G, 41104, .inl (nf Hs))), (aS, .inl (xcI G, 10276, .inl (nf Sl))), (aT, .inl (xcC G, 60, .inl (nf tx)))] := hD
    refine lv_iconst (v := nI 0) hx hb dX6_takesNumber_35 rfl ?_
    refine lv_istore_n (lv' := [(1, .int (nI 0)), (0, .ref m0)]) hx hb dX6_takesNumber_36 rfl hl (by decide) rfl (fun ls hl => ?_)
    have hP : va_P G.1 vwCl [(m0, .inr (6, [.ref aN, .ref aH, .int (nI kept), .ref aS, .int (nI fil), .int (nI ty), .ref aT, .int (nI (at_ + 1)), .int (nI (tx at_ - 48))])), (aN, .inl (xcI G, 10276, .inl (nf N))), (aH, .inl (xcI G, 41104, .inl (nf Hs))), (aS, .inl (xcI G, 10276, .inl (nf Sl))), (aT, .inl (xcC G, 60, .inl (nf tx)))] H := hP
    have hl : lv_has ls 2 [(1, .int (nI 0)), (0, .ref m0)] := lv_sub hl [0, 1] rfl
    refine xloop (σ := Nat × Nat × Nat) (C := (fun (x_ : Nat × Nat × Nat) H locs ls => (x_.1 ≤ 2) ∧ (tkL tx ty (2 - x_.1) x_.2.1 x_.2.2 = tkL tx ty 2 (at_ + 1) (tx at_ - 48)) ∧ ((x_.1 = 0 ∧ x_.2.2 < 10) ∨ (x_.1 = 1 ∧ x_.2.2 < 100) ∨ (x_.1 = 2 ∧ x_.2.2 < 1000)) ∧ (x_.2.1 ≤ at_ + 1 + x_.1) ∧ va_P G.1 vwCl [(m0, .inr (6, [.ref aN, .ref aH, .int (nI kept), .ref aS, .int (nI fil), .int (nI ty), .ref aT, .int (nI x_.2.1), .int (nI x_.2.2)])), (aN, .inl (xcI G, 10276, .inl (nf N))), (aH, .inl (xcI G, 41104, .inl (nf Hs))), (aS, .inl (xcI G, 10276, .inl (nf Sl))), (aT, .inl (xcC G, 60, .inl (nf tx)))] H ∧ va_S (fun q => q ∈ [m0, aN, aH, aS, aT]) s.heap H locs ∧ lv_has ls 2 [(1, .int (nI x_.1)), (0, .ref m0)])) (μ := (fun (x_ : Nat × Nat × Nat) => 2 - x_.1)) (W' := fun H locs ls => W p l e _ s m _ below meth c H locs _ _ _ (F0 m 37 ls [])) ?_ ⟨0, at_ + 1, tx at_ - 48⟩ _ _ _ ⟨(by omega), rfl, (by dsimp only; have := c_4.2; omega), (Nat.le_refl _), hP, hS, hl⟩
    intro x_ H locs ls hC ih_37
    obtain ⟨k_, a_, n_⟩ := x_
    obtain ⟨hk_, hq, hb1, ha1, hP, hS, hl⟩ := hC
    replace hk_ : k_ ≤ 2 := hk_
    replace hq : tkL tx ty (2 - k_) a_ n_ = tkL tx ty 2 (at_ + 1) (tx at_ - 48) := hq
    replace hb1 : (k_ = 0 ∧ n_ < 10) ∨ (k_ = 1 ∧ n_ < 100) ∨ (k_ = 2 ∧ n_ < 1000) := hb1
    replace ha1 : a_ ≤ at_ + 1 + k_ := ha1
    replace hP : va_P G.1 vwCl [(m0, .inr (6, [.ref aN, .ref aH, .int (nI kept), .ref aS, .int (nI fil), .int (nI ty), .ref aT, .int (nI a_), .int (nI n_)])), (aN, .inl (xcI G, 10276, .inl (nf N))), (aH, .inl (xcI G, 41104, .inl (nf Hs))), (aS, .inl (xcI G, 10276, .inl (nf Sl))), (aT, .inl (xcC G, 60, .inl (nf tx)))] H := hP
    have hD : va_D (fun q => q ∈ [m0, aN, aH, aS, aT]) [(m0, .inr (6, [.ref aN, .ref aH, .int (nI kept), .ref aS, .int (nI fil), .int (nI ty), .ref aT, .int (nI a_), .int (nI n_)])), (aN, .inl (xcI G, 10276, .inl (nf N))), (aH, .inl (xcI G, 41104, .inl (nf Hs))), (aS, .inl (xcI G, 10276, .inl (nf Sl))), (aT, .inl (xcC G, 60, .inl (nf tx)))] := (hdis.to rfl)
    replace hl : lv_has ls 2 [(1, .int (nI k_)), (0, .ref m0)] := hl
    refine id ?_
    refine lv_iload_n hx hb dX6_takesNumber_37 rfl (lv_at hl 0 rfl) ?_
    refine lv_iconst (v := nI 2) hx hb dX6_takesNumber_38 rfl ?_
    refine n_icmp_ge (tgt := 96) hx hb (by omega) (by omega) dX6_takesNumber_39 (by decide) (fun c_39 => ?_) (fun c_39 => ?_)
    · refine lv_iconst (v := nI 1) hx hb dX6_takesNumber_96 rfl ?_
      exact xend_z () hx hb hr hk hS (fun _ h => h) dX6_takesNumber_97 (by first | exact Or.inl rfl | exact Or.inr rfl) (by rw [bI_t c_4]; rfl) (by have e9 := hq; rw [tkL_st (Or.inr (by omega))] at e9; rw [tkR, if_pos c_4, ← e9]; exact hP) (Nat.le_refl _) (Nat.le_refl _)
    · refine lv_aload_n hx hb dX6_takesNumber_42 rfl (lv_at hl 1 rfl) ?_
      refine va_get (D := G.1) (ci := 6) (v := .int (nI n_)) (C := RX6) (T := TX6) (N := 9) hx hb hts hi_X6_takesNumber_RX6 hown hK hP 0 rfl rfl 8 (by decide) (hts _ hw_X6_takesNumber_f111) (fun _ h9 => h9) rfl dX6_takesNumber_43 ?_
      refine n_if_le (tgt := 96) hx hb (by omega) dX6_takesNumber_46 (by decide) (fun c_46 => ?_) (fun c_46 => ?_)
      · refine lv_iconst (v := nI 1) hx hb dX6_takesNumber_96 rfl ?_
        exact xend_z () hx hb hr hk hS (fun _ h => h) dX6_takesNumber_97 (by first | exact Or.inl rfl | exact Or.inr rfl) (by rw [bI_t c_4]; rfl) (by have e9 := hq; rw [tkL_st (Or.inl (fun q => absurd q.1 (by omega)))] at e9; rw [tkR, if_pos c_4, ← e9]; exact hP) (Nat.le_refl _) (Nat.le_refl _)
      · refine lv_aload_n hx hb dX6_takesNumber_49 rfl (lv_at hl 1 rfl) ?_
        refine xrd (xrunV (As := []) (rest := []) S (c_X6_isDigit l G m0 aN aH aS aT N Hs Sl tx kept fil ty a_ n_ hN htx hty (by omega)) (cwV 0 hts gX6_takesNumber_X6_isDigit rfl rfl rfl (by decide +kernel) ⟨Nat.le_of_ble_eq_true rfl, Nat.le_of_ble_eq_true rfl⟩) hE hS hA 0 6 hP rfl rfl rfl hP rfl rfl hl.1 (Nat.le_of_ble_eq_true rfl) dX6_takesNumber_50 ⟨Nat.le_of_ble_eq_true rfl, Nat.le_of_ble_eq_true rfl⟩) ?_
        refine b_if_eq (tgt := 96) hx hb dX6_takesNumber_53 (by decide) (fun c_53 => ?_) (fun c_53 => ?_)
        · refine lv_iconst (v := nI 1) hx hb dX6_takesNumber_96 rfl ?_
          exact xend_z () hx hb hr hk hS (fun _ h => h) dX6_takesNumber_97 (by first | exact Or.inl rfl | exact Or.inr rfl) (by rw [bI_t c_4]; rfl) (by have e9 := hq; rw [tkL_st (Or.inl (fun q => c_53 q.2))] at e9; rw [tkR, if_pos c_4, ← e9]; exact hP) (Nat.le_refl _) (Nat.le_refl _)
        · refine lv_aload_n hx hb dX6_takesNumber_56 rfl (lv_at hl 1 rfl) ?_
          refine lv_bipush (v := nI 10) hx hb dX6_takesNumber_57 (by decide) ?_
          refine lv_aload_n hx hb dX6_takesNumber_59 rfl (lv_at hl 1 rfl) ?_
          refine va_get (D := G.1) (ci := 6) (v := .int (nI n_)) (C := RX6) (T := TX6) (N := 9) hx hb hts hi_X6_takesNumber_RX6 hown hK hP 0 rfl rfl 8 (by decide) (hts _ hw_X6_takesNumber_f111) (fun _ h9 => h9) rfl dX6_takesNumber_60 ?_
          refine n_imul hx hb dX6_takesNumber_63 ?_
          refine lv_aload_n hx hb dX6_takesNumber_64 rfl (lv_at hl 1 rfl) ?_
          refine va_get (D := G.1) (ci := 6) (v := .ref aT) (C := RX6) (T := TX6) (N := 9) hx hb hts hi_X6_takesNumber_RX6 hown hK hP 0 rfl rfl 6 (by decide) (hts _ hw_X6_takesNumber_f20) (fun _ h9 => h9) rfl dX6_takesNumber_65 ?_
          refine lv_aload_n hx hb dX6_takesNumber_68 rfl (lv_at hl 1 rfl) ?_
          refine va_get (D := G.1) (ci := 6) (v := .int (nI a_)) (C := RX6) (T := TX6) (N := 9) hx hb hts hi_X6_takesNumber_RX6 hown hK hP 0 rfl rfl 7 (by decide) (hts _ hw_X6_takesNumber_f105) (fun _ h9 => h9) rfl dX6_takesNumber_69 ?_
          refine n_cald hx hb hK hP 4 1 rfl rfl (by have := c_53.1; omega) (by decide) dX6_takesNumber_72 ?_
          refine n_iadd hx hb dX6_takesNumber_73 ?_
          refine lv_bipush (v := nI 48) hx hb dX6_takesNumber_74 (by decide) ?_
          refine n_isub hx hb (by have := c_53.2; omega) dX6_takesNumber_76 ?_
          refine va_put (D := G.1) (ci := 6) (v := .int (nI (((10 * n_) + (tx a_)) - 48))) (ty := .int) (C := RX6) (T := TX6) (N := 9) hx hb hts hi_X6_takesNumber_RX6 tyX6 tyX6_ok nmX6 hown hK hP hD hS 0 rfl rfl 8 (by decide) (hts _ hw_X6_takesNumber_f111) (fun _ h9 => h9) rfl (by decide +kernel) rfl rfl (Nat.le_of_ble_eq_true rfl) dX6_takesNumber_77 (fun H locs hP hD hS => ?_)
          have hP : va_P G.1 vwCl [(m0, .inr (6, [.ref aN, .ref aH, .int (nI kept), .ref aS, .int (nI fil), .int (nI ty), .ref aT, .int (nI a_), .int (nI (((10 * n_) + (tx a_)) - 48))])), (aN, .inl (xcI G, 10276, .inl (nf N))), (aH, .inl (xcI G, 41104, .inl (nf Hs))), (aS, .inl (xcI G, 10276, .inl (nf Sl))), (aT, .inl (xcC G, 60, .inl (nf tx)))] H := hP
          have hD : va_D (fun q => q ∈ [m0, aN, aH, aS, aT]) [(m0, .inr (6, [.ref aN, .ref aH, .int (nI kept), .ref aS, .int (nI fil), .int (nI ty), .ref aT, .int (nI a_), .int (nI (((10 * n_) + (tx a_)) - 48))])), (aN, .inl (xcI G, 10276, .inl (nf N))), (aH, .inl (xcI G, 41104, .inl (nf Hs))), (aS, .inl (xcI G, 10276, .inl (nf Sl))), (aT, .inl (xcC G, 60, .inl (nf tx)))] := hD
          refine lv_aload_n hx hb dX6_takesNumber_80 rfl (lv_at hl 1 rfl) ?_
          refine lv_dup hx hb dX6_takesNumber_81 rfl ?_
          refine va_get (D := G.1) (ci := 6) (v := .int (nI a_)) (C := RX6) (T := TX6) (N := 9) hx hb hts hi_X6_takesNumber_RX6 hown hK hP 0 rfl rfl 7 (by decide) (hts _ hw_X6_takesNumber_f105) (fun _ h9 => h9) rfl dX6_takesNumber_82 ?_
          refine lv_iconst (v := nI 1) hx hb dX6_takesNumber_85 rfl ?_
          refine n_iadd hx hb dX6_takesNumber_86 ?_
          refine va_put (D := G.1) (ci := 6) (v := .int (nI (a_ + 1))) (ty := .int) (C := RX6) (T := TX6) (N := 9) hx hb hts hi_X6_takesNumber_RX6 tyX6 tyX6_ok nmX6 hown hK hP hD hS 0 rfl rfl 7 (by decide) (hts _ hw_X6_takesNumber_f105) (fun _ h9 => h9) rfl (by decide +kernel) rfl rfl (Nat.le_of_ble_eq_true rfl) dX6_takesNumber_87 (fun H locs hP hD hS => ?_)
          have hP : va_P G.1 vwCl [(m0, .inr (6, [.ref aN, .ref aH, .int (nI kept), .ref aS, .int (nI fil), .int (nI ty), .ref aT, .int (nI (a_ + 1)), .int (nI (((10 * n_) + (tx a_)) - 48))])), (aN, .inl (xcI G, 10276, .inl (nf N))), (aH, .inl (xcI G, 41104, .inl (nf Hs))), (aS, .inl (xcI G, 10276, .inl (nf Sl))), (aT, .inl (xcC G, 60, .inl (nf tx)))] H := hP
          have hD : va_D (fun q => q ∈ [m0, aN, aH, aS, aT]) [(m0, .inr (6, [.ref aN, .ref aH, .int (nI kept), .ref aS, .int (nI fil), .int (nI ty), .ref aT, .int (nI (a_ + 1)), .int (nI (((10 * n_) + (tx a_)) - 48))])), (aN, .inl (xcI G, 10276, .inl (nf N))), (aH, .inl (xcI G, 41104, .inl (nf Hs))), (aS, .inl (xcI G, 10276, .inl (nf Sl))), (aT, .inl (xcC G, 60, .inl (nf tx)))] := hD
          refine lv_iinc (v := nI (k_ + 1)) (lv' := [(1, .int (nI (k_ + 1))), (0, .ref m0)]) hx hb dX6_takesNumber_90 hl (k := 0) rfl (nI_add k_ 1) (by decide) rfl (fun ls hl => ?_)
          refine lv_goto (tgt := 37) hx hb dX6_takesNumber_93 (by decide) ?_
          have hl : lv_has ls 2 [(1, .int (nI (k_ + 1))), (0, .ref m0)] := lv_sub hl [0, 1] rfl
          have hP : va_P G.1 vwCl [(m0, .inr (6, [.ref aN, .ref aH, .int (nI kept), .ref aS, .int (nI fil), .int (nI ty), .ref aT, .int (nI (a_ + 1)), .int (nI (10 * n_ + tx a_ - 48))])), (aN, .inl (xcI G, 10276, .inl (nf N))), (aH, .inl (xcI G, 41104, .inl (nf Hs))), (aS, .inl (xcI G, 10276, .inl (nf Sl))), (aT, .inl (xcC G, 60, .inl (nf tx)))] H := hP
          exact ih_37 ⟨k_ + 1, a_ + 1, 10 * n_ + tx a_ - 48⟩ _ _ _ (by show 2 - (k_ + 1) < 2 - k_; omega) ⟨(by omega), (by rw [← hq, tkL_go c_46 c_53 (by omega), show 2 - (k_ + 1) = 2 - k_ - 1 by omega]), (by dsimp only; have := c_53.2; omega), (by dsimp only; omega), hP, hS, hl⟩
  · refine lv_iconst (v := nI 0) hx hb dX6_takesNumber_7 rfl ?_
    exact xend_z () hx hb hr hk hS (fun _ h => h) dX6_takesNumber_8 (by first | exact Or.inl rfl | exact Or.inr rfl) (by rw [bI_f c_4]; rfl) (by rw [tkR_f c_4]; exact hP) (Nat.le_refl _) (Nat.le_refl _)

theorem hw_X6_valuesOfText_f105 : Cond.fieldLink RX6 105 "TailVectorsModel" "at" "I" ∈ wsX6_valuesOfText := by decide +kernel
theorem hi_X6_valuesOfText_RX6 : ∀ w ∈ u_ws RX6 TX6 9, w ∈ wsX6_valuesOfText := by decide +kernel
theorem hw_X6_valuesOfText_f102 : Cond.fieldLink RX6 102 "TailVectorsModel" "typed" "I" ∈ wsX6_valuesOfText := by decide +kernel
theorem hw_X6_valuesOfText_f20 : Cond.fieldLink RX6 20 "TailVectorsModel" "text" "[C" ∈ wsX6_valuesOfText := by decide +kernel
set_option maxHeartbeats 4000000 in
set_option maxRecDepth 100000 in
theorem c_X6_valuesOfText (l : Launch) (G : xG) (m0 : Nat) (aN : Nat) (aH : Nat) (aS : Nat) (aT : Nat) (N : Nat → Nat) (Hs : Nat → Nat) (Sl : Nat → Nat) (tx : Nat → Nat) (kept : Nat) (fil : Nat) (ty : Nat) (at_ : Nat) (nu : Nat) (hN : ∀ j, N j < 2 ^ 24) (hdis : xDis (xB0 G) [m0, aN, aH, aS, aT]) (htx : ∀ j, tx j < 65536) (hty : ty ≤ 60) : Met l yX6_valuesOfText wsX6_valuesOfText ({ frames := 3, cells := 0, slots := 0, locals := 63 } : Room) (xPc G [.ref m0] (fun H => va_P G.1 vwCl [(m0, .inr (6, [.ref aN, .ref aH, .int (nI kept), .ref aS, .int (nI fil), .int (nI ty), .ref aT, .int (nI at_), .int (nI nu)])), (aN, .inl (xcI G, 10276, .inl (nf N))), (aH, .inl (xcI G, 41104, .inl (nf Hs))), (aS, .inl (xcI G, 10276, .inl (nf Sl))), (aT, .inl (xcC G, 60, .inl (nf tx)))] H)) (xQ (σ := Unit) (fun _ => some (.int ((rVt tx ty nu).1))) (fun _ H => va_P G.1 vwCl [(m0, .inr (6, [.ref aN, .ref aH, .int (nI kept), .ref aS, .int (nI fil), .int (nI ty), .ref aT, .int (nI ((rVt tx ty nu).2.1)), .int (nI ((rVt tx ty nu).2.2))])), (aN, .inl (xcI G, 10276, .inl (nf N))), (aH, .inl (xcI G, 41104, .inl (nf Hs))), (aS, .inl (xcI G, 10276, .inl (nf Sl))), (aT, .inl (xcC G, 60, .inl (nf tx)))] H) (fun q => q ∈ [m0, aN, aH, aS, aT])) 0 0 (fun q => q ∈ [m0, aN, aH, aS, aT]) := by
  refine xMet (cc := cX6_valuesOfText) (nL := 3) (ret := (some (.int))) (by decide) rfl (Nat.le_of_ble_eq_true rfl) ?_
  intro p e s m below meth c S hr hk hnm hE hP ls hl
  obtain ⟨hx, hb, hml, hown, hts⟩ := id S
  have hown : s.vm.findClass RX6 = some m.cls := hown
  have hK := hE.1
  have hS : va_S (fun q => q ∈ [m0, aN, aH, aS, aT]) s.heap s.heap [] := va_S.rf
  have hA : ∀ q, (fun q => q ∈ [m0, aN, aH, aS, aT]) q → xB0 G ≤ q := hdis.2
  have hP : va_P G.1 vwCl [(m0, .inr (6, [.ref aN, .ref aH, .int (nI kept), .ref aS, .int (nI fil), .int (nI ty), .ref aT, .int (nI at_), .int (nI nu)])), (aN, .inl (xcI G, 10276, .inl (nf N))), (aH, .inl (xcI G, 41104, .inl (nf Hs))), (aS, .inl (xcI G, 10276, .inl (nf Sl))), (aT, .inl (xcC G, 60, .inl (nf tx)))] s.heap := hP
  have hD : va_D (fun q => q ∈ [m0, aN, aH, aS, aT]) [(m0, .inr (6, [.ref aN, .ref aH, .int (nI kept), .ref aS, .int (nI fil), .int (nI ty), .ref aT, .int (nI at_), .int (nI nu)])), (aN, .inl (xcI G, 10276, .inl (nf N))), (aH, .inl (xcI G, 41104, .inl (nf Hs))), (aS, .inl (xcI G, 10276, .inl (nf Sl))), (aT, .inl (xcC G, 60, .inl (nf tx)))] := (hdis.to rfl)
  have hl : lv_has ls 3 [(0, .ref m0)] := hl
  refine lv_aload_n hx hb dX6_valuesOfText_0 rfl (lv_at hl 0 rfl) ?_
  refine lv_iconst (v := nI 0) hx hb dX6_valuesOfText_1 rfl ?_
  refine va_put (D := G.1) (ci := 6) (v := .int (nI 0)) (ty := .int) (C := RX6) (T := TX6) (N := 9) hx hb hts hi_X6_valuesOfText_RX6 tyX6 tyX6_ok nmX6 hown hK hP hD hS 0 rfl rfl 7 (by decide) (hts _ hw_X6_valuesOfText_f105) (fun _ h9 => h9) rfl (by decide +kernel) rfl rfl (Nat.le_of_ble_eq_true rfl) dX6_valuesOfText_2 (fun H locs hP hD hS => ?_)
  have hP : va_P G.1 vwCl [(m0, .inr (6, [.ref aN, .ref aH, .int (nI kept), .ref aS, .int (nI fil), .int (nI ty), .ref aT, .int (nI 0), .int (nI nu)])), (aN, .inl (xcI G, 10276, .inl (nf N))), (aH, .inl (xcI G, 41104, .inl (nf Hs))), (aS, .inl (xcI G, 10276, .inl (nf Sl))), (aT, .inl (xcC G, 60, .inl (nf tx)))] H := hP
  have hD : va_D (fun q => q ∈ [m0, aN, aH, aS, aT]) [(m0, .inr (6, [.ref aN, .ref aH, .int (nI kept), .ref aS, .int (nI fil), .int (nI ty), .ref aT, .int (nI 0), .int (nI nu)])), (aN, .inl (xcI G, 10276, .inl (nf N))), (aH, .inl (xcI G, 41104, .inl (nf Hs))), (aS, .inl (xcI G, 10276, .inl (nf Sl))), (aT, .inl (xcC G, 60, .inl (nf tx)))] := hD
  refine lv_iconst (v := nI 0) hx hb dX6_valuesOfText_5 rfl ?_
  refine lv_istore_n (lv' := [(1, .int (nI 0)), (0, .ref m0)]) hx hb dX6_valuesOfText_6 rfl hl (by decide) rfl (fun ls hl => ?_)
  refine lv_iconst (v := nI 1) hx hb dX6_valuesOfText_7 rfl ?_
  refine lv_istore_n (lv' := [(2, .int (nI 1)), (1, .int (nI 0)), (0, .ref m0)]) hx hb dX6_valuesOfText_8 rfl hl (by decide) rfl (fun ls hl => ?_)
  have hP : va_P G.1 vwCl [(m0, .inr (6, [.ref aN, .ref aH, .int (nI kept), .ref aS, .int (nI fil), .int (nI ty), .ref aT, .int (nI 0), .int (nI nu)])), (aN, .inl (xcI G, 10276, .inl (nf N))), (aH, .inl (xcI G, 41104, .inl (nf Hs))), (aS, .inl (xcI G, 10276, .inl (nf Sl))), (aT, .inl (xcC G, 60, .inl (nf tx)))] H := hP
  have hl : lv_has ls 3 [(2, .int (nI 1)), (1, .int (nI 0)), (0, .ref m0)] := lv_sub hl [0, 1, 2] rfl
  refine xloop (σ := Nat × Nat × Nat × Nat × Nat) (C := (fun (x_ : Nat × Nat × Nat × Nat × Nat) H locs ls => ((x_.2.2.2.2 = 1 ∧ vtL tx ty x_.1 x_.2.1 x_.2.2.1 x_.2.2.2.1 = rVt tx ty nu ∧ 61 ≤ x_.1 + x_.2.1) ∨ (x_.2.2.2.2 = 0 ∧ (nI x_.2.2.1, x_.2.1, x_.2.2.2.1) = rVt tx ty nu)) ∧ (x_.2.1 ≤ 60) ∧ va_P G.1 vwCl [(m0, .inr (6, [.ref aN, .ref aH, .int (nI kept), .ref aS, .int (nI fil), .int (nI ty), .ref aT, .int (nI x_.2.1), .int (nI x_.2.2.2.1)])), (aN, .inl (xcI G, 10276, .inl (nf N))), (aH, .inl (xcI G, 41104, .inl (nf Hs))), (aS, .inl (xcI G, 10276, .inl (nf Sl))), (aT, .inl (xcC G, 60, .inl (nf tx)))] H ∧ va_S (fun q => q ∈ [m0, aN, aH, aS, aT]) s.heap H locs ∧ lv_has ls 3 [(2, .int (nI x_.2.2.2.2)), (1, .int (nI x_.2.2.1)), (0, .ref m0)])) (μ := (fun (x_ : Nat × Nat × Nat × Nat × Nat) => 61 - x_.2.1)) (W' := fun H locs ls => W p l e _ s m _ below meth c H locs _ _ _ (F0 m 9 ls [])) ?_ ⟨61, 0, 0, nu, 1⟩ _ _ _ ⟨(Or.inl ⟨rfl, rfl, (by dsimp only; omega)⟩), (by dsimp only; omega), hP, hS, hl⟩
  intro x_ H locs ls hC ih_9
  obtain ⟨f_, a_, n_, u_, g_⟩ := x_
  obtain ⟨hg, ha60, hP, hS, hl⟩ := hC
  replace hg : (g_ = 1 ∧ vtL tx ty f_ a_ n_ u_ = rVt tx ty nu ∧ 61 ≤ f_ + a_) ∨ (g_ = 0 ∧ (nI n_, a_, u_) = rVt tx ty nu) := hg
  replace ha60 : a_ ≤ 60 := ha60
  replace hP : va_P G.1 vwCl [(m0, .inr (6, [.ref aN, .ref aH, .int (nI kept), .ref aS, .int (nI fil), .int (nI ty), .ref aT, .int (nI a_), .int (nI u_)])), (aN, .inl (xcI G, 10276, .inl (nf N))), (aH, .inl (xcI G, 41104, .inl (nf Hs))), (aS, .inl (xcI G, 10276, .inl (nf Sl))), (aT, .inl (xcC G, 60, .inl (nf tx)))] H := hP
  have hD : va_D (fun q => q ∈ [m0, aN, aH, aS, aT]) [(m0, .inr (6, [.ref aN, .ref aH, .int (nI kept), .ref aS, .int (nI fil), .int (nI ty), .ref aT, .int (nI a_), .int (nI u_)])), (aN, .inl (xcI G, 10276, .inl (nf N))), (aH, .inl (xcI G, 41104, .inl (nf Hs))), (aS, .inl (xcI G, 10276, .inl (nf Sl))), (aT, .inl (xcC G, 60, .inl (nf tx)))] := (hdis.to rfl)
  replace hl : lv_has ls 3 [(2, .int (nI g_)), (1, .int (nI n_)), (0, .ref m0)] := hl
  refine id ?_
  refine lv_iload_n hx hb dX6_valuesOfText_9 rfl (lv_at hl 0 rfl) ?_
  refine n_if_eq (tgt := 85) hx hb (by omega) dX6_valuesOfText_10 (by decide) (fun c_10 => ?_) (fun c_10 => ?_)
  · have hg2 : (nI n_, a_, u_) = rVt tx ty nu := hg.elim (fun q => absurd (q.1.symm.trans c_10) (by decide)) (fun q => q.2)
    refine lv_iload_n hx hb dX6_valuesOfText_85 rfl (lv_at hl 1 rfl) ?_
    exact xend_i () hx hb hr hk hS (fun _ h => h) dX6_valuesOfText_86 (by rw [← hg2]) (by rw [← hg2]; exact hP) (Nat.le_refl _) (Nat.le_refl _)
  · have hg2 : vtL tx ty f_ a_ n_ u_ = rVt tx ty nu ∧ 61 ≤ f_ + a_ := hg.elim (fun q => q.2) (fun q => absurd q.1 c_10)
    refine lv_aload_n hx hb dX6_valuesOfText_13 rfl (lv_at hl 2 rfl) ?_
    refine xwr (xrunV (As := []) (rest := []) S (c_X6_takesNumber l G m0 aN aH aS aT N Hs Sl tx kept fil ty a_ u_ hN hdis htx hty (by omega)) (cwV 0 hts gX6_valuesOfText_X6_takesNumber rfl rfl rfl (by decide +kernel) ⟨Nat.le_of_ble_eq_true rfl, Nat.le_of_ble_eq_true rfl⟩) hE hS hA 0 6 hP rfl rfl rfl hP rfl rfl hl.1 (Nat.le_of_ble_eq_true rfl) dX6_valuesOfText_14 ⟨Nat.le_of_ble_eq_true rfl, Nat.le_of_ble_eq_true rfl⟩) hS (fun _ h => h) (fun _ h => h) (fun uw_ H locs hΨ hz hkp hS => ?_)
    have hP : va_P G.1 vwCl [(m0, .inr (6, [.ref aN, .ref aH, .int (nI kept), .ref aS, .int (nI fil), .int (nI ty), .ref aT, .int (nI ((tkR tx ty a_ u_).1)), .int (nI ((tkR tx ty a_ u_).2))])), (aN, .inl (xcI G, 10276, .inl (nf N))), (aH, .inl (xcI G, 41104, .inl (nf Hs))), (aS, .inl (xcI G, 10276, .inl (nf Sl))), (aT, .inl (xcC G, 60, .inl (nf tx)))] H := hΨ
    have hD : va_D (fun q => q ∈ [m0, aN, aH, aS, aT]) [(m0, .inr (6, [.ref aN, .ref aH, .int (nI kept), .ref aS, .int (nI fil), .int (nI ty), .ref aT, .int (nI ((tkR tx ty a_ u_).1)), .int (nI ((tkR tx ty a_ u_).2))])), (aN, .inl (xcI G, 10276, .inl (nf N))), (aH, .inl (xcI G, 41104, .inl (nf Hs))), (aS, .inl (xcI G, 10276, .inl (nf Sl))), (aT, .inl (xcC G, 60, .inl (nf tx)))] := (hdis.to rfl)
    refine W.eq (g2 := F0 m 17 ls [.int (bI (rDg tx ty a_))]) rfl ?_
    refine b_if_ne (tgt := 23) hx hb dX6_valuesOfText_17 (by decide) (fun c_17 => ?_) (fun c_17 => ?_)
    · have hv := hg2.1
      have hf0 : 0 < f_ := by have := c_17.1; omega
      obtain ⟨f0, rfl⟩ : ∃ z, f_ = z + 1 := ⟨f_ - 1, by omega⟩
      rw [vtL, if_pos c_17] at hv
      refine lv_iinc (v := nI (n_ + 1)) (lv' := [(1, .int (nI (n_ + 1))), (2, .int (nI g_)), (0, .ref m0)]) hx hb dX6_valuesOfText_23 hl (k := 1) rfl (nI_add n_ 1) (by decide) rfl (fun ls hl => ?_)
      refine lv_aload_n hx hb dX6_valuesOfText_26 rfl (lv_at hl 2 rfl) ?_
      refine va_get (D := G.1) (ci := 6) (v := .int (nI ((tkR tx ty a_ u_).1))) (C := RX6) (T := TX6) (N := 9) hx hb hts hi_X6_valuesOfText_RX6 hown hK hP 0 rfl rfl 7 (by decide) (hts _ hw_X6_valuesOfText_f105) (fun _ h9 => h9) rfl dX6_valuesOfText_27 ?_
      refine lv_aload_n hx hb dX6_valuesOfText_30 rfl (lv_at hl 2 rfl) ?_
      refine va_get (D := G.1) (ci := 6) (v := .int (nI ty)) (C := RX6) (T := TX6) (N := 9) hx hb hts hi_X6_valuesOfText_RX6 hown hK hP 0 rfl rfl 5 (by decide) (hts _ hw_X6_valuesOfText_f102) (fun _ h9 => h9) rfl dX6_valuesOfText_31 ?_
      refine n_icmp_ge (tgt := 41) hx hb (by have := tkR_at (u := u_) c_17; omega) (by omega) dX6_valuesOfText_34 (by decide) (fun c_34 => ?_) (fun c_34 => ?_)
      · refine lv_iconst (v := nI 0) hx hb dX6_valuesOfText_41 rfl ?_
        refine lv_istore_n (lv' := [(2, .int (nI 0)), (1, .int (nI (n_ + 1))), (0, .ref m0)]) hx hb dX6_valuesOfText_42 rfl hl (by decide) rfl (fun ls hl => ?_)
        refine lv_iload_n hx hb dX6_valuesOfText_43 rfl (lv_at hl 0 rfl) ?_
        refine n_if_eq (tgt := 64) hx hb (by omega) dX6_valuesOfText_44 (by decide) (fun c_44 => ?_) (fun c_44 => ?_)
        · refine lv_aload_n hx hb dX6_valuesOfText_64 rfl (lv_at hl 2 rfl) ?_
          refine lv_dup hx hb dX6_valuesOfText_65 rfl ?_
          refine va_get (D := G.1) (ci := 6) (v := .int (nI ((tkR tx ty a_ u_).1))) (C := RX6) (T := TX6) (N := 9) hx hb hts hi_X6_valuesOfText_RX6 hown hK hP 0 rfl rfl 7 (by decide) (hts _ hw_X6_valuesOfText_f105) (fun _ h9 => h9) rfl dX6_valuesOfText_66 ?_
          refine lv_iload_n hx hb dX6_valuesOfText_69 rfl (lv_at hl 0 rfl) ?_
          refine n_if_eq (tgt := 77) hx hb (by omega) dX6_valuesOfText_70 (by decide) (fun c_70 => ?_) (fun c_70 => ?_)
          · refine lv_iconst (v := nI 0) hx hb dX6_valuesOfText_77 rfl ?_
            refine n_iadd hx hb dX6_valuesOfText_78 ?_
            refine va_put (D := G.1) (ci := 6) (v := .int (nI (((tkR tx ty a_ u_).1) + 0))) (ty := .int) (C := RX6) (T := TX6) (N := 9) hx hb hts hi_X6_valuesOfText_RX6 tyX6 tyX6_ok nmX6 hown hK hP hD hS 0 rfl rfl 7 (by decide) (hts _ hw_X6_valuesOfText_f105) (fun _ h9 => h9) rfl (by decide +kernel) rfl rfl (Nat.le_of_ble_eq_true rfl) dX6_valuesOfText_79 (fun H locs hP hD hS => ?_)
            have hP : va_P G.1 vwCl [(m0, .inr (6, [.ref aN, .ref aH, .int (nI kept), .ref aS, .int (nI fil), .int (nI ty), .ref aT, .int (nI (((tkR tx ty a_ u_).1) + 0)), .int (nI ((tkR tx ty a_ u_).2))])), (aN, .inl (xcI G, 10276, .inl (nf N))), (aH, .inl (xcI G, 41104, .inl (nf Hs))), (aS, .inl (xcI G, 10276, .inl (nf Sl))), (aT, .inl (xcC G, 60, .inl (nf tx)))] H := hP
            have hD : va_D (fun q => q ∈ [m0, aN, aH, aS, aT]) [(m0, .inr (6, [.ref aN, .ref aH, .int (nI kept), .ref aS, .int (nI fil), .int (nI ty), .ref aT, .int (nI (((tkR tx ty a_ u_).1) + 0)), .int (nI ((tkR tx ty a_ u_).2))])), (aN, .inl (xcI G, 10276, .inl (nf N))), (aH, .inl (xcI G, 41104, .inl (nf Hs))), (aS, .inl (xcI G, 10276, .inl (nf Sl))), (aT, .inl (xcC G, 60, .inl (nf tx)))] := hD
            refine lv_goto (tgt := 9) hx hb dX6_valuesOfText_82 (by decide) ?_
            have hl : lv_has ls 3 [(2, .int (nI 0)), (1, .int (nI (n_ + 1))), (0, .ref m0)] := lv_sub hl [0, 1, 2] rfl
            have hP : va_P G.1 vwCl [(m0, .inr (6, [.ref aN, .ref aH, .int (nI kept), .ref aS, .int (nI fil), .int (nI ty), .ref aT, .int (nI ((tkR tx ty a_ u_).1)), .int (nI ((tkR tx ty a_ u_).2))])), (aN, .inl (xcI G, 10276, .inl (nf N))), (aH, .inl (xcI G, 41104, .inl (nf Hs))), (aS, .inl (xcI G, 10276, .inl (nf Sl))), (aT, .inl (xcC G, 60, .inl (nf tx)))] H := hP
            exact ih_9 ⟨0, (tkR tx ty a_ u_).1, n_ + 1, (tkR tx ty a_ u_).2, 0⟩ _ _ _ (by show 61 - (tkR tx ty a_ u_).1 < 61 - a_; have := tkR_at (u := u_) c_17; omega) ⟨(Or.inr ⟨rfl, (by rw [← hv, if_neg (Nat.not_lt.mpr c_34)])⟩), (by dsimp only; have := tkR_at (u := u_) c_17; omega), hP, hS, hl⟩
          · exact absurd rfl c_70
        · exact absurd rfl c_44
      · refine lv_iconst (v := nI 1) hx hb dX6_valuesOfText_37 rfl ?_
        refine lv_goto (tgt := 42) hx hb dX6_valuesOfText_38 (by decide) ?_
        refine lv_istore_n (lv' := [(2, .int (nI 1)), (1, .int (nI (n_ + 1))), (0, .ref m0)]) hx hb dX6_valuesOfText_42 rfl hl (by decide) rfl (fun ls hl => ?_)
        refine lv_iload_n hx hb dX6_valuesOfText_43 rfl (lv_at hl 0 rfl) ?_
        refine n_if_eq (tgt := 64) hx hb (by omega) dX6_valuesOfText_44 (by decide) (fun c_44 => ?_) (fun c_44 => ?_)
        · exact absurd c_44 (by decide)
        · refine lv_aload_n hx hb dX6_valuesOfText_47 rfl (lv_at hl 2 rfl) ?_
          refine va_get (D := G.1) (ci := 6) (v := .ref aT) (C := RX6) (T := TX6) (N := 9) hx hb hts hi_X6_valuesOfText_RX6 hown hK hP 0 rfl rfl 6 (by decide) (hts _ hw_X6_valuesOfText_f20) (fun _ h9 => h9) rfl dX6_valuesOfText_48 ?_
          refine lv_aload_n hx hb dX6_valuesOfText_51 rfl (lv_at hl 2 rfl) ?_
          refine va_get (D := G.1) (ci := 6) (v := .int (nI ((tkR tx ty a_ u_).1))) (C := RX6) (T := TX6) (N := 9) hx hb hts hi_X6_valuesOfText_RX6 hown hK hP 0 rfl rfl 7 (by decide) (hts _ hw_X6_valuesOfText_f105) (fun _ h9 => h9) rfl dX6_valuesOfText_52 ?_
          refine n_cald hx hb hK hP 4 1 rfl rfl (by have := tkR_at (u := u_) c_17; omega) (by decide) dX6_valuesOfText_55 ?_
          refine lv_bipush (v := nI 44) hx hb dX6_valuesOfText_56 (by decide) ?_
          refine n_icmp_eq (tgt := 64) hx hb (by have := htx (tkR tx ty a_ u_).1; omega) (by omega) dX6_valuesOfText_58 (by decide) (fun c_58 => ?_) (fun c_58 => ?_)
          · refine lv_aload_n hx hb dX6_valuesOfText_64 rfl (lv_at hl 2 rfl) ?_
            refine lv_dup hx hb dX6_valuesOfText_65 rfl ?_
            refine va_get (D := G.1) (ci := 6) (v := .int (nI ((tkR tx ty a_ u_).1))) (C := RX6) (T := TX6) (N := 9) hx hb hts hi_X6_valuesOfText_RX6 hown hK hP 0 rfl rfl 7 (by decide) (hts _ hw_X6_valuesOfText_f105) (fun _ h9 => h9) rfl dX6_valuesOfText_66 ?_
            refine lv_iload_n hx hb dX6_valuesOfText_69 rfl (lv_at hl 0 rfl) ?_
            refine n_if_eq (tgt := 77) hx hb (by omega) dX6_valuesOfText_70 (by decide) (fun c_70 => ?_) (fun c_70 => ?_)
            · exact absurd c_70 (by decide)
            · refine lv_iconst (v := nI 1) hx hb dX6_valuesOfText_73 rfl ?_
              refine lv_goto (tgt := 78) hx hb dX6_valuesOfText_74 (by decide) ?_
              refine n_iadd hx hb dX6_valuesOfText_78 ?_
              refine va_put (D := G.1) (ci := 6) (v := .int (nI (((tkR tx ty a_ u_).1) + 1))) (ty := .int) (C := RX6) (T := TX6) (N := 9) hx hb hts hi_X6_valuesOfText_RX6 tyX6 tyX6_ok nmX6 hown hK hP hD hS 0 rfl rfl 7 (by decide) (hts _ hw_X6_valuesOfText_f105) (fun _ h9 => h9) rfl (by decide +kernel) rfl rfl (Nat.le_of_ble_eq_true rfl) dX6_valuesOfText_79 (fun H locs hP hD hS => ?_)
              have hP : va_P G.1 vwCl [(m0, .inr (6, [.ref aN, .ref aH, .int (nI kept), .ref aS, .int (nI fil), .int (nI ty), .ref aT, .int (nI (((tkR tx ty a_ u_).1) + 1)), .int (nI ((tkR tx ty a_ u_).2))])), (aN, .inl (xcI G, 10276, .inl (nf N))), (aH, .inl (xcI G, 41104, .inl (nf Hs))), (aS, .inl (xcI G, 10276, .inl (nf Sl))), (aT, .inl (xcC G, 60, .inl (nf tx)))] H := hP
              have hD : va_D (fun q => q ∈ [m0, aN, aH, aS, aT]) [(m0, .inr (6, [.ref aN, .ref aH, .int (nI kept), .ref aS, .int (nI fil), .int (nI ty), .ref aT, .int (nI (((tkR tx ty a_ u_).1) + 1)), .int (nI ((tkR tx ty a_ u_).2))])), (aN, .inl (xcI G, 10276, .inl (nf N))), (aH, .inl (xcI G, 41104, .inl (nf Hs))), (aS, .inl (xcI G, 10276, .inl (nf Sl))), (aT, .inl (xcC G, 60, .inl (nf tx)))] := hD
              refine lv_goto (tgt := 9) hx hb dX6_valuesOfText_82 (by decide) ?_
              have hl : lv_has ls 3 [(2, .int (nI 1)), (1, .int (nI (n_ + 1))), (0, .ref m0)] := lv_sub hl [0, 1, 2] rfl
              have hP : va_P G.1 vwCl [(m0, .inr (6, [.ref aN, .ref aH, .int (nI kept), .ref aS, .int (nI fil), .int (nI ty), .ref aT, .int (nI ((tkR tx ty a_ u_).1 + 1)), .int (nI ((tkR tx ty a_ u_).2))])), (aN, .inl (xcI G, 10276, .inl (nf N))), (aH, .inl (xcI G, 41104, .inl (nf Hs))), (aS, .inl (xcI G, 10276, .inl (nf Sl))), (aT, .inl (xcC G, 60, .inl (nf tx)))] H := hP
              exact ih_9 ⟨f0, (tkR tx ty a_ u_).1 + 1, n_ + 1, (tkR tx ty a_ u_).2, 1⟩ _ _ _ (by show 61 - ((tkR tx ty a_ u_).1 + 1) < 61 - a_; have := tkR_at (u := u_) c_17; omega) ⟨(Or.inl ⟨rfl, (by dsimp only; rw [← hv, if_pos c_34, if_pos c_58]), (by dsimp only; have := tkR_at (u := u_) c_17; omega)⟩), (by dsimp only; have := tkR_at (u := u_) c_17; omega), hP, hS, hl⟩
          · refine lv_bipush (v := (-5)) hx hb dX6_valuesOfText_61 (by decide) ?_
            exact xend_i () hx hb hr hk hS (fun _ h => h) dX6_valuesOfText_63 (by rw [← hv, if_pos c_34, if_neg c_58]) (by rw [← hv, if_pos c_34, if_neg c_58]; exact hP) (Nat.le_refl _) (Nat.le_refl _)
    · have hv := hg2.1
      rw [vtL_no c_17 (by omega)] at hv
      refine lv_bipush (v := (-5)) hx hb dX6_valuesOfText_20 (by decide) ?_
      exact xend_i () hx hb hr hk hS (fun _ h => h) dX6_valuesOfText_22 (by rw [← hv]) (by rw [← hv, ← tkR_f (u := u_) c_17]; exact hP) (Nat.le_refl _) (Nat.le_refl _)
