theorem hw_X6_type_f102 : Cond.fieldLink RX6 102 "TailVectorsModel" "typed" "I" ∈ wsX6_type := by decide +kernel
theorem hi_X6_type_RX6 : ∀ w ∈ u_ws RX6 TX6 9, w ∈ wsX6_type := by decide +kernel
theorem hw_X6_type_f20 : Cond.fieldLink RX6 20 "TailVectorsModel" "text" "[C" ∈ wsX6_type := by decide +kernel
set_option maxHeartbeats 4000000 in
set_option maxRecDepth 100000 in
theorem c_X6_type (l : Launch) (G : xG) (m0 : Nat) (aN : Nat) (aH : Nat) (aS : Nat) (aT : Nat) (N : Nat → Nat) (Hs : Nat → Nat) (Sl : Nat → Nat) (tx : Nat → Nat) (kept : Nat) (fil : Nat) (ty : Nat) (at_ : Nat) (nu : Nat) (x : Nat) (hN : ∀ j, N j < 2 ^ 24) (hdis : xDis (xB0 G) [m0, aN, aH, aS, aT]) (hev : 1 ≤ N 10171) (hev2 : N 10171 ≤ 24) (hrows : ∀ v, v ≤ 24 → N (403 * v) ≤ 300) (hwin : ∀ v, v < N 10171 → N (10075 + 4 * v + 2) + rLen N v ≤ N (403 * v)) (hM : N 10172 < 2 ^ 23) (hk4 : kept ≤ 4) (htx : ∀ j, tx j < 65536) (hty : ty ≤ 60) (hfil : fil < 2) (hx16 : x < 65536) : Met l yX6_type wsX6_type ({ frames := 0, cells := 0, slots := 0, locals := 0 } : Room) (xPc G [.ref m0, .int (nI x)] (fun H => va_P G.1 vwCl [(m0, .inr (6, [.ref aN, .ref aH, .int (nI kept), .ref aS, .int (nI fil), .int (nI ty), .ref aT, .int (nI at_), .int (nI nu)])), (aN, .inl (xcI G, 10276, .inl (nf N))), (aH, .inl (xcI G, 41104, .inl (nf Hs))), (aS, .inl (xcI G, 10276, .inl (nf Sl))), (aT, .inl (xcC G, 60, .inl (nf tx)))] H)) (xQ (σ := Unit) (fun _ => some (.int ((rmTyp (N, Hs, Sl, tx, kept, fil, ty, at_, nu) x).1))) (fun _ H => va_P G.1 vwCl [(m0, .inr (6, [.ref aN, .ref aH, .int (nI ((rmTyp (N, Hs, Sl, tx, kept, fil, ty, at_, nu) x).2.2.2.2.2.1)), .ref aS, .int (nI ((rmTyp (N, Hs, Sl, tx, kept, fil, ty, at_, nu) x).2.2.2.2.2.2.1)), .int (nI ((rmTyp (N, Hs, Sl, tx, kept, fil, ty, at_, nu) x).2.2.2.2.2.2.2.1)), .ref aT, .int (nI ((rmTyp (N, Hs, Sl, tx, kept, fil, ty, at_, nu) x).2.2.2.2.2.2.2.2.1)), .int (nI ((rmTyp (N, Hs, Sl, tx, kept, fil, ty, at_, nu) x).2.2.2.2.2.2.2.2.2))])), (aN, .inl (xcI G, 10276, .inl (nf ((rmTyp (N, Hs, Sl, tx, kept, fil, ty, at_, nu) x).2.1)))), (aH, .inl (xcI G, 41104, .inl (nf ((rmTyp (N, Hs, Sl, tx, kept, fil, ty, at_, nu) x).2.2.1)))), (aS, .inl (xcI G, 10276, .inl (nf ((rmTyp (N, Hs, Sl, tx, kept, fil, ty, at_, nu) x).2.2.2.1)))), (aT, .inl (xcC G, 60, .inl (nf ((rmTyp (N, Hs, Sl, tx, kept, fil, ty, at_, nu) x).2.2.2.2.1))))] H) (fun q => q ∈ [m0, aN, aH, aS, aT])) 0 0 (fun q => q ∈ [m0, aN, aH, aS, aT]) := by
  refine xMet (cc := cX6_type) (nL := 2) (ret := (some (.int))) (by decide) rfl (Nat.le_of_ble_eq_true rfl) ?_
  intro p e s m below meth c S hr hk hnm hE hP ls hl
  obtain ⟨hx, hb, hml, hown, hts⟩ := id S
  have hown : s.vm.findClass RX6 = some m.cls := hown
  have hK := hE.1
  have hS : va_S (fun q => q ∈ [m0, aN, aH, aS, aT]) s.heap s.heap [] := va_S.rf
  have hA : ∀ q, (fun q => q ∈ [m0, aN, aH, aS, aT]) q → xB0 G ≤ q := hdis.2
  have hP : va_P G.1 vwCl [(m0, .inr (6, [.ref aN, .ref aH, .int (nI kept), .ref aS, .int (nI fil), .int (nI ty), .ref aT, .int (nI at_), .int (nI nu)])), (aN, .inl (xcI G, 10276, .inl (nf N))), (aH, .inl (xcI G, 41104, .inl (nf Hs))), (aS, .inl (xcI G, 10276, .inl (nf Sl))), (aT, .inl (xcC G, 60, .inl (nf tx)))] s.heap := hP
  have hD : va_D (fun q => q ∈ [m0, aN, aH, aS, aT]) [(m0, .inr (6, [.ref aN, .ref aH, .int (nI kept), .ref aS, .int (nI fil), .int (nI ty), .ref aT, .int (nI at_), .int (nI nu)])), (aN, .inl (xcI G, 10276, .inl (nf N))), (aH, .inl (xcI G, 41104, .inl (nf Hs))), (aS, .inl (xcI G, 10276, .inl (nf Sl))), (aT, .inl (xcC G, 60, .inl (nf tx)))] := (hdis.to rfl)
  have hl : lv_has ls 2 [(0, .ref m0), (1, .int (nI x))] := hl
  refine lv_aload_n hx hb dX6_type_0 rfl (lv_at hl 0 rfl) ?_
  refine va_get (D := G.1) (ci := 6) (v := .int (nI ty)) (C := RX6) (T := TX6) (N := 9) hx hb hts hi_X6_type_RX6 hown hK hP 0 rfl rfl 5 (by decide) (hts _ hw_X6_type_f102) (fun _ h9 => h9) rfl dX6_type_1 ?_
  refine lv_bipush (v := nI 60) hx hb dX6_type_4 (by decide) ?_
  refine n_icmp_ne (tgt := 12) hx hb (by omega) (by omega) dX6_type_6 (by decide) (fun c_6 => ?_) (fun c_6 => ?_)
  · refine lv_aload_n hx hb dX6_type_12 rfl (lv_at hl 0 rfl) ?_
    refine va_get (D := G.1) (ci := 6) (v := .ref aT) (C := RX6) (T := TX6) (N := 9) hx hb hts hi_X6_type_RX6 hown hK hP 0 rfl rfl 6 (by decide) (hts _ hw_X6_type_f20) (fun _ h9 => h9) rfl dX6_type_13 ?_
    refine lv_aload_n hx hb dX6_type_16 rfl (lv_at hl 0 rfl) ?_
    refine va_get (D := G.1) (ci := 6) (v := .int (nI ty)) (C := RX6) (T := TX6) (N := 9) hx hb hts hi_X6_type_RX6 hown hK hP 0 rfl rfl 5 (by decide) (hts _ hw_X6_type_f102) (fun _ h9 => h9) rfl dX6_type_17 ?_
    refine lv_iload_n hx hb dX6_type_20 rfl (lv_at hl 1 rfl) ?_
    refine n_cast hx hb hK hP hD hS 4 1 rfl rfl (by omega) (by decide) hx16 dX6_type_21 (fun H locs hP hD hS => ?_)
    have hP : va_P G.1 vwCl [(m0, .inr (6, [.ref aN, .ref aH, .int (nI kept), .ref aS, .int (nI fil), .int (nI ty), .ref aT, .int (nI at_), .int (nI nu)])), (aN, .inl (xcI G, 10276, .inl (nf N))), (aH, .inl (xcI G, 41104, .inl (nf Hs))), (aS, .inl (xcI G, 10276, .inl (nf Sl))), (aT, .inl (xcC G, 60, .inl (nf (updN tx ty x))))] H := hP
    have hD : va_D (fun q => q ∈ [m0, aN, aH, aS, aT]) [(m0, .inr (6, [.ref aN, .ref aH, .int (nI kept), .ref aS, .int (nI fil), .int (nI ty), .ref aT, .int (nI at_), .int (nI nu)])), (aN, .inl (xcI G, 10276, .inl (nf N))), (aH, .inl (xcI G, 41104, .inl (nf Hs))), (aS, .inl (xcI G, 10276, .inl (nf Sl))), (aT, .inl (xcC G, 60, .inl (nf (updN tx ty x))))] := hD
    refine lv_aload_n hx hb dX6_type_22 rfl (lv_at hl 0 rfl) ?_
    refine lv_dup hx hb dX6_type_23 rfl ?_
    refine va_get (D := G.1) (ci := 6) (v := .int (nI ty)) (C := RX6) (T := TX6) (N := 9) hx hb hts hi_X6_type_RX6 hown hK hP 0 rfl rfl 5 (by decide) (hts _ hw_X6_type_f102) (fun _ h9 => h9) rfl dX6_type_24 ?_
    refine lv_iconst (v := nI 1) hx hb dX6_type_27 rfl ?_
    refine n_iadd hx hb dX6_type_28 ?_
    refine va_put (D := G.1) (ci := 6) (v := .int (nI (ty + 1))) (ty := .int) (C := RX6) (T := TX6) (N := 9) hx hb hts hi_X6_type_RX6 tyX6 tyX6_ok nmX6 hown hK hP hD hS 0 rfl rfl 5 (by decide) (hts _ hw_X6_type_f102) (fun _ h9 => h9) rfl (by decide +kernel) rfl rfl (Nat.le_of_ble_eq_true rfl) dX6_type_29 (fun H locs hP hD hS => ?_)
    have hP : va_P G.1 vwCl [(m0, .inr (6, [.ref aN, .ref aH, .int (nI kept), .ref aS, .int (nI fil), .int (nI (ty + 1)), .ref aT, .int (nI at_), .int (nI nu)])), (aN, .inl (xcI G, 10276, .inl (nf N))), (aH, .inl (xcI G, 41104, .inl (nf Hs))), (aS, .inl (xcI G, 10276, .inl (nf Sl))), (aT, .inl (xcC G, 60, .inl (nf (updN tx ty x))))] H := hP
    have hD : va_D (fun q => q ∈ [m0, aN, aH, aS, aT]) [(m0, .inr (6, [.ref aN, .ref aH, .int (nI kept), .ref aS, .int (nI fil), .int (nI (ty + 1)), .ref aT, .int (nI at_), .int (nI nu)])), (aN, .inl (xcI G, 10276, .inl (nf N))), (aH, .inl (xcI G, 41104, .inl (nf Hs))), (aS, .inl (xcI G, 10276, .inl (nf Sl))), (aT, .inl (xcC G, 60, .inl (nf (updN tx ty x))))] := hD
    refine lv_aload_n hx hb dX6_type_32 rfl (lv_at hl 0 rfl) ?_
    refine va_get (D := G.1) (ci := 6) (v := .int (nI (ty + 1))) (C := RX6) (T := TX6) (N := 9) hx hb hts hi_X6_type_RX6 hown hK hP 0 rfl rfl 5 (by decide) (hts _ hw_X6_type_f102) (fun _ h9 => h9) rfl dX6_type_33 ?_
    have eR : rmTyp (N, Hs, Sl, tx, kept, fil, ty, at_, nu) x = (nI (ty + 1), N, Hs, Sl, updN tx ty x, kept, fil, ty + 1, at_, nu) := by rw [rmTyp, if_neg c_6]
    exact xend_i () hx hb hr hk hS (fun _ h => h) dX6_type_36 (by rw [eR]) (by rw [eR]; exact hP) (Nat.le_refl _) (Nat.le_refl _)
  · refine lv_bipush (v := (-3)) hx hb dX6_type_9 (by decide) ?_
    have eR : rmTyp (N, Hs, Sl, tx, kept, fil, ty, at_, nu) x = ((-3), N, Hs, Sl, tx, kept, fil, ty, at_, nu) := by rw [rmTyp, if_pos c_6]
    exact xend_i () hx hb hr hk hS (fun _ h => h) dX6_type_11 (by rw [eR]) (by rw [eR]; exact hP) (Nat.le_refl _) (Nat.le_refl _)

def pOk (tx : Nat → Nat) (ty : Nat) : Nat → Nat → Prop
  | 0, _ => True
  | c + 1, a => rDg tx ty a ∧ ((c = 0 ∧ ty ≤ (tkR tx ty a 0).1) ∨ (0 < c ∧ (tkR tx ty a 0).1 < ty ∧ tx (tkR tx ty a 0).1 = 44 ∧ pOk tx ty c ((tkR tx ty a 0).1 + 1)))
theorem tkR_u {tx : Nat → Nat} {ty a : Nat} (u w : Nat) (h : rDg tx ty a) : tkR tx ty a u = tkR tx ty a w := by rw [tkR, tkR, if_pos h, if_pos h]
theorem vtL_ok {tx : Nat → Nat} {ty : Nat} (hty : ty ≤ 60) : ∀ f a n u, a ≤ ty → 61 ≤ f + a → ¬ (vtL tx ty f a n u).1 = -5 → ∃ c, (vtL tx ty f a n u).1 = nI (n + c) ∧ 1 ≤ c ∧ 2 * c ≤ ty - a + 1 ∧ pOk tx ty c a
  | 0, a, n, u, h1, h2, _ => by omega
  | f + 1, a, n, u, h1, h2, h3 => by
    unfold vtL at h3 ⊢
    by_cases hd : rDg tx ty a
    · rw [if_pos hd] at h3 ⊢
      have ht := tkR_at (u := u) hd
      by_cases hl : (tkR tx ty a u).1 < ty
      · rw [if_pos hl] at h3 ⊢
        by_cases hc : tx (tkR tx ty a u).1 = 44
        · rw [if_pos hc] at h3 ⊢
          obtain ⟨c, e1, e2, e3, e4⟩ := vtL_ok hty f _ _ _ (show (tkR tx ty a u).1 + 1 ≤ ty by omega) (by omega) h3
          refine ⟨c + 1, by rw [e1]; congr 1; omega, by omega, by omega, hd, Or.inr ⟨by omega, ?_⟩⟩
          rw [tkR_u 0 u hd]
          exact ⟨hl, hc, e4⟩
        · rw [if_neg hc] at h3
          exact absurd rfl h3
      · rw [if_neg hl]
        refine ⟨1, rfl, Nat.le_refl _, by have := hd.1; omega, hd, Or.inl ⟨rfl, ?_⟩⟩
        rw [tkR_u 0 u hd]
        omega
    · rw [if_neg hd] at h3
      exact absurd rfl h3
theorem rVt_ok {tx : Nat → Nat} {ty nu : Nat} (hty : ty ≤ 60) (h : ¬ (rVt tx ty nu).1 = -5) : ∃ c, (rVt tx ty nu).1 = nI c ∧ 1 ≤ c ∧ c ≤ 30 ∧ pOk tx ty c 0 := by
  obtain ⟨c, e1, e2, e3, e4⟩ := vtL_ok hty 61 0 0 nu (Nat.zero_le _) (by omega) h
  exact ⟨c, by rw [rVt, e1, Nat.zero_add], e2, by omega, e4⟩
def rdL (tx : Nat → Nat) (ty : Nat) : Nat → Nat → Nat → (Nat → Nat) → (Nat → Nat) × Nat × Nat
  | 0, a, u, N => (N, a, u)
  | c + 1, a, u, N => rdL tx ty c ((tkR tx ty a u).1 + 1) (tkR tx ty a u).2 (rPu N 24 (tkR tx ty a u).2)
theorem rdL_go {tx : Nat → Nat} {ty c a u : Nat} {N : Nat → Nat} (h : 0 < c) : rdL tx ty c a u N = rdL tx ty (c - 1) ((tkR tx ty a u).1 + 1) (tkR tx ty a u).2 (rPu N 24 (tkR tx ty a u).2) := by
  cases c with
  | zero => omega
  | succ c => rfl
theorem pOk_go {tx : Nat → Nat} {ty c a : Nat} (u : Nat) (h : pOk tx ty c a) (hc : 0 < c) : rDg tx ty a ∧ pOk tx ty (c - 1) ((tkR tx ty a u).1 + 1) := by
  cases c with
  | zero => omega
  | succ c =>
    obtain ⟨h1, h2⟩ := h
    refine ⟨h1, ?_⟩
    rw [tkR_u u 0 h1]
    rcases h2 with h2 | h2
    · obtain ⟨rfl, -⟩ := h2; trivial
    · exact h2.2.2.2
theorem rMk_len {N : Nat → Nat} {r k q w : Nat} (hr : r ≤ 24) (hq : rBg k + q < 102) : rMk N r k q w (403 * r) = N (403 * r) := by
  unfold rMk
  split
  · rfl
  · split
    · rw [updN_n (by omega), updN_n (by omega), updN_n (by omega)]
    · rw [updN_n (by omega), updN_n (by omega)]
theorem rPl_len {N : Nat → Nat} {r l : Nat} (hr : r ≤ 24) (hl : l ≤ 74) : ∀ k, k ≤ 4 → rPl N r l k (403 * r) = N (403 * r) := by
  intro k
  induction k with
  | zero => intro _; exact rMk_len hr (by have := rBg_dv (k := 0) (l := l) (by omega) hl; simpa using this)
  | succ k ih =>
    intro hk
    unfold rPl
    rw [rMk_len hr (rBg_dv hk hl)]
    exact ih (by omega)
theorem rPu_fac {N : Nat → Nat} {r x : Nat} (hN : ∀ j, N j < 2 ^ 24) (hr : r ≤ 24) (hl : N (403 * r) < 300) (hM : N 10172 < 2 ^ 23) (hx : x < 2 ^ 24) : (∀ j, rPu N r x j < 2 ^ 24) ∧ rPu N r x 10172 ≤ N 10172 + 6 ∧ rPu N r x (403 * r) = N (403 * r) + 1 := by
  have hl74 := rLv_le (Nat.le_of_lt hl)
  have hr4 := rRt_le (rLv (N (403 * r)) + 1)
  obtain ⟨h1, h2⟩ := rPl_lt hN hr hl74 hM (rRt (rLv (N (403 * r)) + 1)) hr4
  unfold rPu
  refine ⟨updN_lt (updN_lt (fun j => ?_) hx) (by omega), ?_, updN_s⟩
  · split
    · exact h1 j
    · exact hN j
  · rw [updN_n (by omega), updN_n (by omega)]
    split
    · omega
    · omega
def rmRea (M : RM) : Int32 × RM := match M with
  | (N, Hs, Sl, tx, kept, fil, ty, at_, nu) =>
    if N 10173 = 0 then (-4, M)
    else if (rVt tx ty nu).1 = -5 then (-100 - nI (rVt tx ty nu).2.1, N, Hs, Sl, tx, kept, fil, ty, (rVt tx ty nu).2.1, (rVt tx ty nu).2.2)
    else if 300 < N (403 * 24) + (rVt tx ty nu).1.toNatClampNeg then (-3, N, Hs, Sl, tx, kept, fil, ty, (rVt tx ty nu).2.1, (rVt tx ty nu).2.2)
    else (nI ((rdL tx ty (rVt tx ty nu).1.toNatClampNeg 0 (rVt tx ty nu).2.2 N).1 10172) - nI (N 10172), (rdL tx ty (rVt tx ty nu).1.toNatClampNeg 0 (rVt tx ty nu).2.2 N).1, rRecH Hs N kept, Sl, tx, rRecK kept, fil, ty, (rdL tx ty (rVt tx ty nu).1.toNatClampNeg 0 (rVt tx ty nu).2.2 N).2.1, (rdL tx ty (rVt tx ty nu).1.toNatClampNeg 0 (rVt tx ty nu).2.2 N).2.2)

theorem hw_X6_editRead_f7 : Cond.fieldLink RX6 7 "TailVectorsModel" "now" "[I" ∈ wsX6_editRead := by decide +kernel
theorem hi_X6_editRead_RX6 : ∀ w ∈ u_ws RX6 TX6 9, w ∈ wsX6_editRead := by decide +kernel
theorem hw_X6_editRead_f105 : Cond.fieldLink RX6 105 "TailVectorsModel" "at" "I" ∈ wsX6_editRead := by decide +kernel
theorem hw_X6_editRead_f111 : Cond.fieldLink RX6 111 "TailVectorsModel" "number" "I" ∈ wsX6_editRead := by decide +kernel
set_option maxHeartbeats 4000000 in
set_option maxRecDepth 100000 in
theorem c_X6_editRead (l : Launch) (G : xG) (m0 : Nat) (aN : Nat) (aH : Nat) (aS : Nat) (aT : Nat) (N : Nat → Nat) (Hs : Nat → Nat) (Sl : Nat → Nat) (tx : Nat → Nat) (kept : Nat) (fil : Nat) (ty : Nat) (at_ : Nat) (nu : Nat) (hN : ∀ j, N j < 2 ^ 24) (hdis : xDis (xB0 G) [m0, aN, aH, aS, aT]) (hev : 1 ≤ N 10171) (hev2 : N 10171 ≤ 24) (hrows : ∀ v, v ≤ 24 → N (403 * v) ≤ 300) (hwin : ∀ v, v < N 10171 → N (10075 + 4 * v + 2) + rLen N v ≤ N (403 * v)) (hM : N 10172 < 2 ^ 23) (hk4 : kept ≤ 4) (htx : ∀ j, tx j < 65536) (hty : ty ≤ 60) (hfil : fil < 2) (hM2 : N 10172 < 2 ^ 22) : Met l yX6_editRead wsX6_editRead ({ frames := 4, cells := 0, slots := 0, locals := 89 } : Room) (xPc G [.ref m0] (fun H => va_P G.1 vwCl [(m0, .inr (6, [.ref aN, .ref aH, .int (nI kept), .ref aS, .int (nI fil), .int (nI ty), .ref aT, .int (nI at_), .int (nI nu)])), (aN, .inl (xcI G, 10276, .inl (nf N))), (aH, .inl (xcI G, 41104, .inl (nf Hs))), (aS, .inl (xcI G, 10276, .inl (nf Sl))), (aT, .inl (xcC G, 60, .inl (nf tx)))] H)) (xQ (σ := Unit) (fun _ => some (.int ((rmRea (N, Hs, Sl, tx, kept, fil, ty, at_, nu)).1))) (fun _ H => va_P G.1 vwCl [(m0, .inr (6, [.ref aN, .ref aH, .int (nI ((rmRea (N, Hs, Sl, tx, kept, fil, ty, at_, nu)).2.2.2.2.2.1)), .ref aS, .int (nI ((rmRea (N, Hs, Sl, tx, kept, fil, ty, at_, nu)).2.2.2.2.2.2.1)), .int (nI ((rmRea (N, Hs, Sl, tx, kept, fil, ty, at_, nu)).2.2.2.2.2.2.2.1)), .ref aT, .int (nI ((rmRea (N, Hs, Sl, tx, kept, fil, ty, at_, nu)).2.2.2.2.2.2.2.2.1)), .int (nI ((rmRea (N, Hs, Sl, tx, kept, fil, ty, at_, nu)).2.2.2.2.2.2.2.2.2))])), (aN, .inl (xcI G, 10276, .inl (nf ((rmRea (N, Hs, Sl, tx, kept, fil, ty, at_, nu)).2.1)))), (aH, .inl (xcI G, 41104, .inl (nf ((rmRea (N, Hs, Sl, tx, kept, fil, ty, at_, nu)).2.2.1)))), (aS, .inl (xcI G, 10276, .inl (nf ((rmRea (N, Hs, Sl, tx, kept, fil, ty, at_, nu)).2.2.2.1)))), (aT, .inl (xcC G, 60, .inl (nf ((rmRea (N, Hs, Sl, tx, kept, fil, ty, at_, nu)).2.2.2.2.1))))] H) (fun q => q ∈ [m0, aN, aH, aS, aT])) 0 0 (fun q => q ∈ [m0, aN, aH, aS, aT]) := by
  refine xMet (cc := cX6_editRead) (nL := 4) (ret := (some (.int))) (by decide) rfl (Nat.le_of_ble_eq_true rfl) ?_
  intro p e s m below meth c S hr hk hnm hE hP ls hl
  obtain ⟨hx, hb, hml, hown, hts⟩ := id S
  have hown : s.vm.findClass RX6 = some m.cls := hown
  have hK := hE.1
  have hS : va_S (fun q => q ∈ [m0, aN, aH, aS, aT]) s.heap s.heap [] := va_S.rf
  have hA : ∀ q, (fun q => q ∈ [m0, aN, aH, aS, aT]) q → xB0 G ≤ q := hdis.2
  have hP : va_P G.1 vwCl [(m0, .inr (6, [.ref aN, .ref aH, .int (nI kept), .ref aS, .int (nI fil), .int (nI ty), .ref aT, .int (nI at_), .int (nI nu)])), (aN, .inl (xcI G, 10276, .inl (nf N))), (aH, .inl (xcI G, 41104, .inl (nf Hs))), (aS, .inl (xcI G, 10276, .inl (nf Sl))), (aT, .inl (xcC G, 60, .inl (nf tx)))] s.heap := hP
  have hD : va_D (fun q => q ∈ [m0, aN, aH, aS, aT]) [(m0, .inr (6, [.ref aN, .ref aH, .int (nI kept), .ref aS, .int (nI fil), .int (nI ty), .ref aT, .int (nI at_), .int (nI nu)])), (aN, .inl (xcI G, 10276, .inl (nf N))), (aH, .inl (xcI G, 41104, .inl (nf Hs))), (aS, .inl (xcI G, 10276, .inl (nf Sl))), (aT, .inl (xcC G, 60, .inl (nf tx)))] := (hdis.to rfl)
  have hl : lv_has ls 4 [(0, .ref m0)] := hl
  refine lv_aload_n hx hb dX6_editRead_0 rfl (lv_at hl 0 rfl) ?_
  refine xrd (xrunV (As := []) (rest := []) S (c_X6_noEdit l G m0 aN aH aS aT N Hs Sl tx kept fil ty at_ nu hN) (cwV 0 hts gX6_editRead_X6_noEdit rfl rfl rfl (by decide +kernel) ⟨Nat.le_of_ble_eq_true rfl, Nat.le_of_ble_eq_true rfl⟩) hE hS hA 0 6 hP rfl rfl rfl hP rfl rfl hl.1 (Nat.le_of_ble_eq_true rfl) dX6_editRead_1 ⟨Nat.le_of_ble_eq_true rfl, Nat.le_of_ble_eq_true rfl⟩) ?_
  refine b_if_eq (tgt := 10) hx hb dX6_editRead_4 (by decide) (fun c_4 => ?_) (fun c_4 => ?_)
  · refine lv_aload_n hx hb dX6_editRead_10 rfl (lv_at hl 0 rfl) ?_
    refine xwr (xrunV (As := []) (rest := []) S (c_X6_valuesOfText l G m0 aN aH aS aT N Hs Sl tx kept fil ty at_ nu hN hdis htx hty) (cwV 0 hts gX6_editRead_X6_valuesOfText rfl rfl rfl (by decide +kernel) ⟨Nat.le_of_ble_eq_true rfl, Nat.le_of_ble_eq_true rfl⟩) hE hS hA 0 6 hP rfl rfl rfl hP rfl rfl hl.1 (Nat.le_of_ble_eq_true rfl) dX6_editRead_11 ⟨Nat.le_of_ble_eq_true rfl, Nat.le_of_ble_eq_true rfl⟩) hS (fun _ h => h) (fun _ h => h) (fun uw_ H locs hΨ hz hkp hS => ?_)
    have hP : va_P G.1 vwCl [(m0, .inr (6, [.ref aN, .ref aH, .int (nI kept), .ref aS, .int (nI fil), .int (nI ty), .ref aT, .int (nI ((rVt tx ty nu).2.1)), .int (nI ((rVt tx ty nu).2.2))])), (aN, .inl (xcI G, 10276, .inl (nf N))), (aH, .inl (xcI G, 41104, .inl (nf Hs))), (aS, .inl (xcI G, 10276, .inl (nf Sl))), (aT, .inl (xcC G, 60, .inl (nf tx)))] H := hΨ
    have hD : va_D (fun q => q ∈ [m0, aN, aH, aS, aT]) [(m0, .inr (6, [.ref aN, .ref aH, .int (nI kept), .ref aS, .int (nI fil), .int (nI ty), .ref aT, .int (nI ((rVt tx ty nu).2.1)), .int (nI ((rVt tx ty nu).2.2))])), (aN, .inl (xcI G, 10276, .inl (nf N))), (aH, .inl (xcI G, 41104, .inl (nf Hs))), (aS, .inl (xcI G, 10276, .inl (nf Sl))), (aT, .inl (xcC G, 60, .inl (nf tx)))] := (hdis.to rfl)
    refine W.eq (g2 := F0 m 14 ls [.int ((rVt tx ty nu).1)]) rfl ?_
    refine lv_istore_n (lv' := [(1, .int ((rVt tx ty nu).1)), (0, .ref m0)]) hx hb dX6_editRead_14 rfl hl (by decide) rfl (fun ls hl => ?_)
    refine lv_iload_n hx hb dX6_editRead_15 rfl (lv_at hl 0 rfl) ?_
    refine lv_bipush (v := (-5)) hx hb dX6_editRead_16 (by decide) ?_
    refine lv_icmp_ne (tgt := 29) hx hb dX6_editRead_18 (by decide) (fun c_18 => ?_) (fun c_18 => ?_)
    · obtain ⟨cn, hcR, hc1, hc30, hpk⟩ := rVt_ok hty c_18
      have hcc : (nI cn).toNatClampNeg = cn := nI_clamp (by omega)
      rw [hcR] at hl
      refine lv_aload_n hx hb dX6_editRead_29 rfl (lv_at hl 1 rfl) ?_
      refine lv_bipush (v := nI 24) hx hb dX6_editRead_30 (by decide) ?_
      refine xrd (xrunV (As := [.int (nI 24)]) (rest := []) S (c_X6_rowLength l G m0 aN aH aS aT N Hs Sl tx kept fil ty ((rVt tx ty nu).2.1) ((rVt tx ty nu).2.2) 24 hN (by omega)) (cwV 1 hts gX6_editRead_X6_rowLength rfl rfl rfl (by decide +kernel) ⟨Nat.le_of_ble_eq_true rfl, Nat.le_of_ble_eq_true rfl⟩) hE hS hA 0 6 hP rfl rfl rfl hP rfl rfl hl.1 (Nat.le_of_ble_eq_true rfl) dX6_editRead_32 ⟨Nat.le_of_ble_eq_true rfl, Nat.le_of_ble_eq_true rfl⟩) ?_
      refine lv_iload_n hx hb dX6_editRead_35 rfl (lv_at hl 0 rfl) ?_
      refine n_iadd hx hb dX6_editRead_36 ?_
      refine lv_sipush (v := nI 300) hx hb dX6_editRead_37 (by decide) ?_
      refine n_icmp_le (tgt := 46) hx hb (by have := hrows 24 (by omega); omega) (by omega) dX6_editRead_40 (by decide) (fun c_40 => ?_) (fun c_40 => ?_)
      · refine lv_aload_n hx hb dX6_editRead_46 rfl (lv_at hl 1 rfl) ?_
        refine xwr (xrunV (As := []) (rest := []) S (c_X6_record l G m0 aN aH aS aT N Hs Sl tx kept fil ty ((rVt tx ty nu).2.1) ((rVt tx ty nu).2.2) hN hdis hk4) (cwV 0 hts gX6_editRead_X6_record rfl rfl rfl (by decide +kernel) ⟨Nat.le_of_ble_eq_true rfl, Nat.le_of_ble_eq_true rfl⟩) hE hS hA 0 6 hP rfl rfl rfl hP rfl rfl hl.1 (Nat.le_of_ble_eq_true rfl) dX6_editRead_47 ⟨Nat.le_of_ble_eq_true rfl, Nat.le_of_ble_eq_true rfl⟩) hS (fun _ h => h) (fun _ h => h) (fun uw_ H locs hΨ hz hkp hS => ?_)
        have hP : va_P G.1 vwCl [(m0, .inr (6, [.ref aN, .ref aH, .int (nI (rRecK kept)), .ref aS, .int (nI fil), .int (nI ty), .ref aT, .int (nI ((rVt tx ty nu).2.1)), .int (nI ((rVt tx ty nu).2.2))])), (aN, .inl (xcI G, 10276, .inl (nf N))), (aH, .inl (xcI G, 41104, .inl (nf (rRecH Hs N kept)))), (aS, .inl (xcI G, 10276, .inl (nf Sl))), (aT, .inl (xcC G, 60, .inl (nf tx)))] H := hΨ
        have hD : va_D (fun q => q ∈ [m0, aN, aH, aS, aT]) [(m0, .inr (6, [.ref aN, .ref aH, .int (nI (rRecK kept)), .ref aS, .int (nI fil), .int (nI ty), .ref aT, .int (nI ((rVt tx ty nu).2.1)), .int (nI ((rVt tx ty nu).2.2))])), (aN, .inl (xcI G, 10276, .inl (nf N))), (aH, .inl (xcI G, 41104, .inl (nf (rRecH Hs N kept)))), (aS, .inl (xcI G, 10276, .inl (nf Sl))), (aT, .inl (xcC G, 60, .inl (nf tx)))] := (hdis.to rfl)
        refine W.eq (g2 := F0 m 50 ls []) rfl ?_
        refine lv_aload_n hx hb dX6_editRead_50 rfl (lv_at hl 1 rfl) ?_
        refine va_get (D := G.1) (ci := 6) (v := .ref aN) (C := RX6) (T := TX6) (N := 9) hx hb hts hi_X6_editRead_RX6 hown hK hP 0 rfl rfl 0 (by decide) (hts _ hw_X6_editRead_f7) (fun _ h9 => h9) rfl dX6_editRead_51 ?_
        refine lv_sipush (v := nI 10172) hx hb dX6_editRead_54 (by decide) ?_
        refine n_iald hx hb hK hP 1 0 rfl rfl (by omega) (by decide) dX6_editRead_57 ?_
        refine lv_istore_n (lv' := [(2, .int (nI (N 10172))), (1, .int (nI cn)), (0, .ref m0)]) hx hb dX6_editRead_58 rfl hl (by decide) rfl (fun ls hl => ?_)
        refine lv_aload_n hx hb dX6_editRead_59 rfl (lv_at hl 2 rfl) ?_
        refine lv_iconst (v := nI 0) hx hb dX6_editRead_60 rfl ?_
        refine va_put (D := G.1) (ci := 6) (v := .int (nI 0)) (ty := .int) (C := RX6) (T := TX6) (N := 9) hx hb hts hi_X6_editRead_RX6 tyX6 tyX6_ok nmX6 hown hK hP hD hS 0 rfl rfl 7 (by decide) (hts _ hw_X6_editRead_f105) (fun _ h9 => h9) rfl (by decide +kernel) rfl rfl (Nat.le_of_ble_eq_true rfl) dX6_editRead_61 (fun H locs hP hD hS => ?_)
        have hP : va_P G.1 vwCl [(m0, .inr (6, [.ref aN, .ref aH, .int (nI (rRecK kept)), .ref aS, .int (nI fil), .int (nI ty), .ref aT, .int (nI 0), .int (nI ((rVt tx ty nu).2.2))])), (aN, .inl (xcI G, 10276, .inl (nf N))), (aH, .inl (xcI G, 41104, .inl (nf (rRecH Hs N kept)))), (aS, .inl (xcI G, 10276, .inl (nf Sl))), (aT, .inl (xcC G, 60, .inl (nf tx)))] H := hP
        have hD : va_D (fun q => q ∈ [m0, aN, aH, aS, aT]) [(m0, .inr (6, [.ref aN, .ref aH, .int (nI (rRecK kept)), .ref aS, .int (nI fil), .int (nI ty), .ref aT, .int (nI 0), .int (nI ((rVt tx ty nu).2.2))])), (aN, .inl (xcI G, 10276, .inl (nf N))), (aH, .inl (xcI G, 41104, .inl (nf (rRecH Hs N kept)))), (aS, .inl (xcI G, 10276, .inl (nf Sl))), (aT, .inl (xcC G, 60, .inl (nf tx)))] := hD
        refine lv_iconst (v := nI 0) hx hb dX6_editRead_64 rfl ?_
        refine lv_istore_n (lv' := [(3, .int (nI 0)), (2, .int (nI (N 10172))), (1, .int (nI cn)), (0, .ref m0)]) hx hb dX6_editRead_65 rfl hl (by decide) rfl (fun ls hl => ?_)
        have hP : va_P G.1 vwCl [(m0, .inr (6, [.ref aN, .ref aH, .int (nI (rRecK kept)), .ref aS, .int (nI fil), .int (nI ty), .ref aT, .int (nI 0), .int (nI ((rVt tx ty nu).2.2))])), (aN, .inl (xcI G, 10276, .inl (nf N))), (aH, .inl (xcI G, 41104, .inl (nf (rRecH Hs N kept)))), (aS, .inl (xcI G, 10276, .inl (nf Sl))), (aT, .inl (xcC G, 60, .inl (nf tx)))] H := hP
        have hl : lv_has ls 4 [(3, .int (nI 0)), (1, .int (nI cn)), (2, .int (nI (N 10172))), (0, .ref m0)] := lv_sub hl [0, 2, 1, 3] rfl
        refine xloop (σ := Nat × Nat × Nat × (Nat → Nat)) (C := (fun (x_ : Nat × Nat × Nat × (Nat → Nat)) H locs ls => (x_.1 ≤ cn) ∧ (rdL tx ty (cn - x_.1) x_.2.1 x_.2.2.1 x_.2.2.2 = rdL tx ty cn 0 (rVt tx ty nu).2.2 N) ∧ (pOk tx ty (cn - x_.1) x_.2.1) ∧ (∀ j, x_.2.2.2 j < 2 ^ 24) ∧ (x_.2.2.2 10172 ≤ N 10172 + 6 * x_.1) ∧ (x_.2.2.2 (403 * 24) = N (403 * 24) + x_.1) ∧ va_P G.1 vwCl [(m0, .inr (6, [.ref aN, .ref aH, .int (nI (rRecK kept)), .ref aS, .int (nI fil), .int (nI ty), .ref aT, .int (nI x_.2.1), .int (nI x_.2.2.1)])), (aN, .inl (xcI G, 10276, .inl (nf x_.2.2.2))), (aH, .inl (xcI G, 41104, .inl (nf (rRecH Hs N kept)))), (aS, .inl (xcI G, 10276, .inl (nf Sl))), (aT, .inl (xcC G, 60, .inl (nf tx)))] H ∧ va_S (fun q => q ∈ [m0, aN, aH, aS, aT]) s.heap H locs ∧ lv_has ls 4 [(3, .int (nI x_.1)), (1, .int (nI cn)), (2, .int (nI (N 10172))), (0, .ref m0)])) (μ := (fun (x_ : Nat × Nat × Nat × (Nat → Nat)) => cn - x_.1)) (W' := fun H locs ls => W p l e _ s m _ below meth c H locs _ _ _ (F0 m 66 ls [])) ?_ ⟨0, 0, (rVt tx ty nu).2.2, N⟩ _ _ _ ⟨(Nat.zero_le _), rfl, hpk, hN, (Nat.le_refl _), rfl, hP, hS, hl⟩
        intro x_ H locs ls hC ih_66
        obtain ⟨k_, a_, u_, N1⟩ := x_
        obtain ⟨hkc_, hrd, hpo, hN1, hM1, hL1, hP, hS, hl⟩ := hC
        replace hkc_ : k_ ≤ cn := hkc_
        replace hrd : rdL tx ty (cn - k_) a_ u_ N1 = rdL tx ty cn 0 (rVt tx ty nu).2.2 N := hrd
        replace hpo : pOk tx ty (cn - k_) a_ := hpo
        replace hN1 : ∀ j, N1 j < 2 ^ 24 := hN1
        replace hM1 : N1 10172 ≤ N 10172 + 6 * k_ := hM1
        replace hL1 : N1 (403 * 24) = N (403 * 24) + k_ := hL1
        replace hP : va_P G.1 vwCl [(m0, .inr (6, [.ref aN, .ref aH, .int (nI (rRecK kept)), .ref aS, .int (nI fil), .int (nI ty), .ref aT, .int (nI a_), .int (nI u_)])), (aN, .inl (xcI G, 10276, .inl (nf N1))), (aH, .inl (xcI G, 41104, .inl (nf (rRecH Hs N kept)))), (aS, .inl (xcI G, 10276, .inl (nf Sl))), (aT, .inl (xcC G, 60, .inl (nf tx)))] H := hP
        have hD : va_D (fun q => q ∈ [m0, aN, aH, aS, aT]) [(m0, .inr (6, [.ref aN, .ref aH, .int (nI (rRecK kept)), .ref aS, .int (nI fil), .int (nI ty), .ref aT, .int (nI a_), .int (nI u_)])), (aN, .inl (xcI G, 10276, .inl (nf N1))), (aH, .inl (xcI G, 41104, .inl (nf (rRecH Hs N kept)))), (aS, .inl (xcI G, 10276, .inl (nf Sl))), (aT, .inl (xcC G, 60, .inl (nf tx)))] := (hdis.to rfl)
        replace hl : lv_has ls 4 [(3, .int (nI k_)), (1, .int (nI cn)), (2, .int (nI (N 10172))), (0, .ref m0)] := hl
        refine id ?_
        refine lv_iload_n hx hb dX6_editRead_66 rfl (lv_at hl 0 rfl) ?_
        refine lv_iload_n hx hb dX6_editRead_67 rfl (lv_at hl 1 rfl) ?_
        refine n_icmp_ge (tgt := 102) hx hb (by omega) (by omega) dX6_editRead_68 (by decide) (fun c_68 => ?_) (fun c_68 => ?_)
        · have hk9 : cn = k_ := by omega
          subst hk9
          rw [Nat.sub_self] at hrd
          refine lv_aload_n hx hb dX6_editRead_102 rfl (lv_at hl 3 rfl) ?_
          refine va_get (D := G.1) (ci := 6) (v := .ref aN) (C := RX6) (T := TX6) (N := 9) hx hb hts hi_X6_editRead_RX6 hown hK hP 0 rfl rfl 0 (by decide) (hts _ hw_X6_editRead_f7) (fun _ h9 => h9) rfl dX6_editRead_103 ?_
          refine lv_sipush (v := nI 10172) hx hb dX6_editRead_106 (by decide) ?_
          refine n_iald hx hb hK hP 1 0 rfl rfl (by omega) (by decide) dX6_editRead_109 ?_
          refine lv_iload_n hx hb dX6_editRead_110 rfl (lv_at hl 2 rfl) ?_
          refine lv_isub hx hb dX6_editRead_111 ?_
          have eR : rmRea (N, Hs, Sl, tx, kept, fil, ty, at_, nu) = ((nI (N1 10172)) - (nI (N 10172)), N1, rRecH Hs N kept, Sl, tx, rRecK kept, fil, ty, a_, u_) := by rw [rmRea, if_neg c_4, if_neg c_18, hcR, hcc, if_neg (Nat.not_lt.mpr c_40), ← hrd]; rfl
          exact xend_i () hx hb hr hk hS (fun _ h => h) dX6_editRead_112 (by rw [eR]) (by rw [eR]; exact hP) (Nat.le_refl _) (Nat.le_refl _)
        · have hpg := pOk_go u_ hpo (by omega)
          have hnu := tkR_nu (u := u_) hpg.1
          have hpf := rPu_fac (r := 24) (x := (tkR tx ty a_ u_).2) hN1 (by omega) (by omega) (by omega) (by omega)
          refine lv_aload_n hx hb dX6_editRead_71 rfl (lv_at hl 3 rfl) ?_
          refine xwr (xrunV (As := []) (rest := []) S (c_X6_takesNumber l G m0 aN aH aS aT N1 (rRecH Hs N kept) Sl tx (rRecK kept) fil ty a_ u_ hN1 hdis htx hty (by have := hpg.1.1; omega)) (cwV 0 hts gX6_editRead_X6_takesNumber rfl rfl rfl (by decide +kernel) ⟨Nat.le_of_ble_eq_true rfl, Nat.le_of_ble_eq_true rfl⟩) hE hS hA 0 6 hP rfl rfl rfl hP rfl rfl hl.1 (Nat.le_of_ble_eq_true rfl) dX6_editRead_72 ⟨Nat.le_of_ble_eq_true rfl, Nat.le_of_ble_eq_true rfl⟩) hS (fun _ h => h) (fun _ h => h) (fun uw_ H locs hΨ hz hkp hS => ?_)
          have hP : va_P G.1 vwCl [(m0, .inr (6, [.ref aN, .ref aH, .int (nI (rRecK kept)), .ref aS, .int (nI fil), .int (nI ty), .ref aT, .int (nI ((tkR tx ty a_ u_).1)), .int (nI ((tkR tx ty a_ u_).2))])), (aN, .inl (xcI G, 10276, .inl (nf N1))), (aH, .inl (xcI G, 41104, .inl (nf (rRecH Hs N kept)))), (aS, .inl (xcI G, 10276, .inl (nf Sl))), (aT, .inl (xcC G, 60, .inl (nf tx)))] H := hΨ
          have hD : va_D (fun q => q ∈ [m0, aN, aH, aS, aT]) [(m0, .inr (6, [.ref aN, .ref aH, .int (nI (rRecK kept)), .ref aS, .int (nI fil), .int (nI ty), .ref aT, .int (nI ((tkR tx ty a_ u_).1)), .int (nI ((tkR tx ty a_ u_).2))])), (aN, .inl (xcI G, 10276, .inl (nf N1))), (aH, .inl (xcI G, 41104, .inl (nf (rRecH Hs N kept)))), (aS, .inl (xcI G, 10276, .inl (nf Sl))), (aT, .inl (xcC G, 60, .inl (nf tx)))] := (hdis.to rfl)
          refine W.eq (g2 := F0 m 75 ls [.int (bI (rDg tx ty a_))]) rfl ?_
          refine lv_pop hx hb dX6_editRead_75 rfl ?_
          refine lv_aload_n hx hb dX6_editRead_76 rfl (lv_at hl 3 rfl) ?_
          refine lv_dup hx hb dX6_editRead_77 rfl ?_
          refine va_get (D := G.1) (ci := 6) (v := .int (nI ((tkR tx ty a_ u_).1))) (C := RX6) (T := TX6) (N := 9) hx hb hts hi_X6_editRead_RX6 hown hK hP 0 rfl rfl 7 (by decide) (hts _ hw_X6_editRead_f105) (fun _ h9 => h9) rfl dX6_editRead_78 ?_
          refine lv_iconst (v := nI 1) hx hb dX6_editRead_81 rfl ?_
          refine n_iadd hx hb dX6_editRead_82 ?_
          refine va_put (D := G.1) (ci := 6) (v := .int (nI (((tkR tx ty a_ u_).1) + 1))) (ty := .int) (C := RX6) (T := TX6) (N := 9) hx hb hts hi_X6_editRead_RX6 tyX6 tyX6_ok nmX6 hown hK hP hD hS 0 rfl rfl 7 (by decide) (hts _ hw_X6_editRead_f105) (fun _ h9 => h9) rfl (by decide +kernel) rfl rfl (Nat.le_of_ble_eq_true rfl) dX6_editRead_83 (fun H locs hP hD hS => ?_)
          have hP : va_P G.1 vwCl [(m0, .inr (6, [.ref aN, .ref aH, .int (nI (rRecK kept)), .ref aS, .int (nI fil), .int (nI ty), .ref aT, .int (nI (((tkR tx ty a_ u_).1) + 1)), .int (nI ((tkR tx ty a_ u_).2))])), (aN, .inl (xcI G, 10276, .inl (nf N1))), (aH, .inl (xcI G, 41104, .inl (nf (rRecH Hs N kept)))), (aS, .inl (xcI G, 10276, .inl (nf Sl))), (aT, .inl (xcC G, 60, .inl (nf tx)))] H := hP
          have hD : va_D (fun q => q ∈ [m0, aN, aH, aS, aT]) [(m0, .inr (6, [.ref aN, .ref aH, .int (nI (rRecK kept)), .ref aS, .int (nI fil), .int (nI ty), .ref aT, .int (nI (((tkR tx ty a_ u_).1) + 1)), .int (nI ((tkR tx ty a_ u_).2))])), (aN, .inl (xcI G, 10276, .inl (nf N1))), (aH, .inl (xcI G, 41104, .inl (nf (rRecH Hs N kept)))), (aS, .inl (xcI G, 10276, .inl (nf Sl))), (aT, .inl (xcC G, 60, .inl (nf tx)))] := hD
          refine lv_aload_n hx hb dX6_editRead_86 rfl (lv_at hl 3 rfl) ?_
          refine lv_bipush (v := nI 24) hx hb dX6_editRead_87 (by decide) ?_
          refine lv_aload_n hx hb dX6_editRead_89 rfl (lv_at hl 3 rfl) ?_
          refine va_get (D := G.1) (ci := 6) (v := .int (nI ((tkR tx ty a_ u_).2))) (C := RX6) (T := TX6) (N := 9) hx hb hts hi_X6_editRead_RX6 hown hK hP 0 rfl rfl 8 (by decide) (hts _ hw_X6_editRead_f111) (fun _ h9 => h9) rfl dX6_editRead_90 ?_
          refine xwr (xrunV (As := [.int (nI 24), .int (nI ((tkR tx ty a_ u_).2))]) (rest := []) S (c_X6_pushes l G m0 aN aH aS aT N1 (rRecH Hs N kept) Sl tx (rRecK kept) fil ty (((tkR tx ty a_ u_).1) + 1) ((tkR tx ty a_ u_).2) 24 ((tkR tx ty a_ u_).2) hN1 hdis (by omega) (by omega) (by omega)) (cwV 2 hts gX6_editRead_X6_pushes rfl rfl rfl (by decide +kernel) ⟨Nat.le_of_ble_eq_true rfl, Nat.le_of_ble_eq_true rfl⟩) hE hS hA 0 6 hP rfl rfl rfl hP rfl rfl hl.1 (Nat.le_of_ble_eq_true rfl) dX6_editRead_93 ⟨Nat.le_of_ble_eq_true rfl, Nat.le_of_ble_eq_true rfl⟩) hS (fun _ h => h) (fun _ h => h) (fun uw_ H locs hΨ hz hkp hS => ?_)
          have hP : va_P G.1 vwCl [(m0, .inr (6, [.ref aN, .ref aH, .int (nI (rRecK kept)), .ref aS, .int (nI fil), .int (nI ty), .ref aT, .int (nI (((tkR tx ty a_ u_).1) + 1)), .int (nI ((tkR tx ty a_ u_).2))])), (aN, .inl (xcI G, 10276, .inl (nf (rPu N1 24 ((tkR tx ty a_ u_).2))))), (aH, .inl (xcI G, 41104, .inl (nf (rRecH Hs N kept)))), (aS, .inl (xcI G, 10276, .inl (nf Sl))), (aT, .inl (xcC G, 60, .inl (nf tx)))] H := hΨ
          have hD : va_D (fun q => q ∈ [m0, aN, aH, aS, aT]) [(m0, .inr (6, [.ref aN, .ref aH, .int (nI (rRecK kept)), .ref aS, .int (nI fil), .int (nI ty), .ref aT, .int (nI (((tkR tx ty a_ u_).1) + 1)), .int (nI ((tkR tx ty a_ u_).2))])), (aN, .inl (xcI G, 10276, .inl (nf (rPu N1 24 ((tkR tx ty a_ u_).2))))), (aH, .inl (xcI G, 41104, .inl (nf (rRecH Hs N kept)))), (aS, .inl (xcI G, 10276, .inl (nf Sl))), (aT, .inl (xcC G, 60, .inl (nf tx)))] := (hdis.to rfl)
          refine W.eq (g2 := F0 m 96 ls []) rfl ?_
          refine lv_iinc (v := nI (k_ + 1)) (lv' := [(3, .int (nI (k_ + 1))), (1, .int (nI cn)), (2, .int (nI (N 10172))), (0, .ref m0)]) hx hb dX6_editRead_96 hl (k := 0) rfl (nI_add k_ 1) (by decide) rfl (fun ls hl => ?_)
          refine lv_goto (tgt := 66) hx hb dX6_editRead_99 (by decide) ?_
          have hl : lv_has ls 4 [(3, .int (nI (k_ + 1))), (1, .int (nI cn)), (2, .int (nI (N 10172))), (0, .ref m0)] := lv_sub hl [0, 1, 2, 3] rfl
          have hP : va_P G.1 vwCl [(m0, .inr (6, [.ref aN, .ref aH, .int (nI (rRecK kept)), .ref aS, .int (nI fil), .int (nI ty), .ref aT, .int (nI ((tkR tx ty a_ u_).1 + 1)), .int (nI ((tkR tx ty a_ u_).2))])), (aN, .inl (xcI G, 10276, .inl (nf (rPu N1 24 (tkR tx ty a_ u_).2)))), (aH, .inl (xcI G, 41104, .inl (nf (rRecH Hs N kept)))), (aS, .inl (xcI G, 10276, .inl (nf Sl))), (aT, .inl (xcC G, 60, .inl (nf tx)))] H := hP
          exact ih_66 ⟨k_ + 1, (tkR tx ty a_ u_).1 + 1, (tkR tx ty a_ u_).2, rPu N1 24 (tkR tx ty a_ u_).2⟩ _ _ _ (by show cn - (k_ + 1) < cn - k_; omega) ⟨(by dsimp only; omega), (by dsimp only; rw [← hrd, rdL_go (c := cn - k_) (by omega), show cn - (k_ + 1) = cn - k_ - 1 by omega]), (by dsimp only; rw [show cn - (k_ + 1) = cn - k_ - 1 by omega]; exact hpg.2), hpf.1, (by dsimp only; have := hpf.2.1; omega), (by dsimp only; have := hpf.2.2; omega), hP, hS, hl⟩
      · refine lv_bipush (v := (-3)) hx hb dX6_editRead_43 (by decide) ?_
        have eR : rmRea (N, Hs, Sl, tx, kept, fil, ty, at_, nu) = ((-3), N, Hs, Sl, tx, kept, fil, ty, (rVt tx ty nu).2.1, (rVt tx ty nu).2.2) := by rw [rmRea, if_neg c_4, if_neg c_18, hcR, hcc, if_pos c_40]
        exact xend_i () hx hb hr hk hS (fun _ h => h) dX6_editRead_45 (by rw [eR]) (by rw [eR]; exact hP) (Nat.le_refl _) (Nat.le_refl _)
    · refine lv_bipush (v := (-100)) hx hb dX6_editRead_21 (by decide) ?_
      refine lv_aload_n hx hb dX6_editRead_23 rfl (lv_at hl 1 rfl) ?_
      refine va_get (D := G.1) (ci := 6) (v := .int (nI ((rVt tx ty nu).2.1))) (C := RX6) (T := TX6) (N := 9) hx hb hts hi_X6_editRead_RX6 hown hK hP 0 rfl rfl 7 (by decide) (hts _ hw_X6_editRead_f105) (fun _ h9 => h9) rfl dX6_editRead_24 ?_
      refine lv_isub hx hb dX6_editRead_27 ?_
      have eR : rmRea (N, Hs, Sl, tx, kept, fil, ty, at_, nu) = ((-100) - (nI ((rVt tx ty nu).2.1)), N, Hs, Sl, tx, kept, fil, ty, (rVt tx ty nu).2.1, (rVt tx ty nu).2.2) := by rw [rmRea, if_neg c_4, if_pos c_18]
      exact xend_i () hx hb hr hk hS (fun _ h => h) dX6_editRead_28 (by rw [eR]) (by rw [eR]; exact hP) (Nat.le_refl _) (Nat.le_refl _)
  · refine lv_bipush (v := (-4)) hx hb dX6_editRead_7 (by decide) ?_
    have eR : rmRea (N, Hs, Sl, tx, kept, fil, ty, at_, nu) = ((-4), N, Hs, Sl, tx, kept, fil, ty, at_, nu) := by rw [rmRea, if_pos c_4]
    exact xend_i () hx hb hr hk hS (fun _ h => h) dX6_editRead_9 (by rw [eR]) (by rw [eR]; exact hP) (Nat.le_refl _) (Nat.le_refl _)
