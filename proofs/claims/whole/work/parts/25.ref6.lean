theorem hw_X6_begin_f7 : Cond.fieldLink RX6 7 "TailVectorsModel" "now" "[I" ∈ wsX6_begin := by decide +kernel
theorem hi_X6_begin_RX6 : ∀ w ∈ u_ws RX6 TX6 9, w ∈ wsX6_begin := by decide +kernel
set_option maxHeartbeats 4000000 in
set_option maxRecDepth 100000 in
theorem c_X6_begin (l : Launch) (G : xG) (m0 : Nat) (aN : Nat) (aH : Nat) (aS : Nat) (aT : Nat) (N : Nat → Nat) (Hs : Nat → Nat) (Sl : Nat → Nat) (tx : Nat → Nat) (kept : Nat) (fil : Nat) (ty : Nat) (at_ : Nat) (nu : Nat) (v : Int32) (hN : ∀ j, N j < 2 ^ 24) (hdis : xDis (xB0 G) [m0, aN, aH, aS, aT]) (hev : 1 ≤ N 10171) (hev2 : N 10171 ≤ 24) (hrows : ∀ v, v ≤ 24 → N (403 * v) ≤ 300) (hwin : ∀ v, v < N 10171 → N (10075 + 4 * v + 2) + rLen N v ≤ N (403 * v)) (hM : N 10172 < 2 ^ 23) (hk4 : kept ≤ 4) (htx : ∀ j, tx j < 65536) (hty : ty ≤ 60) (hfil : fil < 2) : Met l yX6_begin wsX6_begin ({ frames := 2, cells := 0, slots := 0, locals := 43 } : Room) (xPc G [.ref m0, .int v] (fun H => va_P G.1 vwCl [(m0, .inr (6, [.ref aN, .ref aH, .int (nI kept), .ref aS, .int (nI fil), .int (nI ty), .ref aT, .int (nI at_), .int (nI nu)])), (aN, .inl (xcI G, 10276, .inl (nf N))), (aH, .inl (xcI G, 41104, .inl (nf Hs))), (aS, .inl (xcI G, 10276, .inl (nf Sl))), (aT, .inl (xcC G, 60, .inl (nf tx)))] H)) (xQ (σ := Unit) (fun _ => some (.int ((rmBeg (N, Hs, Sl, tx, kept, fil, ty, at_, nu) v).1))) (fun _ H => va_P G.1 vwCl [(m0, .inr (6, [.ref aN, .ref aH, .int (nI ((rmBeg (N, Hs, Sl, tx, kept, fil, ty, at_, nu) v).2.2.2.2.2.1)), .ref aS, .int (nI ((rmBeg (N, Hs, Sl, tx, kept, fil, ty, at_, nu) v).2.2.2.2.2.2.1)), .int (nI ((rmBeg (N, Hs, Sl, tx, kept, fil, ty, at_, nu) v).2.2.2.2.2.2.2.1)), .ref aT, .int (nI ((rmBeg (N, Hs, Sl, tx, kept, fil, ty, at_, nu) v).2.2.2.2.2.2.2.2.1)), .int (nI ((rmBeg (N, Hs, Sl, tx, kept, fil, ty, at_, nu) v).2.2.2.2.2.2.2.2.2))])), (aN, .inl (xcI G, 10276, .inl (nf ((rmBeg (N, Hs, Sl, tx, kept, fil, ty, at_, nu) v).2.1)))), (aH, .inl (xcI G, 41104, .inl (nf ((rmBeg (N, Hs, Sl, tx, kept, fil, ty, at_, nu) v).2.2.1)))), (aS, .inl (xcI G, 10276, .inl (nf ((rmBeg (N, Hs, Sl, tx, kept, fil, ty, at_, nu) v).2.2.2.1)))), (aT, .inl (xcC G, 60, .inl (nf ((rmBeg (N, Hs, Sl, tx, kept, fil, ty, at_, nu) v).2.2.2.2.1))))] H) (fun q => q ∈ [m0, aN, aH, aS, aT])) 0 0 (fun q => q ∈ [m0, aN, aH, aS, aT]) := by
  refine xMet (cc := cX6_begin) (nL := 3) (ret := (some (.int))) (by decide) rfl (Nat.le_of_ble_eq_true rfl) ?_
  intro p e s m below meth c S hr hk hnm hE hP ls hl
  obtain ⟨hx, hb, hml, hown, hts⟩ := id S
  have hown : s.vm.findClass RX6 = some m.cls := hown
  have hK := hE.1
  have hS : va_S (fun q => q ∈ [m0, aN, aH, aS, aT]) s.heap s.heap [] := va_S.rf
  have hA : ∀ q, (fun q => q ∈ [m0, aN, aH, aS, aT]) q → xB0 G ≤ q := hdis.2
  have hP : va_P G.1 vwCl [(m0, .inr (6, [.ref aN, .ref aH, .int (nI kept), .ref aS, .int (nI fil), .int (nI ty), .ref aT, .int (nI at_), .int (nI nu)])), (aN, .inl (xcI G, 10276, .inl (nf N))), (aH, .inl (xcI G, 41104, .inl (nf Hs))), (aS, .inl (xcI G, 10276, .inl (nf Sl))), (aT, .inl (xcC G, 60, .inl (nf tx)))] s.heap := hP
  have hD : va_D (fun q => q ∈ [m0, aN, aH, aS, aT]) [(m0, .inr (6, [.ref aN, .ref aH, .int (nI kept), .ref aS, .int (nI fil), .int (nI ty), .ref aT, .int (nI at_), .int (nI nu)])), (aN, .inl (xcI G, 10276, .inl (nf N))), (aH, .inl (xcI G, 41104, .inl (nf Hs))), (aS, .inl (xcI G, 10276, .inl (nf Sl))), (aT, .inl (xcC G, 60, .inl (nf tx)))] := (hdis.to rfl)
  have hl : lv_has ls 3 [(0, .ref m0), (1, .int v)] := hl
  refine lv_aload_n hx hb dX6_begin_0 rfl (lv_at hl 0 rfl) ?_
  refine lv_iload_n hx hb dX6_begin_1 rfl (lv_at hl 1 rfl) ?_
  refine xrd (xrunV (As := [.int v]) (rest := []) S (c_X6_no l G m0 aN aH aS aT N Hs Sl tx kept fil ty at_ nu v hN hev hev2) (cwV 1 hts gX6_begin_X6_no rfl rfl rfl (by decide +kernel) ⟨Nat.le_of_ble_eq_true rfl, Nat.le_of_ble_eq_true rfl⟩) hE hS hA 0 6 hP rfl rfl rfl hP rfl rfl hl.1 (Nat.le_of_ble_eq_true rfl) dX6_begin_2 ⟨Nat.le_of_ble_eq_true rfl, Nat.le_of_ble_eq_true rfl⟩) ?_
  refine b_if_eq (tgt := 10) hx hb dX6_begin_5 (by decide) (fun c_5 => ?_) (fun c_5 => ?_)
  · have c_5b := c_5
    obtain ⟨k, rfl, hk1, hk2⟩ := rNo_not hev hev2 c_5
    have hkc : (nI k).toNatClampNeg = k := nI_clamp (by omega)
    have hwk := hwin k hk1
    have hrk := hrows k (by omega)
    refine lv_aload_n hx hb dX6_begin_10 rfl (lv_at hl 0 rfl) ?_
    refine xrd (xrunV (As := []) (rest := []) S (c_X6_noEdit l G m0 aN aH aS aT N Hs Sl tx kept fil ty at_ nu hN) (cwV 0 hts gX6_begin_X6_noEdit rfl rfl rfl (by decide +kernel) ⟨Nat.le_of_ble_eq_true rfl, Nat.le_of_ble_eq_true rfl⟩) hE hS hA 0 6 hP rfl rfl rfl hP rfl rfl hl.1 (Nat.le_of_ble_eq_true rfl) dX6_begin_11 ⟨Nat.le_of_ble_eq_true rfl, Nat.le_of_ble_eq_true rfl⟩) ?_
    refine b_if_eq (tgt := 25) hx hb dX6_begin_14 (by decide) (fun c_14 => ?_) (fun c_14 => ?_)
    · refine lv_bipush (v := (-4)) hx hb dX6_begin_25 (by decide) ?_
      have eR : rmBeg (N, Hs, Sl, tx, kept, fil, ty, at_, nu) (nI k) = ((-4), N, Hs, Sl, tx, kept, fil, ty, at_, nu) := by rw [rmBeg, if_neg c_5b, hkc, rmBegK, if_pos (Or.inl c_14)]
      exact xend_i () hx hb hr hk hS (fun _ h => h) dX6_begin_27 (by rw [eR]) (by rw [eR]; exact hP) (Nat.le_refl _) (Nat.le_refl _)
    · refine lv_aload_n hx hb dX6_begin_17 rfl (lv_at hl 0 rfl) ?_
      refine lv_iload_n hx hb dX6_begin_18 rfl (lv_at hl 1 rfl) ?_
      refine xrd (xrunV (As := [.int (nI k)]) (rest := []) S (c_X6_isWindow l G m0 aN aH aS aT N Hs Sl tx kept fil ty at_ nu k hN (by omega)) (cwV 1 hts gX6_begin_X6_isWindow rfl rfl rfl (by decide +kernel) ⟨Nat.le_of_ble_eq_true rfl, Nat.le_of_ble_eq_true rfl⟩) hE hS hA 0 6 hP rfl rfl rfl hP rfl rfl hl.1 (Nat.le_of_ble_eq_true rfl) dX6_begin_19 ⟨Nat.le_of_ble_eq_true rfl, Nat.le_of_ble_eq_true rfl⟩) ?_
      refine b_if_eq (tgt := 28) hx hb dX6_begin_22 (by decide) (fun c_22 => ?_) (fun c_22 => ?_)
      · refine lv_aload_n hx hb dX6_begin_28 rfl (lv_at hl 0 rfl) ?_
        refine xwr (xrunV (As := []) (rest := []) S (c_X6_record l G m0 aN aH aS aT N Hs Sl tx kept fil ty at_ nu hN hdis hk4) (cwV 0 hts gX6_begin_X6_record rfl rfl rfl (by decide +kernel) ⟨Nat.le_of_ble_eq_true rfl, Nat.le_of_ble_eq_true rfl⟩) hE hS hA 0 6 hP rfl rfl rfl hP rfl rfl hl.1 (Nat.le_of_ble_eq_true rfl) dX6_begin_29 ⟨Nat.le_of_ble_eq_true rfl, Nat.le_of_ble_eq_true rfl⟩) hS (fun _ h => h) (fun _ h => h) (fun uw_ H locs hΨ hz hkp hS => ?_)
        have hP : va_P G.1 vwCl [(m0, .inr (6, [.ref aN, .ref aH, .int (nI (rRecK kept)), .ref aS, .int (nI fil), .int (nI ty), .ref aT, .int (nI at_), .int (nI nu)])), (aN, .inl (xcI G, 10276, .inl (nf N))), (aH, .inl (xcI G, 41104, .inl (nf (rRecH Hs N kept)))), (aS, .inl (xcI G, 10276, .inl (nf Sl))), (aT, .inl (xcC G, 60, .inl (nf tx)))] H := hΨ
        have hD : va_D (fun q => q ∈ [m0, aN, aH, aS, aT]) [(m0, .inr (6, [.ref aN, .ref aH, .int (nI (rRecK kept)), .ref aS, .int (nI fil), .int (nI ty), .ref aT, .int (nI at_), .int (nI nu)])), (aN, .inl (xcI G, 10276, .inl (nf N))), (aH, .inl (xcI G, 41104, .inl (nf (rRecH Hs N kept)))), (aS, .inl (xcI G, 10276, .inl (nf Sl))), (aT, .inl (xcC G, 60, .inl (nf tx)))] := (hdis.to rfl)
        refine W.eq (g2 := F0 m 32 ls []) rfl ?_
        refine lv_aload_n hx hb dX6_begin_32 rfl (lv_at hl 0 rfl) ?_
        refine lv_iload_n hx hb dX6_begin_33 rfl (lv_at hl 1 rfl) ?_
        refine lv_bipush (v := nI 24) hx hb dX6_begin_34 (by decide) ?_
        refine xwr (xrunV (As := [.int (nI k), .int (nI 24)]) (rest := []) S (c_X6_copies l G m0 aN aH aS aT N (rRecH Hs N kept) Sl tx (rRecK kept) fil ty at_ nu k 24 hN hdis (by omega) (by omega)) (cwV 2 hts gX6_begin_X6_copies rfl rfl rfl (by decide +kernel) ⟨Nat.le_of_ble_eq_true rfl, Nat.le_of_ble_eq_true rfl⟩) hE hS hA 0 6 hP rfl rfl rfl hP rfl rfl hl.1 (Nat.le_of_ble_eq_true rfl) dX6_begin_36 ⟨Nat.le_of_ble_eq_true rfl, Nat.le_of_ble_eq_true rfl⟩) hS (fun _ h => h) (fun _ h => h) (fun uw_ H locs hΨ hz hkp hS => ?_)
        have hP : va_P G.1 vwCl [(m0, .inr (6, [.ref aN, .ref aH, .int (nI (rRecK kept)), .ref aS, .int (nI fil), .int (nI ty), .ref aT, .int (nI at_), .int (nI nu)])), (aN, .inl (xcI G, 10276, .inl (nf (cpyN N k 24 403)))), (aH, .inl (xcI G, 41104, .inl (nf (rRecH Hs N kept)))), (aS, .inl (xcI G, 10276, .inl (nf Sl))), (aT, .inl (xcC G, 60, .inl (nf tx)))] H := hΨ
        have hD : va_D (fun q => q ∈ [m0, aN, aH, aS, aT]) [(m0, .inr (6, [.ref aN, .ref aH, .int (nI (rRecK kept)), .ref aS, .int (nI fil), .int (nI ty), .ref aT, .int (nI at_), .int (nI nu)])), (aN, .inl (xcI G, 10276, .inl (nf (cpyN N k 24 403)))), (aH, .inl (xcI G, 41104, .inl (nf (rRecH Hs N kept)))), (aS, .inl (xcI G, 10276, .inl (nf Sl))), (aT, .inl (xcC G, 60, .inl (nf tx)))] := (hdis.to rfl)
        refine W.eq (g2 := F0 m 39 ls []) rfl ?_
        refine lv_iconst (v := nI 0) hx hb dX6_begin_39 rfl ?_
        refine lv_istore_n (lv' := [(2, .int (nI 0)), (0, .ref m0), (1, .int (nI k))]) hx hb dX6_begin_40 rfl hl (by decide) rfl (fun ls hl => ?_)
        have hP : va_P G.1 vwCl [(m0, .inr (6, [.ref aN, .ref aH, .int (nI (rRecK kept)), .ref aS, .int (nI fil), .int (nI ty), .ref aT, .int (nI at_), .int (nI nu)])), (aN, .inl (xcI G, 10276, .inl (nf (clrN (cpyN N k 24 403) 0)))), (aH, .inl (xcI G, 41104, .inl (nf (rRecH Hs N kept)))), (aS, .inl (xcI G, 10276, .inl (nf Sl))), (aT, .inl (xcC G, 60, .inl (nf tx)))] H := (by rw [clrN_0]; exact hP)
        have hl : lv_has ls 3 [(2, .int (nI 0)), (0, .ref m0), (1, .int (nI k))] := lv_sub hl [0, 1, 2] rfl
        refine xloop (σ := Nat) (C := (fun (x_ : Nat) H locs ls => (x_ ≤ 102) ∧ va_P G.1 vwCl [(m0, .inr (6, [.ref aN, .ref aH, .int (nI (rRecK kept)), .ref aS, .int (nI fil), .int (nI ty), .ref aT, .int (nI at_), .int (nI nu)])), (aN, .inl (xcI G, 10276, .inl (nf (clrN (cpyN N k 24 403) x_)))), (aH, .inl (xcI G, 41104, .inl (nf (rRecH Hs N kept)))), (aS, .inl (xcI G, 10276, .inl (nf Sl))), (aT, .inl (xcC G, 60, .inl (nf tx)))] H ∧ va_S (fun q => q ∈ [m0, aN, aH, aS, aT]) s.heap H locs ∧ lv_has ls 3 [(2, .int (nI x_)), (0, .ref m0), (1, .int (nI k))])) (μ := (fun (x_ : Nat) => 102 - x_)) (W' := fun H locs ls => W p l e _ s m _ below meth c H locs _ _ _ (F0 m 41 ls [])) ?_ 0 _ _ _ ⟨(by (try dsimp only); omega), hP, hS, hl⟩
        intro x_ H locs ls hC ih_41
        obtain ⟨i, rfl⟩ : ∃ z, z = x_ := ⟨x_, rfl⟩
        obtain ⟨hi, hP, hS, hl⟩ := hC
        replace hi : i ≤ 102 := hi
        replace hP : va_P G.1 vwCl [(m0, .inr (6, [.ref aN, .ref aH, .int (nI (rRecK kept)), .ref aS, .int (nI fil), .int (nI ty), .ref aT, .int (nI at_), .int (nI nu)])), (aN, .inl (xcI G, 10276, .inl (nf (clrN (cpyN N k 24 403) i)))), (aH, .inl (xcI G, 41104, .inl (nf (rRecH Hs N kept)))), (aS, .inl (xcI G, 10276, .inl (nf Sl))), (aT, .inl (xcC G, 60, .inl (nf tx)))] H := hP
        have hD : va_D (fun q => q ∈ [m0, aN, aH, aS, aT]) [(m0, .inr (6, [.ref aN, .ref aH, .int (nI (rRecK kept)), .ref aS, .int (nI fil), .int (nI ty), .ref aT, .int (nI at_), .int (nI nu)])), (aN, .inl (xcI G, 10276, .inl (nf (clrN (cpyN N k 24 403) i)))), (aH, .inl (xcI G, 41104, .inl (nf (rRecH Hs N kept)))), (aS, .inl (xcI G, 10276, .inl (nf Sl))), (aT, .inl (xcC G, 60, .inl (nf tx)))] := (hdis.to rfl)
        replace hl : lv_has ls 3 [(2, .int (nI i)), (0, .ref m0), (1, .int (nI k))] := hl
        refine id ?_
        refine lv_iload_n hx hb dX6_begin_41 rfl (lv_at hl 0 rfl) ?_
        refine lv_bipush (v := nI 102) hx hb dX6_begin_42 (by decide) ?_
        refine n_icmp_ge (tgt := 64) hx hb (by omega) (by omega) dX6_begin_44 (by decide) (fun c_44 => ?_) (fun c_44 => ?_)
        · have hi9 : i = 102 := by omega
          subst hi9
          refine lv_aload_n hx hb dX6_begin_64 rfl (lv_at hl 1 rfl) ?_
          refine va_get (D := G.1) (ci := 6) (v := .ref aN) (C := RX6) (T := TX6) (N := 9) hx hb hts hi_X6_begin_RX6 hown hK hP 0 rfl rfl 0 (by decide) (hts _ hw_X6_begin_f7) (fun _ h9 => h9) rfl dX6_begin_65 ?_
          refine lv_sipush (v := nI 10173) hx hb dX6_begin_68 (by decide) ?_
          refine lv_iconst (v := nI 1) hx hb dX6_begin_71 rfl ?_
          refine n_iast hx hb hK hP hD hS 1 0 rfl rfl (by omega) (by decide) dX6_begin_72 (fun H locs hP hD hS => ?_)
          have hP : va_P G.1 vwCl [(m0, .inr (6, [.ref aN, .ref aH, .int (nI (rRecK kept)), .ref aS, .int (nI fil), .int (nI ty), .ref aT, .int (nI at_), .int (nI nu)])), (aN, .inl (xcI G, 10276, .inl (nf (updN (clrN (cpyN N k 24 403) 102) 10173 1)))), (aH, .inl (xcI G, 41104, .inl (nf (rRecH Hs N kept)))), (aS, .inl (xcI G, 10276, .inl (nf Sl))), (aT, .inl (xcC G, 60, .inl (nf tx)))] H := hP
          have hD : va_D (fun q => q ∈ [m0, aN, aH, aS, aT]) [(m0, .inr (6, [.ref aN, .ref aH, .int (nI (rRecK kept)), .ref aS, .int (nI fil), .int (nI ty), .ref aT, .int (nI at_), .int (nI nu)])), (aN, .inl (xcI G, 10276, .inl (nf (updN (clrN (cpyN N k 24 403) 102) 10173 1)))), (aH, .inl (xcI G, 41104, .inl (nf (rRecH Hs N kept)))), (aS, .inl (xcI G, 10276, .inl (nf Sl))), (aT, .inl (xcC G, 60, .inl (nf tx)))] := hD
          refine lv_aload_n hx hb dX6_begin_73 rfl (lv_at hl 1 rfl) ?_
          refine lv_bipush (v := nI 24) hx hb dX6_begin_74 (by decide) ?_
          have hNb : ∀ j, updN (clrN (cpyN N k 24 403) 102) 10173 1 j < 2 ^ 24 := updN_lt (fun j => by unfold clrN cpyN; split; omega; split; exact hN _; exact hN _) (by omega)
          refine xrd (xrunV (As := [.int (nI 24)]) (rest := []) S (c_X6_rowLength l G m0 aN aH aS aT (updN (clrN (cpyN N k 24 403) 102) 10173 1) (rRecH Hs N kept) Sl tx (rRecK kept) fil ty at_ nu 24 hNb (by omega)) (cwV 1 hts gX6_begin_X6_rowLength rfl rfl rfl (by decide +kernel) ⟨Nat.le_of_ble_eq_true rfl, Nat.le_of_ble_eq_true rfl⟩) hE hS hA 0 6 hP rfl rfl rfl hP rfl rfl hl.1 (Nat.le_of_ble_eq_true rfl) dX6_begin_76 ⟨Nat.le_of_ble_eq_true rfl, Nat.le_of_ble_eq_true rfl⟩) ?_
          have eR : rmBeg (N, Hs, Sl, tx, kept, fil, ty, at_, nu) (nI k) = (nI ((updN (clrN (cpyN N k 24 403) 102) 10173 1) (403 * 24)), updN (clrN (cpyN N k 24 403) 102) 10173 1, rRecH Hs N kept, Sl, tx, rRecK kept, fil, ty, at_, nu) := by rw [rmBeg, if_neg c_5b, hkc, rmBegK, if_neg (fun q => q.elim (fun z => z c_14) c_22)]
          exact xend_i () hx hb hr hk hS (fun _ h => h) dX6_begin_79 (by rw [eR]) (by rw [eR]; exact hP) (Nat.le_refl _) (Nat.le_refl _)
        · refine lv_aload_n hx hb dX6_begin_47 rfl (lv_at hl 1 rfl) ?_
          refine va_get (D := G.1) (ci := 6) (v := .ref aN) (C := RX6) (T := TX6) (N := 9) hx hb hts hi_X6_begin_RX6 hown hK hP 0 rfl rfl 0 (by decide) (hts _ hw_X6_begin_f7) (fun _ h9 => h9) rfl dX6_begin_48 ?_
          refine lv_sipush (v := nI 10174) hx hb dX6_begin_51 (by decide) ?_
          refine lv_iload_n hx hb dX6_begin_54 rfl (lv_at hl 0 rfl) ?_
          refine n_iadd hx hb dX6_begin_55 ?_
          refine lv_iconst (v := nI 0) hx hb dX6_begin_56 rfl ?_
          refine n_iast hx hb hK hP hD hS 1 0 rfl rfl (by omega) (by decide) dX6_begin_57 (fun H locs hP hD hS => ?_)
          have hP : va_P G.1 vwCl [(m0, .inr (6, [.ref aN, .ref aH, .int (nI (rRecK kept)), .ref aS, .int (nI fil), .int (nI ty), .ref aT, .int (nI at_), .int (nI nu)])), (aN, .inl (xcI G, 10276, .inl (nf (updN (clrN (cpyN N k 24 403) i) (10174 + i) 0)))), (aH, .inl (xcI G, 41104, .inl (nf (rRecH Hs N kept)))), (aS, .inl (xcI G, 10276, .inl (nf Sl))), (aT, .inl (xcC G, 60, .inl (nf tx)))] H := hP
          have hD : va_D (fun q => q ∈ [m0, aN, aH, aS, aT]) [(m0, .inr (6, [.ref aN, .ref aH, .int (nI (rRecK kept)), .ref aS, .int (nI fil), .int (nI ty), .ref aT, .int (nI at_), .int (nI nu)])), (aN, .inl (xcI G, 10276, .inl (nf (updN (clrN (cpyN N k 24 403) i) (10174 + i) 0)))), (aH, .inl (xcI G, 41104, .inl (nf (rRecH Hs N kept)))), (aS, .inl (xcI G, 10276, .inl (nf Sl))), (aT, .inl (xcC G, 60, .inl (nf tx)))] := hD
          refine lv_iinc (v := nI (i + 1)) (lv' := [(2, .int (nI (i + 1))), (0, .ref m0), (1, .int (nI k))]) hx hb dX6_begin_58 hl (k := 0) rfl (nI_add i 1) (by decide) rfl (fun ls hl => ?_)
          refine lv_goto (tgt := 41) hx hb dX6_begin_61 (by decide) ?_
          have hl : lv_has ls 3 [(2, .int (nI (i + 1))), (0, .ref m0), (1, .int (nI k))] := lv_sub hl [0, 1, 2] rfl
          have hP : va_P G.1 vwCl [(m0, .inr (6, [.ref aN, .ref aH, .int (nI (rRecK kept)), .ref aS, .int (nI fil), .int (nI ty), .ref aT, .int (nI at_), .int (nI nu)])), (aN, .inl (xcI G, 10276, .inl (nf (clrN (cpyN N k 24 403) (i + 1))))), (aH, .inl (xcI G, 41104, .inl (nf (rRecH Hs N kept)))), (aS, .inl (xcI G, 10276, .inl (nf Sl))), (aT, .inl (xcC G, 60, .inl (nf tx)))] H := (by rw [← clrN_s]; exact hP)
          exact ih_41 (i + 1) _ _ _ (by show 102 - (i + 1) < 102 - i; omega) ⟨(by (try dsimp only); omega), hP, hS, hl⟩
      · refine lv_bipush (v := (-4)) hx hb dX6_begin_25 (by decide) ?_
        have eR : rmBeg (N, Hs, Sl, tx, kept, fil, ty, at_, nu) (nI k) = ((-4), N, Hs, Sl, tx, kept, fil, ty, at_, nu) := by rw [rmBeg, if_neg c_5b, hkc, rmBegK, if_pos (Or.inr c_22)]
        exact xend_i () hx hb hr hk hS (fun _ h => h) dX6_begin_27 (by rw [eR]) (by rw [eR]; exact hP) (Nat.le_refl _) (Nat.le_refl _)
  · refine lv_iconst (v := (-1)) hx hb dX6_begin_8 rfl ?_
    have eR : rmBeg (N, Hs, Sl, tx, kept, fil, ty, at_, nu) v = ((-1), N, Hs, Sl, tx, kept, fil, ty, at_, nu) := by rw [rmBeg, if_pos c_5]
    exact xend_i () hx hb hr hk hS (fun _ h => h) dX6_begin_9 (by rw [eR]) (by rw [eR]; exact hP) (Nat.le_refl _) (Nat.le_refl _)

theorem hw_X6_editPush_f7 : Cond.fieldLink RX6 7 "TailVectorsModel" "now" "[I" ∈ wsX6_editPush := by decide +kernel
theorem hi_X6_editPush_RX6 : ∀ w ∈ u_ws RX6 TX6 9, w ∈ wsX6_editPush := by decide +kernel
set_option maxHeartbeats 4000000 in
set_option maxRecDepth 100000 in
theorem c_X6_editPush (l : Launch) (G : xG) (m0 : Nat) (aN : Nat) (aH : Nat) (aS : Nat) (aT : Nat) (N : Nat → Nat) (Hs : Nat → Nat) (Sl : Nat → Nat) (tx : Nat → Nat) (kept : Nat) (fil : Nat) (ty : Nat) (at_ : Nat) (nu : Nat) (x : Int32) (hN : ∀ j, N j < 2 ^ 24) (hdis : xDis (xB0 G) [m0, aN, aH, aS, aT]) (hev : 1 ≤ N 10171) (hev2 : N 10171 ≤ 24) (hrows : ∀ v, v ≤ 24 → N (403 * v) ≤ 300) (hwin : ∀ v, v < N 10171 → N (10075 + 4 * v + 2) + rLen N v ≤ N (403 * v)) (hM : N 10172 < 2 ^ 23) (hk4 : kept ≤ 4) (htx : ∀ j, tx j < 65536) (hty : ty ≤ 60) (hfil : fil < 2) : Met l yX6_editPush wsX6_editPush ({ frames := 4, cells := 0, slots := 0, locals := 89 } : Room) (xPc G [.ref m0, .int x] (fun H => va_P G.1 vwCl [(m0, .inr (6, [.ref aN, .ref aH, .int (nI kept), .ref aS, .int (nI fil), .int (nI ty), .ref aT, .int (nI at_), .int (nI nu)])), (aN, .inl (xcI G, 10276, .inl (nf N))), (aH, .inl (xcI G, 41104, .inl (nf Hs))), (aS, .inl (xcI G, 10276, .inl (nf Sl))), (aT, .inl (xcC G, 60, .inl (nf tx)))] H)) (xQ (σ := Unit) (fun _ => some (.int ((rmEpu (N, Hs, Sl, tx, kept, fil, ty, at_, nu) x).1))) (fun _ H => va_P G.1 vwCl [(m0, .inr (6, [.ref aN, .ref aH, .int (nI ((rmEpu (N, Hs, Sl, tx, kept, fil, ty, at_, nu) x).2.2.2.2.2.1)), .ref aS, .int (nI ((rmEpu (N, Hs, Sl, tx, kept, fil, ty, at_, nu) x).2.2.2.2.2.2.1)), .int (nI ((rmEpu (N, Hs, Sl, tx, kept, fil, ty, at_, nu) x).2.2.2.2.2.2.2.1)), .ref aT, .int (nI ((rmEpu (N, Hs, Sl, tx, kept, fil, ty, at_, nu) x).2.2.2.2.2.2.2.2.1)), .int (nI ((rmEpu (N, Hs, Sl, tx, kept, fil, ty, at_, nu) x).2.2.2.2.2.2.2.2.2))])), (aN, .inl (xcI G, 10276, .inl (nf ((rmEpu (N, Hs, Sl, tx, kept, fil, ty, at_, nu) x).2.1)))), (aH, .inl (xcI G, 41104, .inl (nf ((rmEpu (N, Hs, Sl, tx, kept, fil, ty, at_, nu) x).2.2.1)))), (aS, .inl (xcI G, 10276, .inl (nf ((rmEpu (N, Hs, Sl, tx, kept, fil, ty, at_, nu) x).2.2.2.1)))), (aT, .inl (xcC G, 60, .inl (nf ((rmEpu (N, Hs, Sl, tx, kept, fil, ty, at_, nu) x).2.2.2.2.1))))] H) (fun q => q ∈ [m0, aN, aH, aS, aT])) 0 0 (fun q => q ∈ [m0, aN, aH, aS, aT]) := by
  refine xMet (cc := cX6_editPush) (nL := 3) (ret := (some (.int))) (by decide) rfl (Nat.le_of_ble_eq_true rfl) ?_
  intro p e s m below meth c S hr hk hnm hE hP ls hl
  obtain ⟨hx, hb, hml, hown, hts⟩ := id S
  have hown : s.vm.findClass RX6 = some m.cls := hown
  have hK := hE.1
  have hS : va_S (fun q => q ∈ [m0, aN, aH, aS, aT]) s.heap s.heap [] := va_S.rf
  have hA : ∀ q, (fun q => q ∈ [m0, aN, aH, aS, aT]) q → xB0 G ≤ q := hdis.2
  have hP : va_P G.1 vwCl [(m0, .inr (6, [.ref aN, .ref aH, .int (nI kept), .ref aS, .int (nI fil), .int (nI ty), .ref aT, .int (nI at_), .int (nI nu)])), (aN, .inl (xcI G, 10276, .inl (nf N))), (aH, .inl (xcI G, 41104, .inl (nf Hs))), (aS, .inl (xcI G, 10276, .inl (nf Sl))), (aT, .inl (xcC G, 60, .inl (nf tx)))] s.heap := hP
  have hD : va_D (fun q => q ∈ [m0, aN, aH, aS, aT]) [(m0, .inr (6, [.ref aN, .ref aH, .int (nI kept), .ref aS, .int (nI fil), .int (nI ty), .ref aT, .int (nI at_), .int (nI nu)])), (aN, .inl (xcI G, 10276, .inl (nf N))), (aH, .inl (xcI G, 41104, .inl (nf Hs))), (aS, .inl (xcI G, 10276, .inl (nf Sl))), (aT, .inl (xcC G, 60, .inl (nf tx)))] := (hdis.to rfl)
  have hl : lv_has ls 3 [(0, .ref m0), (1, .int x)] := hl
  refine lv_aload_n hx hb dX6_editPush_0 rfl (lv_at hl 0 rfl) ?_
  refine xrd (xrunV (As := []) (rest := []) S (c_X6_noEdit l G m0 aN aH aS aT N Hs Sl tx kept fil ty at_ nu hN) (cwV 0 hts gX6_editPush_X6_noEdit rfl rfl rfl (by decide +kernel) ⟨Nat.le_of_ble_eq_true rfl, Nat.le_of_ble_eq_true rfl⟩) hE hS hA 0 6 hP rfl rfl rfl hP rfl rfl hl.1 (Nat.le_of_ble_eq_true rfl) dX6_editPush_1 ⟨Nat.le_of_ble_eq_true rfl, Nat.le_of_ble_eq_true rfl⟩) ?_
  refine b_if_eq (tgt := 10) hx hb dX6_editPush_4 (by decide) (fun c_4 => ?_) (fun c_4 => ?_)
  · refine lv_iload_n hx hb dX6_editPush_10 rfl (lv_at hl 1 rfl) ?_
    refine lv_iconst (v := nI 0) hx hb dX6_editPush_11 rfl ?_
    refine lv_sipush (v := nI 999) hx hb dX6_editPush_12 (by decide) ?_
    refine xrd (xrunS (As := [.int x, .int (nI 0), .int (nI 999)]) (rest := []) S (c_X6_in l G x (nI 0) (nI 999) ) (va_cwS 3 hts gX6_editPush_X6_in rfl rfl rfl (by decide +kernel) ⟨Nat.le_of_ble_eq_true rfl, Nat.le_of_ble_eq_true rfl⟩) hE hS hA trivial rfl rfl hl.1 (Nat.le_of_ble_eq_true rfl) dX6_editPush_15 ⟨Nat.le_of_ble_eq_true rfl, Nat.le_of_ble_eq_true rfl⟩) ?_
    refine b_if_ne (tgt := 24) hx hb dX6_editPush_18 (by decide) (fun c_18 => ?_) (fun c_18 => ?_)
    · have c_18v := c_18
      obtain ⟨y, hy9, rfl⟩ := xin_of (by omega) c_18
      have hyc : (nI y).toNatClampNeg = y := nI_clamp (by omega)
      refine lv_aload_n hx hb dX6_editPush_24 rfl (lv_at hl 0 rfl) ?_
      refine lv_bipush (v := nI 24) hx hb dX6_editPush_25 (by decide) ?_
      refine xrd (xrunV (As := [.int (nI 24)]) (rest := []) S (c_X6_rowLength l G m0 aN aH aS aT N Hs Sl tx kept fil ty at_ nu 24 hN (by omega)) (cwV 1 hts gX6_editPush_X6_rowLength rfl rfl rfl (by decide +kernel) ⟨Nat.le_of_ble_eq_true rfl, Nat.le_of_ble_eq_true rfl⟩) hE hS hA 0 6 hP rfl rfl rfl hP rfl rfl hl.1 (Nat.le_of_ble_eq_true rfl) dX6_editPush_27 ⟨Nat.le_of_ble_eq_true rfl, Nat.le_of_ble_eq_true rfl⟩) ?_
      refine lv_sipush (v := nI 300) hx hb dX6_editPush_30 (by decide) ?_
      refine n_icmp_ne (tgt := 39) hx hb (by have := hrows 24 (by omega); omega) (by omega) dX6_editPush_33 (by decide) (fun c_33 => ?_) (fun c_33 => ?_)
      · refine lv_aload_n hx hb dX6_editPush_39 rfl (lv_at hl 0 rfl) ?_
        refine xwr (xrunV (As := []) (rest := []) S (c_X6_record l G m0 aN aH aS aT N Hs Sl tx kept fil ty at_ nu hN hdis hk4) (cwV 0 hts gX6_editPush_X6_record rfl rfl rfl (by decide +kernel) ⟨Nat.le_of_ble_eq_true rfl, Nat.le_of_ble_eq_true rfl⟩) hE hS hA 0 6 hP rfl rfl rfl hP rfl rfl hl.1 (Nat.le_of_ble_eq_true rfl) dX6_editPush_40 ⟨Nat.le_of_ble_eq_true rfl, Nat.le_of_ble_eq_true rfl⟩) hS (fun _ h => h) (fun _ h => h) (fun uw_ H locs hΨ hz hkp hS => ?_)
        have hP : va_P G.1 vwCl [(m0, .inr (6, [.ref aN, .ref aH, .int (nI (rRecK kept)), .ref aS, .int (nI fil), .int (nI ty), .ref aT, .int (nI at_), .int (nI nu)])), (aN, .inl (xcI G, 10276, .inl (nf N))), (aH, .inl (xcI G, 41104, .inl (nf (rRecH Hs N kept)))), (aS, .inl (xcI G, 10276, .inl (nf Sl))), (aT, .inl (xcC G, 60, .inl (nf tx)))] H := hΨ
        have hD : va_D (fun q => q ∈ [m0, aN, aH, aS, aT]) [(m0, .inr (6, [.ref aN, .ref aH, .int (nI (rRecK kept)), .ref aS, .int (nI fil), .int (nI ty), .ref aT, .int (nI at_), .int (nI nu)])), (aN, .inl (xcI G, 10276, .inl (nf N))), (aH, .inl (xcI G, 41104, .inl (nf (rRecH Hs N kept)))), (aS, .inl (xcI G, 10276, .inl (nf Sl))), (aT, .inl (xcC G, 60, .inl (nf tx)))] := (hdis.to rfl)
        refine W.eq (g2 := F0 m 43 ls []) rfl ?_
        refine lv_aload_n hx hb dX6_editPush_43 rfl (lv_at hl 0 rfl) ?_
        refine va_get (D := G.1) (ci := 6) (v := .ref aN) (C := RX6) (T := TX6) (N := 9) hx hb hts hi_X6_editPush_RX6 hown hK hP 0 rfl rfl 0 (by decide) (hts _ hw_X6_editPush_f7) (fun _ h9 => h9) rfl dX6_editPush_44 ?_
        refine lv_sipush (v := nI 10172) hx hb dX6_editPush_47 (by decide) ?_
        refine n_iald hx hb hK hP 1 0 rfl rfl (by omega) (by decide) dX6_editPush_50 ?_
        refine lv_istore_n (lv' := [(2, .int (nI (N 10172))), (0, .ref m0), (1, .int (nI y))]) hx hb dX6_editPush_51 rfl hl (by decide) rfl (fun ls hl => ?_)
        refine lv_aload_n hx hb dX6_editPush_52 rfl (lv_at hl 1 rfl) ?_
        refine lv_bipush (v := nI 24) hx hb dX6_editPush_53 (by decide) ?_
        refine lv_iload_n hx hb dX6_editPush_55 rfl (lv_at hl 2 rfl) ?_
        refine xwr (xrunV (As := [.int (nI 24), .int (nI y)]) (rest := []) S (c_X6_pushes l G m0 aN aH aS aT N (rRecH Hs N kept) Sl tx (rRecK kept) fil ty at_ nu 24 y hN hdis (by omega) (by have := hrows 24 (by omega); omega) hM) (cwV 2 hts gX6_editPush_X6_pushes rfl rfl rfl (by decide +kernel) ⟨Nat.le_of_ble_eq_true rfl, Nat.le_of_ble_eq_true rfl⟩) hE hS hA 0 6 hP rfl rfl rfl hP rfl rfl hl.1 (Nat.le_of_ble_eq_true rfl) dX6_editPush_56 ⟨Nat.le_of_ble_eq_true rfl, Nat.le_of_ble_eq_true rfl⟩) hS (fun _ h => h) (fun _ h => h) (fun uw_ H locs hΨ hz hkp hS => ?_)
        have hP : va_P G.1 vwCl [(m0, .inr (6, [.ref aN, .ref aH, .int (nI (rRecK kept)), .ref aS, .int (nI fil), .int (nI ty), .ref aT, .int (nI at_), .int (nI nu)])), (aN, .inl (xcI G, 10276, .inl (nf (rPu N 24 y)))), (aH, .inl (xcI G, 41104, .inl (nf (rRecH Hs N kept)))), (aS, .inl (xcI G, 10276, .inl (nf Sl))), (aT, .inl (xcC G, 60, .inl (nf tx)))] H := hΨ
        have hD : va_D (fun q => q ∈ [m0, aN, aH, aS, aT]) [(m0, .inr (6, [.ref aN, .ref aH, .int (nI (rRecK kept)), .ref aS, .int (nI fil), .int (nI ty), .ref aT, .int (nI at_), .int (nI nu)])), (aN, .inl (xcI G, 10276, .inl (nf (rPu N 24 y)))), (aH, .inl (xcI G, 41104, .inl (nf (rRecH Hs N kept)))), (aS, .inl (xcI G, 10276, .inl (nf Sl))), (aT, .inl (xcC G, 60, .inl (nf tx)))] := (hdis.to rfl)
        refine W.eq (g2 := F0 m 59 ls []) rfl ?_
        refine lv_aload_n hx hb dX6_editPush_59 rfl (lv_at hl 1 rfl) ?_
        refine va_get (D := G.1) (ci := 6) (v := .ref aN) (C := RX6) (T := TX6) (N := 9) hx hb hts hi_X6_editPush_RX6 hown hK hP 0 rfl rfl 0 (by decide) (hts _ hw_X6_editPush_f7) (fun _ h9 => h9) rfl dX6_editPush_60 ?_
        refine lv_sipush (v := nI 10172) hx hb dX6_editPush_63 (by decide) ?_
        refine n_iald hx hb hK hP 1 0 rfl rfl (by omega) (by decide) dX6_editPush_66 ?_
        refine lv_iload_n hx hb dX6_editPush_67 rfl (lv_at hl 0 rfl) ?_
        refine lv_isub hx hb dX6_editPush_68 ?_
        have eR : rmEpu (N, Hs, Sl, tx, kept, fil, ty, at_, nu) (nI y) = ((nI ((rPu N 24 y) 10172)) - (nI (N 10172)), rPu N 24 y, (rRecH Hs N kept), Sl, tx, (rRecK kept), fil, ty, at_, nu) := by rw [rmEpu, if_neg c_4, if_neg (fun z => z c_18v), hyc, rmEpuK, if_neg c_33]
        exact xend_i () hx hb hr hk hS (fun _ h => h) dX6_editPush_69 (by rw [eR]) (by rw [eR]; exact hP) (Nat.le_refl _) (Nat.le_refl _)
      · refine lv_bipush (v := (-3)) hx hb dX6_editPush_36 (by decide) ?_
        have eR : rmEpu (N, Hs, Sl, tx, kept, fil, ty, at_, nu) (nI y) = ((-3), N, Hs, Sl, tx, kept, fil, ty, at_, nu) := by rw [rmEpu, if_neg c_4, if_neg (fun z => z c_18v), hyc, rmEpuK, if_pos c_33]
        exact xend_i () hx hb hr hk hS (fun _ h => h) dX6_editPush_38 (by rw [eR]) (by rw [eR]; exact hP) (Nat.le_refl _) (Nat.le_refl _)
    · refine lv_bipush (v := (-2)) hx hb dX6_editPush_21 (by decide) ?_
      have eR : rmEpu (N, Hs, Sl, tx, kept, fil, ty, at_, nu) x = ((-2), N, Hs, Sl, tx, kept, fil, ty, at_, nu) := by rw [rmEpu, if_neg c_4, if_pos c_18]
      exact xend_i () hx hb hr hk hS (fun _ h => h) dX6_editPush_23 (by rw [eR]) (by rw [eR]; exact hP) (Nat.le_refl _) (Nat.le_refl _)
  · refine lv_bipush (v := (-4)) hx hb dX6_editPush_7 (by decide) ?_
    have eR : rmEpu (N, Hs, Sl, tx, kept, fil, ty, at_, nu) x = ((-4), N, Hs, Sl, tx, kept, fil, ty, at_, nu) := by rw [rmEpu, if_pos c_4]
    exact xend_i () hx hb hr hk hS (fun _ h => h) dX6_editPush_9 (by rw [eR]) (by rw [eR]; exact hP) (Nat.le_refl _) (Nat.le_refl _)

theorem hw_X6_editSet_f7 : Cond.fieldLink RX6 7 "TailVectorsModel" "now" "[I" ∈ wsX6_editSet := by decide +kernel
theorem hi_X6_editSet_RX6 : ∀ w ∈ u_ws RX6 TX6 9, w ∈ wsX6_editSet := by decide +kernel
set_option maxHeartbeats 4000000 in
set_option maxRecDepth 100000 in
theorem c_X6_editSet (l : Launch) (G : xG) (m0 : Nat) (aN : Nat) (aH : Nat) (aS : Nat) (aT : Nat) (N : Nat → Nat) (Hs : Nat → Nat) (Sl : Nat → Nat) (tx : Nat → Nat) (kept : Nat) (fil : Nat) (ty : Nat) (at_ : Nat) (nu : Nat) (q : Int32) (x : Int32) (hN : ∀ j, N j < 2 ^ 24) (hdis : xDis (xB0 G) [m0, aN, aH, aS, aT]) (hev : 1 ≤ N 10171) (hev2 : N 10171 ≤ 24) (hrows : ∀ v, v ≤ 24 → N (403 * v) ≤ 300) (hwin : ∀ v, v < N 10171 → N (10075 + 4 * v + 2) + rLen N v ≤ N (403 * v)) (hM : N 10172 < 2 ^ 23) (hk4 : kept ≤ 4) (htx : ∀ j, tx j < 65536) (hty : ty ≤ 60) (hfil : fil < 2) : Met l yX6_editSet wsX6_editSet ({ frames := 3, cells := 0, slots := 0, locals := 71 } : Room) (xPc G [.ref m0, .int q, .int x] (fun H => va_P G.1 vwCl [(m0, .inr (6, [.ref aN, .ref aH, .int (nI kept), .ref aS, .int (nI fil), .int (nI ty), .ref aT, .int (nI at_), .int (nI nu)])), (aN, .inl (xcI G, 10276, .inl (nf N))), (aH, .inl (xcI G, 41104, .inl (nf Hs))), (aS, .inl (xcI G, 10276, .inl (nf Sl))), (aT, .inl (xcC G, 60, .inl (nf tx)))] H)) (xQ (σ := Unit) (fun _ => some (.int ((rmEse (N, Hs, Sl, tx, kept, fil, ty, at_, nu) q x).1))) (fun _ H => va_P G.1 vwCl [(m0, .inr (6, [.ref aN, .ref aH, .int (nI ((rmEse (N, Hs, Sl, tx, kept, fil, ty, at_, nu) q x).2.2.2.2.2.1)), .ref aS, .int (nI ((rmEse (N, Hs, Sl, tx, kept, fil, ty, at_, nu) q x).2.2.2.2.2.2.1)), .int (nI ((rmEse (N, Hs, Sl, tx, kept, fil, ty, at_, nu) q x).2.2.2.2.2.2.2.1)), .ref aT, .int (nI ((rmEse (N, Hs, Sl, tx, kept, fil, ty, at_, nu) q x).2.2.2.2.2.2.2.2.1)), .int (nI ((rmEse (N, Hs, Sl, tx, kept, fil, ty, at_, nu) q x).2.2.2.2.2.2.2.2.2))])), (aN, .inl (xcI G, 10276, .inl (nf ((rmEse (N, Hs, Sl, tx, kept, fil, ty, at_, nu) q x).2.1)))), (aH, .inl (xcI G, 41104, .inl (nf ((rmEse (N, Hs, Sl, tx, kept, fil, ty, at_, nu) q x).2.2.1)))), (aS, .inl (xcI G, 10276, .inl (nf ((rmEse (N, Hs, Sl, tx, kept, fil, ty, at_, nu) q x).2.2.2.1)))), (aT, .inl (xcC G, 60, .inl (nf ((rmEse (N, Hs, Sl, tx, kept, fil, ty, at_, nu) q x).2.2.2.2.1))))] H) (fun q => q ∈ [m0, aN, aH, aS, aT])) 0 0 (fun q => q ∈ [m0, aN, aH, aS, aT]) := by
  refine xMet (cc := cX6_editSet) (nL := 4) (ret := (some (.int))) (by decide) rfl (Nat.le_of_ble_eq_true rfl) ?_
  intro p e s m below meth c S hr hk hnm hE hP ls hl
  obtain ⟨hx, hb, hml, hown, hts⟩ := id S
  have hown : s.vm.findClass RX6 = some m.cls := hown
  have hK := hE.1
  have hS : va_S (fun q => q ∈ [m0, aN, aH, aS, aT]) s.heap s.heap [] := va_S.rf
  have hA : ∀ q, (fun q => q ∈ [m0, aN, aH, aS, aT]) q → xB0 G ≤ q := hdis.2
  have hP : va_P G.1 vwCl [(m0, .inr (6, [.ref aN, .ref aH, .int (nI kept), .ref aS, .int (nI fil), .int (nI ty), .ref aT, .int (nI at_), .int (nI nu)])), (aN, .inl (xcI G, 10276, .inl (nf N))), (aH, .inl (xcI G, 41104, .inl (nf Hs))), (aS, .inl (xcI G, 10276, .inl (nf Sl))), (aT, .inl (xcC G, 60, .inl (nf tx)))] s.heap := hP
  have hD : va_D (fun q => q ∈ [m0, aN, aH, aS, aT]) [(m0, .inr (6, [.ref aN, .ref aH, .int (nI kept), .ref aS, .int (nI fil), .int (nI ty), .ref aT, .int (nI at_), .int (nI nu)])), (aN, .inl (xcI G, 10276, .inl (nf N))), (aH, .inl (xcI G, 41104, .inl (nf Hs))), (aS, .inl (xcI G, 10276, .inl (nf Sl))), (aT, .inl (xcC G, 60, .inl (nf tx)))] := (hdis.to rfl)
  have hl : lv_has ls 4 [(0, .ref m0), (1, .int q), (2, .int x)] := hl
  refine lv_aload_n hx hb dX6_editSet_0 rfl (lv_at hl 0 rfl) ?_
  refine xrd (xrunV (As := []) (rest := []) S (c_X6_noEdit l G m0 aN aH aS aT N Hs Sl tx kept fil ty at_ nu hN) (cwV 0 hts gX6_editSet_X6_noEdit rfl rfl rfl (by decide +kernel) ⟨Nat.le_of_ble_eq_true rfl, Nat.le_of_ble_eq_true rfl⟩) hE hS hA 0 6 hP rfl rfl rfl hP rfl rfl hl.1 (Nat.le_of_ble_eq_true rfl) dX6_editSet_1 ⟨Nat.le_of_ble_eq_true rfl, Nat.le_of_ble_eq_true rfl⟩) ?_
  refine b_if_eq (tgt := 10) hx hb dX6_editSet_4 (by decide) (fun c_4 => ?_) (fun c_4 => ?_)
  · refine lv_iload_n hx hb dX6_editSet_10 rfl (lv_at hl 1 rfl) ?_
    refine lv_iconst (v := nI 0) hx hb dX6_editSet_11 rfl ?_
    refine lv_aload_n hx hb dX6_editSet_12 rfl (lv_at hl 0 rfl) ?_
    refine lv_bipush (v := nI 24) hx hb dX6_editSet_13 (by decide) ?_
    refine xrd (xrunV (As := [.int (nI 24)]) (rest := [.int (nI 0), .int q]) S (c_X6_rowLength l G m0 aN aH aS aT N Hs Sl tx kept fil ty at_ nu 24 hN (by omega)) (cwV 1 hts gX6_editSet_X6_rowLength rfl rfl rfl (by decide +kernel) ⟨Nat.le_of_ble_eq_true rfl, Nat.le_of_ble_eq_true rfl⟩) hE hS hA 0 6 hP rfl rfl rfl hP rfl rfl hl.1 (Nat.le_of_ble_eq_true rfl) dX6_editSet_15 ⟨Nat.le_of_ble_eq_true rfl, Nat.le_of_ble_eq_true rfl⟩) ?_
    refine lv_iconst (v := nI 1) hx hb dX6_editSet_18 rfl ?_
    refine lv_isub hx hb dX6_editSet_19 ?_
    refine xrd (xrunS (As := [.int q, .int (nI 0), .int ((nI (N (403 * 24))) - (nI 1))]) (rest := []) S (c_X6_in l G q (nI 0) ((nI (N (403 * 24))) - (nI 1)) ) (va_cwS 3 hts gX6_editSet_X6_in rfl rfl rfl (by decide +kernel) ⟨Nat.le_of_ble_eq_true rfl, Nat.le_of_ble_eq_true rfl⟩) hE hS hA trivial rfl rfl hl.1 (Nat.le_of_ble_eq_true rfl) dX6_editSet_20 ⟨Nat.le_of_ble_eq_true rfl, Nat.le_of_ble_eq_true rfl⟩) ?_
    refine b_if_ne (tgt := 28) hx hb dX6_editSet_23 (by decide) (fun c_23 => ?_) (fun c_23 => ?_)
    · have c_23v := c_23
      obtain ⟨j, hj9, rfl⟩ := xin_of1 (hN _) c_23
      have hjc : (nI j).toNatClampNeg = j := nI_clamp (by have := hrows 24 (by omega); omega)
      refine lv_iload_n hx hb dX6_editSet_28 rfl (lv_at hl 2 rfl) ?_
      refine lv_iconst (v := nI 0) hx hb dX6_editSet_29 rfl ?_
      refine lv_sipush (v := nI 999) hx hb dX6_editSet_30 (by decide) ?_
      refine xrd (xrunS (As := [.int x, .int (nI 0), .int (nI 999)]) (rest := []) S (c_X6_in l G x (nI 0) (nI 999) ) (va_cwS 3 hts gX6_editSet_X6_in rfl rfl rfl (by decide +kernel) ⟨Nat.le_of_ble_eq_true rfl, Nat.le_of_ble_eq_true rfl⟩) hE hS hA trivial rfl rfl hl.1 (Nat.le_of_ble_eq_true rfl) dX6_editSet_33 ⟨Nat.le_of_ble_eq_true rfl, Nat.le_of_ble_eq_true rfl⟩) ?_
      refine b_if_ne (tgt := 42) hx hb dX6_editSet_36 (by decide) (fun c_36 => ?_) (fun c_36 => ?_)
      · have c_36v := c_36
        obtain ⟨y, hy9, rfl⟩ := xin_of (by omega) c_36
        have hyc : (nI y).toNatClampNeg = y := nI_clamp (by omega)
        refine lv_aload_n hx hb dX6_editSet_42 rfl (lv_at hl 0 rfl) ?_
        refine xwr (xrunV (As := []) (rest := []) S (c_X6_record l G m0 aN aH aS aT N Hs Sl tx kept fil ty at_ nu hN hdis hk4) (cwV 0 hts gX6_editSet_X6_record rfl rfl rfl (by decide +kernel) ⟨Nat.le_of_ble_eq_true rfl, Nat.le_of_ble_eq_true rfl⟩) hE hS hA 0 6 hP rfl rfl rfl hP rfl rfl hl.1 (Nat.le_of_ble_eq_true rfl) dX6_editSet_43 ⟨Nat.le_of_ble_eq_true rfl, Nat.le_of_ble_eq_true rfl⟩) hS (fun _ h => h) (fun _ h => h) (fun uw_ H locs hΨ hz hkp hS => ?_)
        have hP : va_P G.1 vwCl [(m0, .inr (6, [.ref aN, .ref aH, .int (nI (rRecK kept)), .ref aS, .int (nI fil), .int (nI ty), .ref aT, .int (nI at_), .int (nI nu)])), (aN, .inl (xcI G, 10276, .inl (nf N))), (aH, .inl (xcI G, 41104, .inl (nf (rRecH Hs N kept)))), (aS, .inl (xcI G, 10276, .inl (nf Sl))), (aT, .inl (xcC G, 60, .inl (nf tx)))] H := hΨ
        have hD : va_D (fun q => q ∈ [m0, aN, aH, aS, aT]) [(m0, .inr (6, [.ref aN, .ref aH, .int (nI (rRecK kept)), .ref aS, .int (nI fil), .int (nI ty), .ref aT, .int (nI at_), .int (nI nu)])), (aN, .inl (xcI G, 10276, .inl (nf N))), (aH, .inl (xcI G, 41104, .inl (nf (rRecH Hs N kept)))), (aS, .inl (xcI G, 10276, .inl (nf Sl))), (aT, .inl (xcC G, 60, .inl (nf tx)))] := (hdis.to rfl)
        refine W.eq (g2 := F0 m 46 ls []) rfl ?_
        refine lv_aload_n hx hb dX6_editSet_46 rfl (lv_at hl 0 rfl) ?_
        refine va_get (D := G.1) (ci := 6) (v := .ref aN) (C := RX6) (T := TX6) (N := 9) hx hb hts hi_X6_editSet_RX6 hown hK hP 0 rfl rfl 0 (by decide) (hts _ hw_X6_editSet_f7) (fun _ h9 => h9) rfl dX6_editSet_47 ?_
        refine lv_sipush (v := nI 10172) hx hb dX6_editSet_50 (by decide) ?_
        refine n_iald hx hb hK hP 1 0 rfl rfl (by omega) (by decide) dX6_editSet_53 ?_
        refine lv_istore_n (lv' := [(3, .int (nI (N 10172))), (0, .ref m0), (1, .int (nI j)), (2, .int (nI y))]) hx hb dX6_editSet_54 rfl hl (by decide) rfl (fun ls hl => ?_)
        refine lv_aload_n hx hb dX6_editSet_55 rfl (lv_at hl 1 rfl) ?_
        refine lv_bipush (v := nI 24) hx hb dX6_editSet_56 (by decide) ?_
        refine lv_iload_n hx hb dX6_editSet_58 rfl (lv_at hl 2 rfl) ?_
        refine lv_iload_n hx hb dX6_editSet_59 rfl (lv_at hl 3 rfl) ?_
        refine xwr (xrunV (As := [.int (nI 24), .int (nI j), .int (nI y)]) (rest := []) S (c_X6_sets l G m0 aN aH aS aT N (rRecH Hs N kept) Sl tx (rRecK kept) fil ty at_ nu 24 j y hN hdis (by omega) (hrows 24 (by omega)) (by have := hrows 24 (by omega); omega) hM) (cwV 3 hts gX6_editSet_X6_sets rfl rfl rfl (by decide +kernel) ⟨Nat.le_of_ble_eq_true rfl, Nat.le_of_ble_eq_true rfl⟩) hE hS hA 0 6 hP rfl rfl rfl hP rfl rfl hl.1 (Nat.le_of_ble_eq_true rfl) dX6_editSet_60 ⟨Nat.le_of_ble_eq_true rfl, Nat.le_of_ble_eq_true rfl⟩) hS (fun _ h => h) (fun _ h => h) (fun uw_ H locs hΨ hz hkp hS => ?_)
        have hP : va_P G.1 vwCl [(m0, .inr (6, [.ref aN, .ref aH, .int (nI (rRecK kept)), .ref aS, .int (nI fil), .int (nI ty), .ref aT, .int (nI at_), .int (nI nu)])), (aN, .inl (xcI G, 10276, .inl (nf (rSe N 24 j y)))), (aH, .inl (xcI G, 41104, .inl (nf (rRecH Hs N kept)))), (aS, .inl (xcI G, 10276, .inl (nf Sl))), (aT, .inl (xcC G, 60, .inl (nf tx)))] H := hΨ
        have hD : va_D (fun q => q ∈ [m0, aN, aH, aS, aT]) [(m0, .inr (6, [.ref aN, .ref aH, .int (nI (rRecK kept)), .ref aS, .int (nI fil), .int (nI ty), .ref aT, .int (nI at_), .int (nI nu)])), (aN, .inl (xcI G, 10276, .inl (nf (rSe N 24 j y)))), (aH, .inl (xcI G, 41104, .inl (nf (rRecH Hs N kept)))), (aS, .inl (xcI G, 10276, .inl (nf Sl))), (aT, .inl (xcC G, 60, .inl (nf tx)))] := (hdis.to rfl)
        refine W.eq (g2 := F0 m 63 ls []) rfl ?_
        refine lv_aload_n hx hb dX6_editSet_63 rfl (lv_at hl 1 rfl) ?_
        refine va_get (D := G.1) (ci := 6) (v := .ref aN) (C := RX6) (T := TX6) (N := 9) hx hb hts hi_X6_editSet_RX6 hown hK hP 0 rfl rfl 0 (by decide) (hts _ hw_X6_editSet_f7) (fun _ h9 => h9) rfl dX6_editSet_64 ?_
        refine lv_sipush (v := nI 10172) hx hb dX6_editSet_67 (by decide) ?_
        refine n_iald hx hb hK hP 1 0 rfl rfl (by omega) (by decide) dX6_editSet_70 ?_
        refine lv_iload_n hx hb dX6_editSet_71 rfl (lv_at hl 0 rfl) ?_
        refine lv_isub hx hb dX6_editSet_72 ?_
        have eR : rmEse (N, Hs, Sl, tx, kept, fil, ty, at_, nu) (nI j) (nI y) = ((nI ((rSe N 24 j y) 10172)) - (nI (N 10172)), rSe N 24 j y, (rRecH Hs N kept), Sl, tx, (rRecK kept), fil, ty, at_, nu) := by rw [rmEse, if_neg c_4, if_neg (fun z => z c_23v), if_neg (fun z => z c_36v), hjc, hyc, rmEseK]
        exact xend_i () hx hb hr hk hS (fun _ h => h) dX6_editSet_73 (by rw [eR]) (by rw [eR]; exact hP) (Nat.le_refl _) (Nat.le_refl _)
      · refine lv_bipush (v := (-2)) hx hb dX6_editSet_39 (by decide) ?_
        have eR : rmEse (N, Hs, Sl, tx, kept, fil, ty, at_, nu) (nI j) x = ((-2), N, Hs, Sl, tx, kept, fil, ty, at_, nu) := by rw [rmEse, if_neg c_4, if_neg (fun z => z c_23v), if_pos c_36]
        exact xend_i () hx hb hr hk hS (fun _ h => h) dX6_editSet_41 (by rw [eR]) (by rw [eR]; exact hP) (Nat.le_refl _) (Nat.le_refl _)
    · refine lv_iconst (v := (-1)) hx hb dX6_editSet_26 rfl ?_
      have eR : rmEse (N, Hs, Sl, tx, kept, fil, ty, at_, nu) q x = ((-1), N, Hs, Sl, tx, kept, fil, ty, at_, nu) := by rw [rmEse, if_neg c_4, if_pos c_23]
      exact xend_i () hx hb hr hk hS (fun _ h => h) dX6_editSet_27 (by rw [eR]) (by rw [eR]; exact hP) (Nat.le_refl _) (Nat.le_refl _)
  · refine lv_bipush (v := (-4)) hx hb dX6_editSet_7 (by decide) ?_
    have eR : rmEse (N, Hs, Sl, tx, kept, fil, ty, at_, nu) q x = ((-4), N, Hs, Sl, tx, kept, fil, ty, at_, nu) := by rw [rmEse, if_pos c_4]
    exact xend_i () hx hb hr hk hS (fun _ h => h) dX6_editSet_9 (by rw [eR]) (by rw [eR]; exact hP) (Nat.le_refl _) (Nat.le_refl _)

theorem hw_X6_editPop_f7 : Cond.fieldLink RX6 7 "TailVectorsModel" "now" "[I" ∈ wsX6_editPop := by decide +kernel
theorem hi_X6_editPop_RX6 : ∀ w ∈ u_ws RX6 TX6 9, w ∈ wsX6_editPop := by decide +kernel
set_option maxHeartbeats 4000000 in
set_option maxRecDepth 100000 in
theorem c_X6_editPop (l : Launch) (G : xG) (m0 : Nat) (aN : Nat) (aH : Nat) (aS : Nat) (aT : Nat) (N : Nat → Nat) (Hs : Nat → Nat) (Sl : Nat → Nat) (tx : Nat → Nat) (kept : Nat) (fil : Nat) (ty : Nat) (at_ : Nat) (nu : Nat) (hN : ∀ j, N j < 2 ^ 24) (hdis : xDis (xB0 G) [m0, aN, aH, aS, aT]) (hev : 1 ≤ N 10171) (hev2 : N 10171 ≤ 24) (hrows : ∀ v, v ≤ 24 → N (403 * v) ≤ 300) (hwin : ∀ v, v < N 10171 → N (10075 + 4 * v + 2) + rLen N v ≤ N (403 * v)) (hM : N 10172 < 2 ^ 23) (hk4 : kept ≤ 4) (htx : ∀ j, tx j < 65536) (hty : ty ≤ 60) (hfil : fil < 2) : Met l yX6_editPop wsX6_editPop ({ frames := 4, cells := 0, slots := 0, locals := 88 } : Room) (xPc G [.ref m0] (fun H => va_P G.1 vwCl [(m0, .inr (6, [.ref aN, .ref aH, .int (nI kept), .ref aS, .int (nI fil), .int (nI ty), .ref aT, .int (nI at_), .int (nI nu)])), (aN, .inl (xcI G, 10276, .inl (nf N))), (aH, .inl (xcI G, 41104, .inl (nf Hs))), (aS, .inl (xcI G, 10276, .inl (nf Sl))), (aT, .inl (xcC G, 60, .inl (nf tx)))] H)) (xQ (σ := Unit) (fun _ => some (.int ((rmEpo (N, Hs, Sl, tx, kept, fil, ty, at_, nu)).1))) (fun _ H => va_P G.1 vwCl [(m0, .inr (6, [.ref aN, .ref aH, .int (nI ((rmEpo (N, Hs, Sl, tx, kept, fil, ty, at_, nu)).2.2.2.2.2.1)), .ref aS, .int (nI ((rmEpo (N, Hs, Sl, tx, kept, fil, ty, at_, nu)).2.2.2.2.2.2.1)), .int (nI ((rmEpo (N, Hs, Sl, tx, kept, fil, ty, at_, nu)).2.2.2.2.2.2.2.1)), .ref aT, .int (nI ((rmEpo (N, Hs, Sl, tx, kept, fil, ty, at_, nu)).2.2.2.2.2.2.2.2.1)), .int (nI ((rmEpo (N, Hs, Sl, tx, kept, fil, ty, at_, nu)).2.2.2.2.2.2.2.2.2))])), (aN, .inl (xcI G, 10276, .inl (nf ((rmEpo (N, Hs, Sl, tx, kept, fil, ty, at_, nu)).2.1)))), (aH, .inl (xcI G, 41104, .inl (nf ((rmEpo (N, Hs, Sl, tx, kept, fil, ty, at_, nu)).2.2.1)))), (aS, .inl (xcI G, 10276, .inl (nf ((rmEpo (N, Hs, Sl, tx, kept, fil, ty, at_, nu)).2.2.2.1)))), (aT, .inl (xcC G, 60, .inl (nf ((rmEpo (N, Hs, Sl, tx, kept, fil, ty, at_, nu)).2.2.2.2.1))))] H) (fun q => q ∈ [m0, aN, aH, aS, aT])) 0 0 (fun q => q ∈ [m0, aN, aH, aS, aT]) := by
  refine xMet (cc := cX6_editPop) (nL := 2) (ret := (some (.int))) (by decide) rfl (Nat.le_of_ble_eq_true rfl) ?_
  intro p e s m below meth c S hr hk hnm hE hP ls hl
  obtain ⟨hx, hb, hml, hown, hts⟩ := id S
  have hown : s.vm.findClass RX6 = some m.cls := hown
  have hK := hE.1
  have hS : va_S (fun q => q ∈ [m0, aN, aH, aS, aT]) s.heap s.heap [] := va_S.rf
  have hA : ∀ q, (fun q => q ∈ [m0, aN, aH, aS, aT]) q → xB0 G ≤ q := hdis.2
  have hP : va_P G.1 vwCl [(m0, .inr (6, [.ref aN, .ref aH, .int (nI kept), .ref aS, .int (nI fil), .int (nI ty), .ref aT, .int (nI at_), .int (nI nu)])), (aN, .inl (xcI G, 10276, .inl (nf N))), (aH, .inl (xcI G, 41104, .inl (nf Hs))), (aS, .inl (xcI G, 10276, .inl (nf Sl))), (aT, .inl (xcC G, 60, .inl (nf tx)))] s.heap := hP
  have hD : va_D (fun q => q ∈ [m0, aN, aH, aS, aT]) [(m0, .inr (6, [.ref aN, .ref aH, .int (nI kept), .ref aS, .int (nI fil), .int (nI ty), .ref aT, .int (nI at_), .int (nI nu)])), (aN, .inl (xcI G, 10276, .inl (nf N))), (aH, .inl (xcI G, 41104, .inl (nf Hs))), (aS, .inl (xcI G, 10276, .inl (nf Sl))), (aT, .inl (xcC G, 60, .inl (nf tx)))] := (hdis.to rfl)
  have hl : lv_has ls 2 [(0, .ref m0)] := hl
  refine lv_aload_n hx hb dX6_editPop_0 rfl (lv_at hl 0 rfl) ?_
  refine xrd (xrunV (As := []) (rest := []) S (c_X6_noEdit l G m0 aN aH aS aT N Hs Sl tx kept fil ty at_ nu hN) (cwV 0 hts gX6_editPop_X6_noEdit rfl rfl rfl (by decide +kernel) ⟨Nat.le_of_ble_eq_true rfl, Nat.le_of_ble_eq_true rfl⟩) hE hS hA 0 6 hP rfl rfl rfl hP rfl rfl hl.1 (Nat.le_of_ble_eq_true rfl) dX6_editPop_1 ⟨Nat.le_of_ble_eq_true rfl, Nat.le_of_ble_eq_true rfl⟩) ?_
  refine b_if_ne (tgt := 16) hx hb dX6_editPop_4 (by decide) (fun c_4 => ?_) (fun c_4 => ?_)
  · refine lv_bipush (v := (-4)) hx hb dX6_editPop_16 (by decide) ?_
    have eR : rmEpo (N, Hs, Sl, tx, kept, fil, ty, at_, nu) = ((-4), N, Hs, Sl, tx, kept, fil, ty, at_, nu) := by rw [rmEpo, if_pos (Or.inl c_4)]
    exact xend_i () hx hb hr hk hS (fun _ h => h) dX6_editPop_18 (by rw [eR]) (by rw [eR]; exact hP) (Nat.le_refl _) (Nat.le_refl _)
  · refine lv_aload_n hx hb dX6_editPop_7 rfl (lv_at hl 0 rfl) ?_
    refine lv_bipush (v := nI 24) hx hb dX6_editPop_8 (by decide) ?_
    refine xrd (xrunV (As := [.int (nI 24)]) (rest := []) S (c_X6_rowLength l G m0 aN aH aS aT N Hs Sl tx kept fil ty at_ nu 24 hN (by omega)) (cwV 1 hts gX6_editPop_X6_rowLength rfl rfl rfl (by decide +kernel) ⟨Nat.le_of_ble_eq_true rfl, Nat.le_of_ble_eq_true rfl⟩) hE hS hA 0 6 hP rfl rfl rfl hP rfl rfl hl.1 (Nat.le_of_ble_eq_true rfl) dX6_editPop_10 ⟨Nat.le_of_ble_eq_true rfl, Nat.le_of_ble_eq_true rfl⟩) ?_
    refine n_if_ne (tgt := 19) hx hb (by have := hrows 24 (by omega); omega) dX6_editPop_13 (by decide) (fun c_13 => ?_) (fun c_13 => ?_)
    · refine lv_aload_n hx hb dX6_editPop_19 rfl (lv_at hl 0 rfl) ?_
      refine xwr (xrunV (As := []) (rest := []) S (c_X6_record l G m0 aN aH aS aT N Hs Sl tx kept fil ty at_ nu hN hdis hk4) (cwV 0 hts gX6_editPop_X6_record rfl rfl rfl (by decide +kernel) ⟨Nat.le_of_ble_eq_true rfl, Nat.le_of_ble_eq_true rfl⟩) hE hS hA 0 6 hP rfl rfl rfl hP rfl rfl hl.1 (Nat.le_of_ble_eq_true rfl) dX6_editPop_20 ⟨Nat.le_of_ble_eq_true rfl, Nat.le_of_ble_eq_true rfl⟩) hS (fun _ h => h) (fun _ h => h) (fun uw_ H locs hΨ hz hkp hS => ?_)
      have hP : va_P G.1 vwCl [(m0, .inr (6, [.ref aN, .ref aH, .int (nI (rRecK kept)), .ref aS, .int (nI fil), .int (nI ty), .ref aT, .int (nI at_), .int (nI nu)])), (aN, .inl (xcI G, 10276, .inl (nf N))), (aH, .inl (xcI G, 41104, .inl (nf (rRecH Hs N kept)))), (aS, .inl (xcI G, 10276, .inl (nf Sl))), (aT, .inl (xcC G, 60, .inl (nf tx)))] H := hΨ
      have hD : va_D (fun q => q ∈ [m0, aN, aH, aS, aT]) [(m0, .inr (6, [.ref aN, .ref aH, .int (nI (rRecK kept)), .ref aS, .int (nI fil), .int (nI ty), .ref aT, .int (nI at_), .int (nI nu)])), (aN, .inl (xcI G, 10276, .inl (nf N))), (aH, .inl (xcI G, 41104, .inl (nf (rRecH Hs N kept)))), (aS, .inl (xcI G, 10276, .inl (nf Sl))), (aT, .inl (xcC G, 60, .inl (nf tx)))] := (hdis.to rfl)
      refine W.eq (g2 := F0 m 23 ls []) rfl ?_
      refine lv_aload_n hx hb dX6_editPop_23 rfl (lv_at hl 0 rfl) ?_
      refine va_get (D := G.1) (ci := 6) (v := .ref aN) (C := RX6) (T := TX6) (N := 9) hx hb hts hi_X6_editPop_RX6 hown hK hP 0 rfl rfl 0 (by decide) (hts _ hw_X6_editPop_f7) (fun _ h9 => h9) rfl dX6_editPop_24 ?_
      refine lv_sipush (v := nI 10172) hx hb dX6_editPop_27 (by decide) ?_
      refine n_iald hx hb hK hP 1 0 rfl rfl (by omega) (by decide) dX6_editPop_30 ?_
      refine lv_istore_n (lv' := [(1, .int (nI (N 10172))), (0, .ref m0)]) hx hb dX6_editPop_31 rfl hl (by decide) rfl (fun ls hl => ?_)
      refine lv_aload_n hx hb dX6_editPop_32 rfl (lv_at hl 1 rfl) ?_
      refine lv_bipush (v := nI 24) hx hb dX6_editPop_33 (by decide) ?_
      refine xwr (xrunV (As := [.int (nI 24)]) (rest := []) S (c_X6_pops l G m0 aN aH aS aT N (rRecH Hs N kept) Sl tx (rRecK kept) fil ty at_ nu 24 hN hdis (by omega) (hrows 24 (by omega)) (by omega) hM) (cwV 1 hts gX6_editPop_X6_pops rfl rfl rfl (by decide +kernel) ⟨Nat.le_of_ble_eq_true rfl, Nat.le_of_ble_eq_true rfl⟩) hE hS hA 0 6 hP rfl rfl rfl hP rfl rfl hl.1 (Nat.le_of_ble_eq_true rfl) dX6_editPop_35 ⟨Nat.le_of_ble_eq_true rfl, Nat.le_of_ble_eq_true rfl⟩) hS (fun _ h => h) (fun _ h => h) (fun uw_ H locs hΨ hz hkp hS => ?_)
      have hP : va_P G.1 vwCl [(m0, .inr (6, [.ref aN, .ref aH, .int (nI (rRecK kept)), .ref aS, .int (nI fil), .int (nI ty), .ref aT, .int (nI at_), .int (nI nu)])), (aN, .inl (xcI G, 10276, .inl (nf (rPo N 24)))), (aH, .inl (xcI G, 41104, .inl (nf (rRecH Hs N kept)))), (aS, .inl (xcI G, 10276, .inl (nf Sl))), (aT, .inl (xcC G, 60, .inl (nf tx)))] H := hΨ
      have hD : va_D (fun q => q ∈ [m0, aN, aH, aS, aT]) [(m0, .inr (6, [.ref aN, .ref aH, .int (nI (rRecK kept)), .ref aS, .int (nI fil), .int (nI ty), .ref aT, .int (nI at_), .int (nI nu)])), (aN, .inl (xcI G, 10276, .inl (nf (rPo N 24)))), (aH, .inl (xcI G, 41104, .inl (nf (rRecH Hs N kept)))), (aS, .inl (xcI G, 10276, .inl (nf Sl))), (aT, .inl (xcC G, 60, .inl (nf tx)))] := (hdis.to rfl)
      refine W.eq (g2 := F0 m 38 ls []) rfl ?_
      refine lv_aload_n hx hb dX6_editPop_38 rfl (lv_at hl 1 rfl) ?_
      refine va_get (D := G.1) (ci := 6) (v := .ref aN) (C := RX6) (T := TX6) (N := 9) hx hb hts hi_X6_editPop_RX6 hown hK hP 0 rfl rfl 0 (by decide) (hts _ hw_X6_editPop_f7) (fun _ h9 => h9) rfl dX6_editPop_39 ?_
      refine lv_sipush (v := nI 10172) hx hb dX6_editPop_42 (by decide) ?_
      refine n_iald hx hb hK hP 1 0 rfl rfl (by omega) (by decide) dX6_editPop_45 ?_
      refine lv_iload_n hx hb dX6_editPop_46 rfl (lv_at hl 0 rfl) ?_
      refine lv_isub hx hb dX6_editPop_47 ?_
      have eR : rmEpo (N, Hs, Sl, tx, kept, fil, ty, at_, nu) = ((nI ((rPo N 24) 10172)) - (nI (N 10172)), rPo N 24, (rRecH Hs N kept), Sl, tx, (rRecK kept), fil, ty, at_, nu) := by rw [rmEpo, if_neg (fun q => q.elim c_4 c_13)]
      exact xend_i () hx hb hr hk hS (fun _ h => h) dX6_editPop_48 (by rw [eR]) (by rw [eR]; exact hP) (Nat.le_refl _) (Nat.le_refl _)
    · refine lv_bipush (v := (-4)) hx hb dX6_editPop_16 (by decide) ?_
      have eR : rmEpo (N, Hs, Sl, tx, kept, fil, ty, at_, nu) = ((-4), N, Hs, Sl, tx, kept, fil, ty, at_, nu) := by rw [rmEpo, if_pos (Or.inr c_13)]
      exact xend_i () hx hb hr hk hS (fun _ h => h) dX6_editPop_18 (by rw [eR]) (by rw [eR]; exact hP) (Nat.le_refl _) (Nat.le_refl _)

theorem hw_X6_finish_f7 : Cond.fieldLink RX6 7 "TailVectorsModel" "now" "[I" ∈ wsX6_finish := by decide +kernel
theorem hi_X6_finish_RX6 : ∀ w ∈ u_ws RX6 TX6 9, w ∈ wsX6_finish := by decide +kernel
set_option maxHeartbeats 4000000 in
set_option maxRecDepth 100000 in
theorem c_X6_finish (l : Launch) (G : xG) (m0 : Nat) (aN : Nat) (aH : Nat) (aS : Nat) (aT : Nat) (N : Nat → Nat) (Hs : Nat → Nat) (Sl : Nat → Nat) (tx : Nat → Nat) (kept : Nat) (fil : Nat) (ty : Nat) (at_ : Nat) (nu : Nat) (hN : ∀ j, N j < 2 ^ 24) (hdis : xDis (xB0 G) [m0, aN, aH, aS, aT]) (hev : 1 ≤ N 10171) (hev2 : N 10171 ≤ 24) (hrows : ∀ v, v ≤ 24 → N (403 * v) ≤ 300) (hwin : ∀ v, v < N 10171 → N (10075 + 4 * v + 2) + rLen N v ≤ N (403 * v)) (hM : N 10172 < 2 ^ 23) (hk4 : kept ≤ 4) (htx : ∀ j, tx j < 65536) (hty : ty ≤ 60) (hfil : fil < 2) : Met l yX6_finish wsX6_finish ({ frames := 2, cells := 0, slots := 0, locals := 48 } : Room) (xPc G [.ref m0] (fun H => va_P G.1 vwCl [(m0, .inr (6, [.ref aN, .ref aH, .int (nI kept), .ref aS, .int (nI fil), .int (nI ty), .ref aT, .int (nI at_), .int (nI nu)])), (aN, .inl (xcI G, 10276, .inl (nf N))), (aH, .inl (xcI G, 41104, .inl (nf Hs))), (aS, .inl (xcI G, 10276, .inl (nf Sl))), (aT, .inl (xcC G, 60, .inl (nf tx)))] H)) (xQ (σ := Unit) (fun _ => some (.int ((rmFin (N, Hs, Sl, tx, kept, fil, ty, at_, nu)).1))) (fun _ H => va_P G.1 vwCl [(m0, .inr (6, [.ref aN, .ref aH, .int (nI ((rmFin (N, Hs, Sl, tx, kept, fil, ty, at_, nu)).2.2.2.2.2.1)), .ref aS, .int (nI ((rmFin (N, Hs, Sl, tx, kept, fil, ty, at_, nu)).2.2.2.2.2.2.1)), .int (nI ((rmFin (N, Hs, Sl, tx, kept, fil, ty, at_, nu)).2.2.2.2.2.2.2.1)), .ref aT, .int (nI ((rmFin (N, Hs, Sl, tx, kept, fil, ty, at_, nu)).2.2.2.2.2.2.2.2.1)), .int (nI ((rmFin (N, Hs, Sl, tx, kept, fil, ty, at_, nu)).2.2.2.2.2.2.2.2.2))])), (aN, .inl (xcI G, 10276, .inl (nf ((rmFin (N, Hs, Sl, tx, kept, fil, ty, at_, nu)).2.1)))), (aH, .inl (xcI G, 41104, .inl (nf ((rmFin (N, Hs, Sl, tx, kept, fil, ty, at_, nu)).2.2.1)))), (aS, .inl (xcI G, 10276, .inl (nf ((rmFin (N, Hs, Sl, tx, kept, fil, ty, at_, nu)).2.2.2.1)))), (aT, .inl (xcC G, 60, .inl (nf ((rmFin (N, Hs, Sl, tx, kept, fil, ty, at_, nu)).2.2.2.2.1))))] H) (fun q => q ∈ [m0, aN, aH, aS, aT])) 0 0 (fun q => q ∈ [m0, aN, aH, aS, aT]) := by
  refine xMet (cc := cX6_finish) (nL := 1) (ret := (some (.int))) (by decide) rfl (Nat.le_of_ble_eq_true rfl) ?_
  intro p e s m below meth c S hr hk hnm hE hP ls hl
  obtain ⟨hx, hb, hml, hown, hts⟩ := id S
  have hown : s.vm.findClass RX6 = some m.cls := hown
  have hK := hE.1
  have hS : va_S (fun q => q ∈ [m0, aN, aH, aS, aT]) s.heap s.heap [] := va_S.rf
  have hA : ∀ q, (fun q => q ∈ [m0, aN, aH, aS, aT]) q → xB0 G ≤ q := hdis.2
  have hP : va_P G.1 vwCl [(m0, .inr (6, [.ref aN, .ref aH, .int (nI kept), .ref aS, .int (nI fil), .int (nI ty), .ref aT, .int (nI at_), .int (nI nu)])), (aN, .inl (xcI G, 10276, .inl (nf N))), (aH, .inl (xcI G, 41104, .inl (nf Hs))), (aS, .inl (xcI G, 10276, .inl (nf Sl))), (aT, .inl (xcC G, 60, .inl (nf tx)))] s.heap := hP
  have hD : va_D (fun q => q ∈ [m0, aN, aH, aS, aT]) [(m0, .inr (6, [.ref aN, .ref aH, .int (nI kept), .ref aS, .int (nI fil), .int (nI ty), .ref aT, .int (nI at_), .int (nI nu)])), (aN, .inl (xcI G, 10276, .inl (nf N))), (aH, .inl (xcI G, 41104, .inl (nf Hs))), (aS, .inl (xcI G, 10276, .inl (nf Sl))), (aT, .inl (xcC G, 60, .inl (nf tx)))] := (hdis.to rfl)
  have hl : lv_has ls 1 [(0, .ref m0)] := hl
  refine lv_aload_n hx hb dX6_finish_0 rfl (lv_at hl 0 rfl) ?_
  refine xrd (xrunV (As := []) (rest := []) S (c_X6_noEdit l G m0 aN aH aS aT N Hs Sl tx kept fil ty at_ nu hN) (cwV 0 hts gX6_finish_X6_noEdit rfl rfl rfl (by decide +kernel) ⟨Nat.le_of_ble_eq_true rfl, Nat.le_of_ble_eq_true rfl⟩) hE hS hA 0 6 hP rfl rfl rfl hP rfl rfl hl.1 (Nat.le_of_ble_eq_true rfl) dX6_finish_1 ⟨Nat.le_of_ble_eq_true rfl, Nat.le_of_ble_eq_true rfl⟩) ?_
  refine b_if_eq (tgt := 10) hx hb dX6_finish_4 (by decide) (fun c_4 => ?_) (fun c_4 => ?_)
  · refine lv_aload_n hx hb dX6_finish_10 rfl (lv_at hl 0 rfl) ?_
    refine xrd (xrunV (As := []) (rest := []) S (c_X6_isFull l G m0 aN aH aS aT N Hs Sl tx kept fil ty at_ nu hN) (cwV 0 hts gX6_finish_X6_isFull rfl rfl rfl (by decide +kernel) ⟨Nat.le_of_ble_eq_true rfl, Nat.le_of_ble_eq_true rfl⟩) hE hS hA 0 6 hP rfl rfl rfl hP rfl rfl hl.1 (Nat.le_of_ble_eq_true rfl) dX6_finish_11 ⟨Nat.le_of_ble_eq_true rfl, Nat.le_of_ble_eq_true rfl⟩) ?_
    refine b_if_eq (tgt := 20) hx hb dX6_finish_14 (by decide) (fun c_14 => ?_) (fun c_14 => ?_)
    · refine lv_aload_n hx hb dX6_finish_20 rfl (lv_at hl 0 rfl) ?_
      refine xwr (xrunV (As := []) (rest := []) S (c_X6_record l G m0 aN aH aS aT N Hs Sl tx kept fil ty at_ nu hN hdis hk4) (cwV 0 hts gX6_finish_X6_record rfl rfl rfl (by decide +kernel) ⟨Nat.le_of_ble_eq_true rfl, Nat.le_of_ble_eq_true rfl⟩) hE hS hA 0 6 hP rfl rfl rfl hP rfl rfl hl.1 (Nat.le_of_ble_eq_true rfl) dX6_finish_21 ⟨Nat.le_of_ble_eq_true rfl, Nat.le_of_ble_eq_true rfl⟩) hS (fun _ h => h) (fun _ h => h) (fun uw_ H locs hΨ hz hkp hS => ?_)
      have hP : va_P G.1 vwCl [(m0, .inr (6, [.ref aN, .ref aH, .int (nI (rRecK kept)), .ref aS, .int (nI fil), .int (nI ty), .ref aT, .int (nI at_), .int (nI nu)])), (aN, .inl (xcI G, 10276, .inl (nf N))), (aH, .inl (xcI G, 41104, .inl (nf (rRecH Hs N kept)))), (aS, .inl (xcI G, 10276, .inl (nf Sl))), (aT, .inl (xcC G, 60, .inl (nf tx)))] H := hΨ
      have hD : va_D (fun q => q ∈ [m0, aN, aH, aS, aT]) [(m0, .inr (6, [.ref aN, .ref aH, .int (nI (rRecK kept)), .ref aS, .int (nI fil), .int (nI ty), .ref aT, .int (nI at_), .int (nI nu)])), (aN, .inl (xcI G, 10276, .inl (nf N))), (aH, .inl (xcI G, 41104, .inl (nf (rRecH Hs N kept)))), (aS, .inl (xcI G, 10276, .inl (nf Sl))), (aT, .inl (xcC G, 60, .inl (nf tx)))] := (hdis.to rfl)
      refine W.eq (g2 := F0 m 24 ls []) rfl ?_
      refine lv_aload_n hx hb dX6_finish_24 rfl (lv_at hl 0 rfl) ?_
      refine va_get (D := G.1) (ci := 6) (v := .ref aN) (C := RX6) (T := TX6) (N := 9) hx hb hts hi_X6_finish_RX6 hown hK hP 0 rfl rfl 0 (by decide) (hts _ hw_X6_finish_f7) (fun _ h9 => h9) rfl dX6_finish_25 ?_
      refine lv_sipush (v := nI 10173) hx hb dX6_finish_28 (by decide) ?_
      refine lv_iconst (v := nI 0) hx hb dX6_finish_31 rfl ?_
      refine n_iast hx hb hK hP hD hS 1 0 rfl rfl (by omega) (by decide) dX6_finish_32 (fun H locs hP hD hS => ?_)
      have hP : va_P G.1 vwCl [(m0, .inr (6, [.ref aN, .ref aH, .int (nI (rRecK kept)), .ref aS, .int (nI fil), .int (nI ty), .ref aT, .int (nI at_), .int (nI nu)])), (aN, .inl (xcI G, 10276, .inl (nf (updN N 10173 0)))), (aH, .inl (xcI G, 41104, .inl (nf (rRecH Hs N kept)))), (aS, .inl (xcI G, 10276, .inl (nf Sl))), (aT, .inl (xcC G, 60, .inl (nf tx)))] H := hP
      have hD : va_D (fun q => q ∈ [m0, aN, aH, aS, aT]) [(m0, .inr (6, [.ref aN, .ref aH, .int (nI (rRecK kept)), .ref aS, .int (nI fil), .int (nI ty), .ref aT, .int (nI at_), .int (nI nu)])), (aN, .inl (xcI G, 10276, .inl (nf (updN N 10173 0)))), (aH, .inl (xcI G, 41104, .inl (nf (rRecH Hs N kept)))), (aS, .inl (xcI G, 10276, .inl (nf Sl))), (aT, .inl (xcC G, 60, .inl (nf tx)))] := hD
      refine lv_aload_n hx hb dX6_finish_33 rfl (lv_at hl 0 rfl) ?_
      refine lv_bipush (v := nI 24) hx hb dX6_finish_34 (by decide) ?_
      refine lv_iconst (v := nI 0) hx hb dX6_finish_36 rfl ?_
      refine n_top (y := bI (False)) (bI_f not_false).symm ?_
      refine lv_iconst (v := nI 0) hx hb dX6_finish_37 rfl ?_
      refine lv_iconst (v := nI 0) hx hb dX6_finish_38 rfl ?_
      refine xwr (xrunV (As := [.int (nI 24), .int (bI (False)), .int (nI 0), .int (nI 0)]) (rest := []) S (c_X6_comes l G m0 aN aH aS aT (updN N 10173 0) (rRecH Hs N kept) Sl tx (rRecK kept) fil ty at_ nu 24 False 0 0 (updN_lt hN (by omega)) hdis (by omega) (by rw [updN_n (by omega)]; omega)) (cwV 4 hts gX6_finish_X6_comes rfl rfl rfl (by decide +kernel) ⟨Nat.le_of_ble_eq_true rfl, Nat.le_of_ble_eq_true rfl⟩) hE hS hA 0 6 hP rfl rfl rfl hP rfl rfl hl.1 (Nat.le_of_ble_eq_true rfl) dX6_finish_39 ⟨Nat.le_of_ble_eq_true rfl, Nat.le_of_ble_eq_true rfl⟩) hS (fun _ h => h) (fun _ h => h) (fun uw_ H locs hΨ hz hkp hS => ?_)
      have hP : va_P G.1 vwCl [(m0, .inr (6, [.ref aN, .ref aH, .int (nI (rRecK kept)), .ref aS, .int (nI fil), .int (nI ty), .ref aT, .int (nI at_), .int (nI nu)])), (aN, .inl (xcI G, 10276, .inl (nf (rCo (updN N 10173 0) 24 False 0 0)))), (aH, .inl (xcI G, 41104, .inl (nf (rRecH Hs N kept)))), (aS, .inl (xcI G, 10276, .inl (nf Sl))), (aT, .inl (xcC G, 60, .inl (nf tx)))] H := hΨ
      have hD : va_D (fun q => q ∈ [m0, aN, aH, aS, aT]) [(m0, .inr (6, [.ref aN, .ref aH, .int (nI (rRecK kept)), .ref aS, .int (nI fil), .int (nI ty), .ref aT, .int (nI at_), .int (nI nu)])), (aN, .inl (xcI G, 10276, .inl (nf (rCo (updN N 10173 0) 24 False 0 0)))), (aH, .inl (xcI G, 41104, .inl (nf (rRecH Hs N kept)))), (aS, .inl (xcI G, 10276, .inl (nf Sl))), (aT, .inl (xcC G, 60, .inl (nf tx)))] := (hdis.to rfl)
      refine W.eq (g2 := F0 m 42 ls [.int (nI ((updN N 10173 0) 10171))]) rfl ?_
      have eR : rmFin (N, Hs, Sl, tx, kept, fil, ty, at_, nu) = (nI ((updN N 10173 0) 10171), rCo (updN N 10173 0) 24 False 0 0, (rRecH Hs N kept), Sl, tx, (rRecK kept), fil, ty, at_, nu) := by rw [rmFin, if_neg c_4, if_neg c_14]
      exact xend_i () hx hb hr hk hS (fun _ h => h) dX6_finish_42 (by rw [eR]) (by rw [eR]; exact hP) (Nat.le_refl _) (Nat.le_refl _)
    · refine lv_bipush (v := (-3)) hx hb dX6_finish_17 (by decide) ?_
      have eR : rmFin (N, Hs, Sl, tx, kept, fil, ty, at_, nu) = ((-3), N, Hs, Sl, tx, kept, fil, ty, at_, nu) := by rw [rmFin, if_neg c_4, if_pos c_14]
      exact xend_i () hx hb hr hk hS (fun _ h => h) dX6_finish_19 (by rw [eR]) (by rw [eR]; exact hP) (Nat.le_refl _) (Nat.le_refl _)
  · refine lv_bipush (v := (-4)) hx hb dX6_finish_7 (by decide) ?_
    have eR : rmFin (N, Hs, Sl, tx, kept, fil, ty, at_, nu) = ((-4), N, Hs, Sl, tx, kept, fil, ty, at_, nu) := by rw [rmFin, if_pos c_4]
    exact xend_i () hx hb hr hk hS (fun _ h => h) dX6_finish_9 (by rw [eR]) (by rw [eR]; exact hP) (Nat.le_refl _) (Nat.le_refl _)

theorem hw_X6_abandon_f7 : Cond.fieldLink RX6 7 "TailVectorsModel" "now" "[I" ∈ wsX6_abandon := by decide +kernel
theorem hi_X6_abandon_RX6 : ∀ w ∈ u_ws RX6 TX6 9, w ∈ wsX6_abandon := by decide +kernel
set_option maxHeartbeats 4000000 in
set_option maxRecDepth 100000 in
theorem c_X6_abandon (l : Launch) (G : xG) (m0 : Nat) (aN : Nat) (aH : Nat) (aS : Nat) (aT : Nat) (N : Nat → Nat) (Hs : Nat → Nat) (Sl : Nat → Nat) (tx : Nat → Nat) (kept : Nat) (fil : Nat) (ty : Nat) (at_ : Nat) (nu : Nat) (hN : ∀ j, N j < 2 ^ 24) (hdis : xDis (xB0 G) [m0, aN, aH, aS, aT]) (hev : 1 ≤ N 10171) (hev2 : N 10171 ≤ 24) (hrows : ∀ v, v ≤ 24 → N (403 * v) ≤ 300) (hwin : ∀ v, v < N 10171 → N (10075 + 4 * v + 2) + rLen N v ≤ N (403 * v)) (hM : N 10172 < 2 ^ 23) (hk4 : kept ≤ 4) (htx : ∀ j, tx j < 65536) (hty : ty ≤ 60) (hfil : fil < 2) : Met l yX6_abandon wsX6_abandon ({ frames := 1, cells := 0, slots := 0, locals := 21 } : Room) (xPc G [.ref m0] (fun H => va_P G.1 vwCl [(m0, .inr (6, [.ref aN, .ref aH, .int (nI kept), .ref aS, .int (nI fil), .int (nI ty), .ref aT, .int (nI at_), .int (nI nu)])), (aN, .inl (xcI G, 10276, .inl (nf N))), (aH, .inl (xcI G, 41104, .inl (nf Hs))), (aS, .inl (xcI G, 10276, .inl (nf Sl))), (aT, .inl (xcC G, 60, .inl (nf tx)))] H)) (xQ (σ := Unit) (fun _ => some (.int ((rmAba (N, Hs, Sl, tx, kept, fil, ty, at_, nu)).1))) (fun _ H => va_P G.1 vwCl [(m0, .inr (6, [.ref aN, .ref aH, .int (nI ((rmAba (N, Hs, Sl, tx, kept, fil, ty, at_, nu)).2.2.2.2.2.1)), .ref aS, .int (nI ((rmAba (N, Hs, Sl, tx, kept, fil, ty, at_, nu)).2.2.2.2.2.2.1)), .int (nI ((rmAba (N, Hs, Sl, tx, kept, fil, ty, at_, nu)).2.2.2.2.2.2.2.1)), .ref aT, .int (nI ((rmAba (N, Hs, Sl, tx, kept, fil, ty, at_, nu)).2.2.2.2.2.2.2.2.1)), .int (nI ((rmAba (N, Hs, Sl, tx, kept, fil, ty, at_, nu)).2.2.2.2.2.2.2.2.2))])), (aN, .inl (xcI G, 10276, .inl (nf ((rmAba (N, Hs, Sl, tx, kept, fil, ty, at_, nu)).2.1)))), (aH, .inl (xcI G, 41104, .inl (nf ((rmAba (N, Hs, Sl, tx, kept, fil, ty, at_, nu)).2.2.1)))), (aS, .inl (xcI G, 10276, .inl (nf ((rmAba (N, Hs, Sl, tx, kept, fil, ty, at_, nu)).2.2.2.1)))), (aT, .inl (xcC G, 60, .inl (nf ((rmAba (N, Hs, Sl, tx, kept, fil, ty, at_, nu)).2.2.2.2.1))))] H) (fun q => q ∈ [m0, aN, aH, aS, aT])) 0 0 (fun q => q ∈ [m0, aN, aH, aS, aT]) := by
  refine xMet (cc := cX6_abandon) (nL := 1) (ret := (some (.int))) (by decide) rfl (Nat.le_of_ble_eq_true rfl) ?_
  intro p e s m below meth c S hr hk hnm hE hP ls hl
  obtain ⟨hx, hb, hml, hown, hts⟩ := id S
  have hown : s.vm.findClass RX6 = some m.cls := hown
  have hK := hE.1
  have hS : va_S (fun q => q ∈ [m0, aN, aH, aS, aT]) s.heap s.heap [] := va_S.rf
  have hA : ∀ q, (fun q => q ∈ [m0, aN, aH, aS, aT]) q → xB0 G ≤ q := hdis.2
  have hP : va_P G.1 vwCl [(m0, .inr (6, [.ref aN, .ref aH, .int (nI kept), .ref aS, .int (nI fil), .int (nI ty), .ref aT, .int (nI at_), .int (nI nu)])), (aN, .inl (xcI G, 10276, .inl (nf N))), (aH, .inl (xcI G, 41104, .inl (nf Hs))), (aS, .inl (xcI G, 10276, .inl (nf Sl))), (aT, .inl (xcC G, 60, .inl (nf tx)))] s.heap := hP
  have hD : va_D (fun q => q ∈ [m0, aN, aH, aS, aT]) [(m0, .inr (6, [.ref aN, .ref aH, .int (nI kept), .ref aS, .int (nI fil), .int (nI ty), .ref aT, .int (nI at_), .int (nI nu)])), (aN, .inl (xcI G, 10276, .inl (nf N))), (aH, .inl (xcI G, 41104, .inl (nf Hs))), (aS, .inl (xcI G, 10276, .inl (nf Sl))), (aT, .inl (xcC G, 60, .inl (nf tx)))] := (hdis.to rfl)
  have hl : lv_has ls 1 [(0, .ref m0)] := hl
  refine lv_aload_n hx hb dX6_abandon_0 rfl (lv_at hl 0 rfl) ?_
  refine xrd (xrunV (As := []) (rest := []) S (c_X6_noEdit l G m0 aN aH aS aT N Hs Sl tx kept fil ty at_ nu hN) (cwV 0 hts gX6_abandon_X6_noEdit rfl rfl rfl (by decide +kernel) ⟨Nat.le_of_ble_eq_true rfl, Nat.le_of_ble_eq_true rfl⟩) hE hS hA 0 6 hP rfl rfl rfl hP rfl rfl hl.1 (Nat.le_of_ble_eq_true rfl) dX6_abandon_1 ⟨Nat.le_of_ble_eq_true rfl, Nat.le_of_ble_eq_true rfl⟩) ?_
  refine b_if_eq (tgt := 10) hx hb dX6_abandon_4 (by decide) (fun c_4 => ?_) (fun c_4 => ?_)
  · refine lv_aload_n hx hb dX6_abandon_10 rfl (lv_at hl 0 rfl) ?_
    refine xwr (xrunV (As := []) (rest := []) S (c_X6_record l G m0 aN aH aS aT N Hs Sl tx kept fil ty at_ nu hN hdis hk4) (cwV 0 hts gX6_abandon_X6_record rfl rfl rfl (by decide +kernel) ⟨Nat.le_of_ble_eq_true rfl, Nat.le_of_ble_eq_true rfl⟩) hE hS hA 0 6 hP rfl rfl rfl hP rfl rfl hl.1 (Nat.le_of_ble_eq_true rfl) dX6_abandon_11 ⟨Nat.le_of_ble_eq_true rfl, Nat.le_of_ble_eq_true rfl⟩) hS (fun _ h => h) (fun _ h => h) (fun uw_ H locs hΨ hz hkp hS => ?_)
    have hP : va_P G.1 vwCl [(m0, .inr (6, [.ref aN, .ref aH, .int (nI (rRecK kept)), .ref aS, .int (nI fil), .int (nI ty), .ref aT, .int (nI at_), .int (nI nu)])), (aN, .inl (xcI G, 10276, .inl (nf N))), (aH, .inl (xcI G, 41104, .inl (nf (rRecH Hs N kept)))), (aS, .inl (xcI G, 10276, .inl (nf Sl))), (aT, .inl (xcC G, 60, .inl (nf tx)))] H := hΨ
    have hD : va_D (fun q => q ∈ [m0, aN, aH, aS, aT]) [(m0, .inr (6, [.ref aN, .ref aH, .int (nI (rRecK kept)), .ref aS, .int (nI fil), .int (nI ty), .ref aT, .int (nI at_), .int (nI nu)])), (aN, .inl (xcI G, 10276, .inl (nf N))), (aH, .inl (xcI G, 41104, .inl (nf (rRecH Hs N kept)))), (aS, .inl (xcI G, 10276, .inl (nf Sl))), (aT, .inl (xcC G, 60, .inl (nf tx)))] := (hdis.to rfl)
    refine W.eq (g2 := F0 m 14 ls []) rfl ?_
    refine lv_aload_n hx hb dX6_abandon_14 rfl (lv_at hl 0 rfl) ?_
    refine va_get (D := G.1) (ci := 6) (v := .ref aN) (C := RX6) (T := TX6) (N := 9) hx hb hts hi_X6_abandon_RX6 hown hK hP 0 rfl rfl 0 (by decide) (hts _ hw_X6_abandon_f7) (fun _ h9 => h9) rfl dX6_abandon_15 ?_
    refine lv_sipush (v := nI 10173) hx hb dX6_abandon_18 (by decide) ?_
    refine lv_iconst (v := nI 0) hx hb dX6_abandon_21 rfl ?_
    refine n_iast hx hb hK hP hD hS 1 0 rfl rfl (by omega) (by decide) dX6_abandon_22 (fun H locs hP hD hS => ?_)
    have hP : va_P G.1 vwCl [(m0, .inr (6, [.ref aN, .ref aH, .int (nI (rRecK kept)), .ref aS, .int (nI fil), .int (nI ty), .ref aT, .int (nI at_), .int (nI nu)])), (aN, .inl (xcI G, 10276, .inl (nf (updN N 10173 0)))), (aH, .inl (xcI G, 41104, .inl (nf (rRecH Hs N kept)))), (aS, .inl (xcI G, 10276, .inl (nf Sl))), (aT, .inl (xcC G, 60, .inl (nf tx)))] H := hP
    have hD : va_D (fun q => q ∈ [m0, aN, aH, aS, aT]) [(m0, .inr (6, [.ref aN, .ref aH, .int (nI (rRecK kept)), .ref aS, .int (nI fil), .int (nI ty), .ref aT, .int (nI at_), .int (nI nu)])), (aN, .inl (xcI G, 10276, .inl (nf (updN N 10173 0)))), (aH, .inl (xcI G, 41104, .inl (nf (rRecH Hs N kept)))), (aS, .inl (xcI G, 10276, .inl (nf Sl))), (aT, .inl (xcC G, 60, .inl (nf tx)))] := hD
    refine lv_aload_n hx hb dX6_abandon_23 rfl (lv_at hl 0 rfl) ?_
    refine lv_bipush (v := nI 24) hx hb dX6_abandon_24 (by decide) ?_
    refine xrd (xrunV (As := [.int (nI 24)]) (rest := []) S (c_X6_rowLength l G m0 aN aH aS aT (updN N 10173 0) (rRecH Hs N kept) Sl tx (rRecK kept) fil ty at_ nu 24 (updN_lt hN (by omega)) (by omega)) (cwV 1 hts gX6_abandon_X6_rowLength rfl rfl rfl (by decide +kernel) ⟨Nat.le_of_ble_eq_true rfl, Nat.le_of_ble_eq_true rfl⟩) hE hS hA 0 6 hP rfl rfl rfl hP rfl rfl hl.1 (Nat.le_of_ble_eq_true rfl) dX6_abandon_26 ⟨Nat.le_of_ble_eq_true rfl, Nat.le_of_ble_eq_true rfl⟩) ?_
    have eR : rmAba (N, Hs, Sl, tx, kept, fil, ty, at_, nu) = (nI ((updN N 10173 0) (403 * 24)), updN N 10173 0, rRecH Hs N kept, Sl, tx, rRecK kept, fil, ty, at_, nu) := by rw [rmAba, if_neg c_4]
    exact xend_i () hx hb hr hk hS (fun _ h => h) dX6_abandon_29 (by rw [eR]) (by rw [eR]; exact hP) (Nat.le_refl _) (Nat.le_refl _)
  · refine lv_bipush (v := (-4)) hx hb dX6_abandon_7 (by decide) ?_
    have eR : rmAba (N, Hs, Sl, tx, kept, fil, ty, at_, nu) = ((-4), N, Hs, Sl, tx, kept, fil, ty, at_, nu) := by rw [rmAba, if_pos c_4]
    exact xend_i () hx hb hr hk hS (fun _ h => h) dX6_abandon_9 (by rw [eR]) (by rw [eR]; exact hP) (Nat.le_refl _) (Nat.le_refl _)

theorem hw_X6_clearText_f102 : Cond.fieldLink RX6 102 "TailVectorsModel" "typed" "I" ∈ wsX6_clearText := by decide +kernel
theorem hi_X6_clearText_RX6 : ∀ w ∈ u_ws RX6 TX6 9, w ∈ wsX6_clearText := by decide +kernel
set_option maxHeartbeats 4000000 in
set_option maxRecDepth 100000 in
theorem c_X6_clearText (l : Launch) (G : xG) (m0 : Nat) (aN : Nat) (aH : Nat) (aS : Nat) (aT : Nat) (N : Nat → Nat) (Hs : Nat → Nat) (Sl : Nat → Nat) (tx : Nat → Nat) (kept : Nat) (fil : Nat) (ty : Nat) (at_ : Nat) (nu : Nat) (hN : ∀ j, N j < 2 ^ 24) (hdis : xDis (xB0 G) [m0, aN, aH, aS, aT]) (hev : 1 ≤ N 10171) (hev2 : N 10171 ≤ 24) (hrows : ∀ v, v ≤ 24 → N (403 * v) ≤ 300) (hwin : ∀ v, v < N 10171 → N (10075 + 4 * v + 2) + rLen N v ≤ N (403 * v)) (hM : N 10172 < 2 ^ 23) (hk4 : kept ≤ 4) (htx : ∀ j, tx j < 65536) (hty : ty ≤ 60) (hfil : fil < 2) : Met l yX6_clearText wsX6_clearText ({ frames := 0, cells := 0, slots := 0, locals := 0 } : Room) (xPc G [.ref m0] (fun H => va_P G.1 vwCl [(m0, .inr (6, [.ref aN, .ref aH, .int (nI kept), .ref aS, .int (nI fil), .int (nI ty), .ref aT, .int (nI at_), .int (nI nu)])), (aN, .inl (xcI G, 10276, .inl (nf N))), (aH, .inl (xcI G, 41104, .inl (nf Hs))), (aS, .inl (xcI G, 10276, .inl (nf Sl))), (aT, .inl (xcC G, 60, .inl (nf tx)))] H)) (xQ (σ := Unit) (fun _ => some (.int ((rmClr (N, Hs, Sl, tx, kept, fil, ty, at_, nu)).1))) (fun _ H => va_P G.1 vwCl [(m0, .inr (6, [.ref aN, .ref aH, .int (nI ((rmClr (N, Hs, Sl, tx, kept, fil, ty, at_, nu)).2.2.2.2.2.1)), .ref aS, .int (nI ((rmClr (N, Hs, Sl, tx, kept, fil, ty, at_, nu)).2.2.2.2.2.2.1)), .int (nI ((rmClr (N, Hs, Sl, tx, kept, fil, ty, at_, nu)).2.2.2.2.2.2.2.1)), .ref aT, .int (nI ((rmClr (N, Hs, Sl, tx, kept, fil, ty, at_, nu)).2.2.2.2.2.2.2.2.1)), .int (nI ((rmClr (N, Hs, Sl, tx, kept, fil, ty, at_, nu)).2.2.2.2.2.2.2.2.2))])), (aN, .inl (xcI G, 10276, .inl (nf ((rmClr (N, Hs, Sl, tx, kept, fil, ty, at_, nu)).2.1)))), (aH, .inl (xcI G, 41104, .inl (nf ((rmClr (N, Hs, Sl, tx, kept, fil, ty, at_, nu)).2.2.1)))), (aS, .inl (xcI G, 10276, .inl (nf ((rmClr (N, Hs, Sl, tx, kept, fil, ty, at_, nu)).2.2.2.1)))), (aT, .inl (xcC G, 60, .inl (nf ((rmClr (N, Hs, Sl, tx, kept, fil, ty, at_, nu)).2.2.2.2.1))))] H) (fun q => q ∈ [m0, aN, aH, aS, aT])) 0 0 (fun q => q ∈ [m0, aN, aH, aS, aT]) := by
  refine xMet (cc := cX6_clearText) (nL := 2) (ret := (some (.int))) (by decide) rfl (Nat.le_of_ble_eq_true rfl) ?_
  intro p e s m below meth c S hr hk hnm hE hP ls hl
  obtain ⟨hx, hb, hml, hown, hts⟩ := id S
  have hown : s.vm.findClass RX6 = some m.cls := hown
  have hK := hE.1
  have hS : va_S (fun q => q ∈ [m0, aN, aH, aS, aT]) s.heap s.heap [] := va_S.rf
  have hA : ∀ q, (fun q => q ∈ [m0, aN, aH, aS, aT]) q → xB0 G ≤ q := hdis.2
  have hP : va_P G.1 vwCl [(m0, .inr (6, [.ref aN, .ref aH, .int (nI kept), .ref aS, .int (nI fil), .int (nI ty), .ref aT, .int (nI at_), .int (nI nu)])), (aN, .inl (xcI G, 10276, .inl (nf N))), (aH, .inl (xcI G, 41104, .inl (nf Hs))), (aS, .inl (xcI G, 10276, .inl (nf Sl))), (aT, .inl (xcC G, 60, .inl (nf tx)))] s.heap := hP
  have hD : va_D (fun q => q ∈ [m0, aN, aH, aS, aT]) [(m0, .inr (6, [.ref aN, .ref aH, .int (nI kept), .ref aS, .int (nI fil), .int (nI ty), .ref aT, .int (nI at_), .int (nI nu)])), (aN, .inl (xcI G, 10276, .inl (nf N))), (aH, .inl (xcI G, 41104, .inl (nf Hs))), (aS, .inl (xcI G, 10276, .inl (nf Sl))), (aT, .inl (xcC G, 60, .inl (nf tx)))] := (hdis.to rfl)
  have hl : lv_has ls 2 [(0, .ref m0)] := hl
  refine lv_aload_n hx hb dX6_clearText_0 rfl (lv_at hl 0 rfl) ?_
  refine va_get (D := G.1) (ci := 6) (v := .int (nI ty)) (C := RX6) (T := TX6) (N := 9) hx hb hts hi_X6_clearText_RX6 hown hK hP 0 rfl rfl 5 (by decide) (hts _ hw_X6_clearText_f102) (fun _ h9 => h9) rfl dX6_clearText_1 ?_
  refine lv_istore_n (lv' := [(1, .int (nI ty)), (0, .ref m0)]) hx hb dX6_clearText_4 rfl hl (by decide) rfl (fun ls hl => ?_)
  refine lv_aload_n hx hb dX6_clearText_5 rfl (lv_at hl 1 rfl) ?_
  refine lv_iconst (v := nI 0) hx hb dX6_clearText_6 rfl ?_
  refine va_put (D := G.1) (ci := 6) (v := .int (nI 0)) (ty := .int) (C := RX6) (T := TX6) (N := 9) hx hb hts hi_X6_clearText_RX6 tyX6 tyX6_ok nmX6 hown hK hP hD hS 0 rfl rfl 5 (by decide) (hts _ hw_X6_clearText_f102) (fun _ h9 => h9) rfl (by decide +kernel) rfl rfl (Nat.le_of_ble_eq_true rfl) dX6_clearText_7 (fun H locs hP hD hS => ?_)
  have hP : va_P G.1 vwCl [(m0, .inr (6, [.ref aN, .ref aH, .int (nI kept), .ref aS, .int (nI fil), .int (nI 0), .ref aT, .int (nI at_), .int (nI nu)])), (aN, .inl (xcI G, 10276, .inl (nf N))), (aH, .inl (xcI G, 41104, .inl (nf Hs))), (aS, .inl (xcI G, 10276, .inl (nf Sl))), (aT, .inl (xcC G, 60, .inl (nf tx)))] H := hP
  have hD : va_D (fun q => q ∈ [m0, aN, aH, aS, aT]) [(m0, .inr (6, [.ref aN, .ref aH, .int (nI kept), .ref aS, .int (nI fil), .int (nI 0), .ref aT, .int (nI at_), .int (nI nu)])), (aN, .inl (xcI G, 10276, .inl (nf N))), (aH, .inl (xcI G, 41104, .inl (nf Hs))), (aS, .inl (xcI G, 10276, .inl (nf Sl))), (aT, .inl (xcC G, 60, .inl (nf tx)))] := hD
  refine lv_iload_n hx hb dX6_clearText_10 rfl (lv_at hl 0 rfl) ?_
  have eR : rmClr (N, Hs, Sl, tx, kept, fil, ty, at_, nu) = (nI ty, N, Hs, Sl, tx, kept, fil, 0, at_, nu) := by rfl
  exact xend_i () hx hb hr hk hS (fun _ h => h) dX6_clearText_11 (by rw [eR]) (by rw [eR]; exact hP) (Nat.le_refl _) (Nat.le_refl _)

theorem hw_X6_undo_f39 : Cond.fieldLink RX6 39 "TailVectorsModel" "kept" "I" ∈ wsX6_undo := by decide +kernel
theorem hi_X6_undo_RX6 : ∀ w ∈ u_ws RX6 TX6 9, w ∈ wsX6_undo := by decide +kernel
theorem hw_X6_undo_f7 : Cond.fieldLink RX6 7 "TailVectorsModel" "now" "[I" ∈ wsX6_undo := by decide +kernel
theorem hw_X6_undo_f14 : Cond.fieldLink RX6 14 "TailVectorsModel" "history" "[I" ∈ wsX6_undo := by decide +kernel
set_option maxHeartbeats 4000000 in
set_option maxRecDepth 100000 in
theorem c_X6_undo (l : Launch) (G : xG) (m0 : Nat) (aN : Nat) (aH : Nat) (aS : Nat) (aT : Nat) (N : Nat → Nat) (Hs : Nat → Nat) (Sl : Nat → Nat) (tx : Nat → Nat) (kept : Nat) (fil : Nat) (ty : Nat) (at_ : Nat) (nu : Nat) (hN : ∀ j, N j < 2 ^ 24) (hdis : xDis (xB0 G) [m0, aN, aH, aS, aT]) (hev : 1 ≤ N 10171) (hev2 : N 10171 ≤ 24) (hrows : ∀ v, v ≤ 24 → N (403 * v) ≤ 300) (hwin : ∀ v, v < N 10171 → N (10075 + 4 * v + 2) + rLen N v ≤ N (403 * v)) (hM : N 10172 < 2 ^ 23) (hk4 : kept ≤ 4) (htx : ∀ j, tx j < 65536) (hty : ty ≤ 60) (hfil : fil < 2) : Met l yX6_undo wsX6_undo ({ frames := 0, cells := 0, slots := 0, locals := 0 } : Room) (xPc G [.ref m0] (fun H => va_P G.1 vwCl [(m0, .inr (6, [.ref aN, .ref aH, .int (nI kept), .ref aS, .int (nI fil), .int (nI ty), .ref aT, .int (nI at_), .int (nI nu)])), (aN, .inl (xcI G, 10276, .inl (nf N))), (aH, .inl (xcI G, 41104, .inl (nf Hs))), (aS, .inl (xcI G, 10276, .inl (nf Sl))), (aT, .inl (xcC G, 60, .inl (nf tx)))] H)) (xQ (σ := Unit) (fun _ => some (.int ((rmUnd (N, Hs, Sl, tx, kept, fil, ty, at_, nu)).1))) (fun _ H => va_P G.1 vwCl [(m0, .inr (6, [.ref aN, .ref aH, .int (nI ((rmUnd (N, Hs, Sl, tx, kept, fil, ty, at_, nu)).2.2.2.2.2.1)), .ref aS, .int (nI ((rmUnd (N, Hs, Sl, tx, kept, fil, ty, at_, nu)).2.2.2.2.2.2.1)), .int (nI ((rmUnd (N, Hs, Sl, tx, kept, fil, ty, at_, nu)).2.2.2.2.2.2.2.1)), .ref aT, .int (nI ((rmUnd (N, Hs, Sl, tx, kept, fil, ty, at_, nu)).2.2.2.2.2.2.2.2.1)), .int (nI ((rmUnd (N, Hs, Sl, tx, kept, fil, ty, at_, nu)).2.2.2.2.2.2.2.2.2))])), (aN, .inl (xcI G, 10276, .inl (nf ((rmUnd (N, Hs, Sl, tx, kept, fil, ty, at_, nu)).2.1)))), (aH, .inl (xcI G, 41104, .inl (nf ((rmUnd (N, Hs, Sl, tx, kept, fil, ty, at_, nu)).2.2.1)))), (aS, .inl (xcI G, 10276, .inl (nf ((rmUnd (N, Hs, Sl, tx, kept, fil, ty, at_, nu)).2.2.2.1)))), (aT, .inl (xcC G, 60, .inl (nf ((rmUnd (N, Hs, Sl, tx, kept, fil, ty, at_, nu)).2.2.2.2.1))))] H) (fun q => q ∈ [m0, aN, aH, aS, aT])) 0 0 (fun q => q ∈ [m0, aN, aH, aS, aT]) := by
  refine xMet (cc := cX6_undo) (nL := 2) (ret := (some (.int))) (by decide) rfl (Nat.le_of_ble_eq_true rfl) ?_
  intro p e s m below meth c S hr hk hnm hE hP ls hl
  obtain ⟨hx, hb, hml, hown, hts⟩ := id S
  have hown : s.vm.findClass RX6 = some m.cls := hown
  have hK := hE.1
  have hS : va_S (fun q => q ∈ [m0, aN, aH, aS, aT]) s.heap s.heap [] := va_S.rf
  have hA : ∀ q, (fun q => q ∈ [m0, aN, aH, aS, aT]) q → xB0 G ≤ q := hdis.2
  have hP : va_P G.1 vwCl [(m0, .inr (6, [.ref aN, .ref aH, .int (nI kept), .ref aS, .int (nI fil), .int (nI ty), .ref aT, .int (nI at_), .int (nI nu)])), (aN, .inl (xcI G, 10276, .inl (nf N))), (aH, .inl (xcI G, 41104, .inl (nf Hs))), (aS, .inl (xcI G, 10276, .inl (nf Sl))), (aT, .inl (xcC G, 60, .inl (nf tx)))] s.heap := hP
  have hD : va_D (fun q => q ∈ [m0, aN, aH, aS, aT]) [(m0, .inr (6, [.ref aN, .ref aH, .int (nI kept), .ref aS, .int (nI fil), .int (nI ty), .ref aT, .int (nI at_), .int (nI nu)])), (aN, .inl (xcI G, 10276, .inl (nf N))), (aH, .inl (xcI G, 41104, .inl (nf Hs))), (aS, .inl (xcI G, 10276, .inl (nf Sl))), (aT, .inl (xcC G, 60, .inl (nf tx)))] := (hdis.to rfl)
  have hl : lv_has ls 2 [(0, .ref m0)] := hl
  refine lv_aload_n hx hb dX6_undo_0 rfl (lv_at hl 0 rfl) ?_
  refine va_get (D := G.1) (ci := 6) (v := .int (nI kept)) (C := RX6) (T := TX6) (N := 9) hx hb hts hi_X6_undo_RX6 hown hK hP 0 rfl rfl 2 (by decide) (hts _ hw_X6_undo_f39) (fun _ h9 => h9) rfl dX6_undo_1 ?_
  refine n_if_ne (tgt := 10) hx hb (by omega) dX6_undo_4 (by decide) (fun c_4 => ?_) (fun c_4 => ?_)
  · refine lv_aload_n hx hb dX6_undo_10 rfl (lv_at hl 0 rfl) ?_
    refine lv_dup hx hb dX6_undo_11 rfl ?_
    refine va_get (D := G.1) (ci := 6) (v := .int (nI kept)) (C := RX6) (T := TX6) (N := 9) hx hb hts hi_X6_undo_RX6 hown hK hP 0 rfl rfl 2 (by decide) (hts _ hw_X6_undo_f39) (fun _ h9 => h9) rfl dX6_undo_12 ?_
    refine lv_iconst (v := nI 1) hx hb dX6_undo_15 rfl ?_
    refine n_isub hx hb (by omega) dX6_undo_16 ?_
    refine va_put (D := G.1) (ci := 6) (v := .int (nI (kept - 1))) (ty := .int) (C := RX6) (T := TX6) (N := 9) hx hb hts hi_X6_undo_RX6 tyX6 tyX6_ok nmX6 hown hK hP hD hS 0 rfl rfl 2 (by decide) (hts _ hw_X6_undo_f39) (fun _ h9 => h9) rfl (by decide +kernel) rfl rfl (Nat.le_of_ble_eq_true rfl) dX6_undo_17 (fun H locs hP hD hS => ?_)
    have hP : va_P G.1 vwCl [(m0, .inr (6, [.ref aN, .ref aH, .int (nI (kept - 1)), .ref aS, .int (nI fil), .int (nI ty), .ref aT, .int (nI at_), .int (nI nu)])), (aN, .inl (xcI G, 10276, .inl (nf N))), (aH, .inl (xcI G, 41104, .inl (nf Hs))), (aS, .inl (xcI G, 10276, .inl (nf Sl))), (aT, .inl (xcC G, 60, .inl (nf tx)))] H := hP
    have hD : va_D (fun q => q ∈ [m0, aN, aH, aS, aT]) [(m0, .inr (6, [.ref aN, .ref aH, .int (nI (kept - 1)), .ref aS, .int (nI fil), .int (nI ty), .ref aT, .int (nI at_), .int (nI nu)])), (aN, .inl (xcI G, 10276, .inl (nf N))), (aH, .inl (xcI G, 41104, .inl (nf Hs))), (aS, .inl (xcI G, 10276, .inl (nf Sl))), (aT, .inl (xcC G, 60, .inl (nf tx)))] := hD
    refine lv_iconst (v := nI 0) hx hb dX6_undo_20 rfl ?_
    refine lv_istore_n (lv' := [(1, .int (nI 0)), (0, .ref m0)]) hx hb dX6_undo_21 rfl hl (by decide) rfl (fun ls hl => ?_)
    have hP : va_P G.1 vwCl [(m0, .inr (6, [.ref aN, .ref aH, .int (nI (kept - 1)), .ref aS, .int (nI fil), .int (nI ty), .ref aT, .int (nI at_), .int (nI nu)])), (aN, .inl (xcI G, 10276, .inl (nf (cpA N (fun z => Hs (10276 * (kept - 1) + z)) 0)))), (aH, .inl (xcI G, 41104, .inl (nf Hs))), (aS, .inl (xcI G, 10276, .inl (nf Sl))), (aT, .inl (xcC G, 60, .inl (nf tx)))] H := (by rw [cpA_0]; exact hP)
    have hl : lv_has ls 2 [(1, .int (nI 0)), (0, .ref m0)] := lv_sub hl [0, 1] rfl
    refine xloop (σ := Nat) (C := (fun (x_ : Nat) H locs ls => (x_ ≤ 10276) ∧ va_P G.1 vwCl [(m0, .inr (6, [.ref aN, .ref aH, .int (nI (kept - 1)), .ref aS, .int (nI fil), .int (nI ty), .ref aT, .int (nI at_), .int (nI nu)])), (aN, .inl (xcI G, 10276, .inl (nf (cpA N (fun z => Hs (10276 * (kept - 1) + z)) x_)))), (aH, .inl (xcI G, 41104, .inl (nf Hs))), (aS, .inl (xcI G, 10276, .inl (nf Sl))), (aT, .inl (xcC G, 60, .inl (nf tx)))] H ∧ va_S (fun q => q ∈ [m0, aN, aH, aS, aT]) s.heap H locs ∧ lv_has ls 2 [(1, .int (nI x_)), (0, .ref m0)])) (μ := (fun (x_ : Nat) => 10276 - x_)) (W' := fun H locs ls => W p l e _ s m _ below meth c H locs _ _ _ (F0 m 22 ls [])) ?_ 0 _ _ _ ⟨(by (try dsimp only); omega), hP, hS, hl⟩
    intro x_ H locs ls hC ih_22
    obtain ⟨i, rfl⟩ : ∃ z, z = x_ := ⟨x_, rfl⟩
    obtain ⟨hi, hP, hS, hl⟩ := hC
    replace hi : i ≤ 10276 := hi
    replace hP : va_P G.1 vwCl [(m0, .inr (6, [.ref aN, .ref aH, .int (nI (kept - 1)), .ref aS, .int (nI fil), .int (nI ty), .ref aT, .int (nI at_), .int (nI nu)])), (aN, .inl (xcI G, 10276, .inl (nf (cpA N (fun z => Hs (10276 * (kept - 1) + z)) i)))), (aH, .inl (xcI G, 41104, .inl (nf Hs))), (aS, .inl (xcI G, 10276, .inl (nf Sl))), (aT, .inl (xcC G, 60, .inl (nf tx)))] H := hP
    have hD : va_D (fun q => q ∈ [m0, aN, aH, aS, aT]) [(m0, .inr (6, [.ref aN, .ref aH, .int (nI (kept - 1)), .ref aS, .int (nI fil), .int (nI ty), .ref aT, .int (nI at_), .int (nI nu)])), (aN, .inl (xcI G, 10276, .inl (nf (cpA N (fun z => Hs (10276 * (kept - 1) + z)) i)))), (aH, .inl (xcI G, 41104, .inl (nf Hs))), (aS, .inl (xcI G, 10276, .inl (nf Sl))), (aT, .inl (xcC G, 60, .inl (nf tx)))] := (hdis.to rfl)
    replace hl : lv_has ls 2 [(1, .int (nI i)), (0, .ref m0)] := hl
    refine id ?_
    refine lv_iload_n hx hb dX6_undo_22 rfl (lv_at hl 0 rfl) ?_
    refine lv_sipush (v := nI 10276) hx hb dX6_undo_23 (by decide) ?_
    refine n_icmp_ge (tgt := 56) hx hb (by omega) (by omega) dX6_undo_26 (by decide) (fun c_26 => ?_) (fun c_26 => ?_)
    · have hi9 : i = 10276 := by omega
      subst hi9
      refine lv_aload_n hx hb dX6_undo_56 rfl (lv_at hl 1 rfl) ?_
      refine va_get (D := G.1) (ci := 6) (v := .int (nI (kept - 1))) (C := RX6) (T := TX6) (N := 9) hx hb hts hi_X6_undo_RX6 hown hK hP 0 rfl rfl 2 (by decide) (hts _ hw_X6_undo_f39) (fun _ h9 => h9) rfl dX6_undo_57 ?_
      have eR : rmUnd (N, Hs, Sl, tx, kept, fil, ty, at_, nu) = (nI (kept - 1), cpA N (fun z => Hs (10276 * (kept - 1) + z)) 10276, Hs, Sl, tx, kept - 1, fil, ty, at_, nu) := by rw [rmUnd, if_neg c_4]
      exact xend_i () hx hb hr hk hS (fun _ h => h) dX6_undo_60 (by rw [eR]) (by rw [eR]; exact hP) (Nat.le_refl _) (Nat.le_refl _)
    · refine lv_aload_n hx hb dX6_undo_29 rfl (lv_at hl 1 rfl) ?_
      refine va_get (D := G.1) (ci := 6) (v := .ref aN) (C := RX6) (T := TX6) (N := 9) hx hb hts hi_X6_undo_RX6 hown hK hP 0 rfl rfl 0 (by decide) (hts _ hw_X6_undo_f7) (fun _ h9 => h9) rfl dX6_undo_30 ?_
      refine lv_iload_n hx hb dX6_undo_33 rfl (lv_at hl 0 rfl) ?_
      refine lv_aload_n hx hb dX6_undo_34 rfl (lv_at hl 1 rfl) ?_
      refine va_get (D := G.1) (ci := 6) (v := .ref aH) (C := RX6) (T := TX6) (N := 9) hx hb hts hi_X6_undo_RX6 hown hK hP 0 rfl rfl 1 (by decide) (hts _ hw_X6_undo_f14) (fun _ h9 => h9) rfl dX6_undo_35 ?_
      refine lv_sipush (v := nI 10276) hx hb dX6_undo_38 (by decide) ?_
      refine lv_aload_n hx hb dX6_undo_41 rfl (lv_at hl 1 rfl) ?_
      refine va_get (D := G.1) (ci := 6) (v := .int (nI (kept - 1))) (C := RX6) (T := TX6) (N := 9) hx hb hts hi_X6_undo_RX6 hown hK hP 0 rfl rfl 2 (by decide) (hts _ hw_X6_undo_f39) (fun _ h9 => h9) rfl dX6_undo_42 ?_
      refine n_imul hx hb dX6_undo_45 ?_
      refine lv_iload_n hx hb dX6_undo_46 rfl (lv_at hl 0 rfl) ?_
      refine n_iadd hx hb dX6_undo_47 ?_
      refine n_iald hx hb hK hP 2 0 rfl rfl (by omega) (by decide) dX6_undo_48 ?_
      refine n_iast hx hb hK hP hD hS 1 0 rfl rfl (by omega) (by decide) dX6_undo_49 (fun H locs hP hD hS => ?_)
      have hP : va_P G.1 vwCl [(m0, .inr (6, [.ref aN, .ref aH, .int (nI (kept - 1)), .ref aS, .int (nI fil), .int (nI ty), .ref aT, .int (nI at_), .int (nI nu)])), (aN, .inl (xcI G, 10276, .inl (nf (updN (cpA N (fun z => Hs (10276 * (kept - 1) + z)) i) i (Hs ((10276 * (kept - 1)) + i)))))), (aH, .inl (xcI G, 41104, .inl (nf Hs))), (aS, .inl (xcI G, 10276, .inl (nf Sl))), (aT, .inl (xcC G, 60, .inl (nf tx)))] H := hP
      have hD : va_D (fun q => q ∈ [m0, aN, aH, aS, aT]) [(m0, .inr (6, [.ref aN, .ref aH, .int (nI (kept - 1)), .ref aS, .int (nI fil), .int (nI ty), .ref aT, .int (nI at_), .int (nI nu)])), (aN, .inl (xcI G, 10276, .inl (nf (updN (cpA N (fun z => Hs (10276 * (kept - 1) + z)) i) i (Hs ((10276 * (kept - 1)) + i)))))), (aH, .inl (xcI G, 41104, .inl (nf Hs))), (aS, .inl (xcI G, 10276, .inl (nf Sl))), (aT, .inl (xcC G, 60, .inl (nf tx)))] := hD
      refine lv_iinc (v := nI (i + 1)) (lv' := [(1, .int (nI (i + 1))), (0, .ref m0)]) hx hb dX6_undo_50 hl (k := 0) rfl (nI_add i 1) (by decide) rfl (fun ls hl => ?_)
      refine lv_goto (tgt := 22) hx hb dX6_undo_53 (by decide) ?_
      have hl : lv_has ls 2 [(1, .int (nI (i + 1))), (0, .ref m0)] := lv_sub hl [0, 1] rfl
      have hP : va_P G.1 vwCl [(m0, .inr (6, [.ref aN, .ref aH, .int (nI (kept - 1)), .ref aS, .int (nI fil), .int (nI ty), .ref aT, .int (nI at_), .int (nI nu)])), (aN, .inl (xcI G, 10276, .inl (nf (cpA N (fun z => Hs (10276 * (kept - 1) + z)) (i + 1))))), (aH, .inl (xcI G, 41104, .inl (nf Hs))), (aS, .inl (xcI G, 10276, .inl (nf Sl))), (aT, .inl (xcC G, 60, .inl (nf tx)))] H := (by rw [← cpA_s]; exact hP)
      exact ih_22 (i + 1) _ _ _ (by show 10276 - (i + 1) < 10276 - i; omega) ⟨(by (try dsimp only); omega), hP, hS, hl⟩
  · refine lv_bipush (v := (-5)) hx hb dX6_undo_7 (by decide) ?_
    have eR : rmUnd (N, Hs, Sl, tx, kept, fil, ty, at_, nu) = ((-5), N, Hs, Sl, tx, kept, fil, ty, at_, nu) := by rw [rmUnd, if_pos c_4]
    exact xend_i () hx hb hr hk hS (fun _ h => h) dX6_undo_9 (by rw [eR]) (by rw [eR]; exact hP) (Nat.le_refl _) (Nat.le_refl _)

theorem hw_X6_keep_f120 : Cond.fieldLink RX6 120 "TailVectorsModel" "isFilled" "Z" ∈ wsX6_keep := by decide +kernel
theorem hi_X6_keep_RX6 : ∀ w ∈ u_ws RX6 TX6 9, w ∈ wsX6_keep := by decide +kernel
theorem hw_X6_keep_f7 : Cond.fieldLink RX6 7 "TailVectorsModel" "now" "[I" ∈ wsX6_keep := by decide +kernel
theorem hw_X6_keep_f17 : Cond.fieldLink RX6 17 "TailVectorsModel" "slot" "[I" ∈ wsX6_keep := by decide +kernel
set_option maxHeartbeats 4000000 in
set_option maxRecDepth 100000 in
theorem c_X6_keep (l : Launch) (G : xG) (m0 : Nat) (aN : Nat) (aH : Nat) (aS : Nat) (aT : Nat) (N : Nat → Nat) (Hs : Nat → Nat) (Sl : Nat → Nat) (tx : Nat → Nat) (kept : Nat) (fil : Nat) (ty : Nat) (at_ : Nat) (nu : Nat) (hN : ∀ j, N j < 2 ^ 24) (hdis : xDis (xB0 G) [m0, aN, aH, aS, aT]) (hev : 1 ≤ N 10171) (hev2 : N 10171 ≤ 24) (hrows : ∀ v, v ≤ 24 → N (403 * v) ≤ 300) (hwin : ∀ v, v < N 10171 → N (10075 + 4 * v + 2) + rLen N v ≤ N (403 * v)) (hM : N 10172 < 2 ^ 23) (hk4 : kept ≤ 4) (htx : ∀ j, tx j < 65536) (hty : ty ≤ 60) (hfil : fil < 2) : Met l yX6_keep wsX6_keep ({ frames := 0, cells := 0, slots := 0, locals := 0 } : Room) (xPc G [.ref m0] (fun H => va_P G.1 vwCl [(m0, .inr (6, [.ref aN, .ref aH, .int (nI kept), .ref aS, .int (nI fil), .int (nI ty), .ref aT, .int (nI at_), .int (nI nu)])), (aN, .inl (xcI G, 10276, .inl (nf N))), (aH, .inl (xcI G, 41104, .inl (nf Hs))), (aS, .inl (xcI G, 10276, .inl (nf Sl))), (aT, .inl (xcC G, 60, .inl (nf tx)))] H)) (xQ (σ := Unit) (fun _ => some (.int ((rmKee (N, Hs, Sl, tx, kept, fil, ty, at_, nu)).1))) (fun _ H => va_P G.1 vwCl [(m0, .inr (6, [.ref aN, .ref aH, .int (nI ((rmKee (N, Hs, Sl, tx, kept, fil, ty, at_, nu)).2.2.2.2.2.1)), .ref aS, .int (nI ((rmKee (N, Hs, Sl, tx, kept, fil, ty, at_, nu)).2.2.2.2.2.2.1)), .int (nI ((rmKee (N, Hs, Sl, tx, kept, fil, ty, at_, nu)).2.2.2.2.2.2.2.1)), .ref aT, .int (nI ((rmKee (N, Hs, Sl, tx, kept, fil, ty, at_, nu)).2.2.2.2.2.2.2.2.1)), .int (nI ((rmKee (N, Hs, Sl, tx, kept, fil, ty, at_, nu)).2.2.2.2.2.2.2.2.2))])), (aN, .inl (xcI G, 10276, .inl (nf ((rmKee (N, Hs, Sl, tx, kept, fil, ty, at_, nu)).2.1)))), (aH, .inl (xcI G, 41104, .inl (nf ((rmKee (N, Hs, Sl, tx, kept, fil, ty, at_, nu)).2.2.1)))), (aS, .inl (xcI G, 10276, .inl (nf ((rmKee (N, Hs, Sl, tx, kept, fil, ty, at_, nu)).2.2.2.1)))), (aT, .inl (xcC G, 60, .inl (nf ((rmKee (N, Hs, Sl, tx, kept, fil, ty, at_, nu)).2.2.2.2.1))))] H) (fun q => q ∈ [m0, aN, aH, aS, aT])) 0 0 (fun q => q ∈ [m0, aN, aH, aS, aT]) := by
  refine xMet (cc := cX6_keep) (nL := 2) (ret := (some (.int))) (by decide) rfl (Nat.le_of_ble_eq_true rfl) ?_
  intro p e s m below meth c S hr hk hnm hE hP ls hl
  obtain ⟨hx, hb, hml, hown, hts⟩ := id S
  have hown : s.vm.findClass RX6 = some m.cls := hown
  have hK := hE.1
  have hS : va_S (fun q => q ∈ [m0, aN, aH, aS, aT]) s.heap s.heap [] := va_S.rf
  have hA : ∀ q, (fun q => q ∈ [m0, aN, aH, aS, aT]) q → xB0 G ≤ q := hdis.2
  have hP : va_P G.1 vwCl [(m0, .inr (6, [.ref aN, .ref aH, .int (nI kept), .ref aS, .int (nI fil), .int (nI ty), .ref aT, .int (nI at_), .int (nI nu)])), (aN, .inl (xcI G, 10276, .inl (nf N))), (aH, .inl (xcI G, 41104, .inl (nf Hs))), (aS, .inl (xcI G, 10276, .inl (nf Sl))), (aT, .inl (xcC G, 60, .inl (nf tx)))] s.heap := hP
  have hD : va_D (fun q => q ∈ [m0, aN, aH, aS, aT]) [(m0, .inr (6, [.ref aN, .ref aH, .int (nI kept), .ref aS, .int (nI fil), .int (nI ty), .ref aT, .int (nI at_), .int (nI nu)])), (aN, .inl (xcI G, 10276, .inl (nf N))), (aH, .inl (xcI G, 41104, .inl (nf Hs))), (aS, .inl (xcI G, 10276, .inl (nf Sl))), (aT, .inl (xcC G, 60, .inl (nf tx)))] := (hdis.to rfl)
  have hl : lv_has ls 2 [(0, .ref m0)] := hl
  refine lv_iconst (v := nI 0) hx hb dX6_keep_0 rfl ?_
  refine lv_istore_n (lv' := [(1, .int (nI 0)), (0, .ref m0)]) hx hb dX6_keep_1 rfl hl (by decide) rfl (fun ls hl => ?_)
  have hP : va_P G.1 vwCl [(m0, .inr (6, [.ref aN, .ref aH, .int (nI kept), .ref aS, .int (nI fil), .int (nI ty), .ref aT, .int (nI at_), .int (nI nu)])), (aN, .inl (xcI G, 10276, .inl (nf N))), (aH, .inl (xcI G, 41104, .inl (nf Hs))), (aS, .inl (xcI G, 10276, .inl (nf (cpA Sl N 0)))), (aT, .inl (xcC G, 60, .inl (nf tx)))] s.heap := (by rw [cpA_0]; exact hP)
  have hl : lv_has ls 2 [(1, .int (nI 0)), (0, .ref m0)] := lv_sub hl [0, 1] rfl
  refine xloop (σ := Nat) (C := (fun (x_ : Nat) H locs ls => (x_ ≤ 10276) ∧ va_P G.1 vwCl [(m0, .inr (6, [.ref aN, .ref aH, .int (nI kept), .ref aS, .int (nI fil), .int (nI ty), .ref aT, .int (nI at_), .int (nI nu)])), (aN, .inl (xcI G, 10276, .inl (nf N))), (aH, .inl (xcI G, 41104, .inl (nf Hs))), (aS, .inl (xcI G, 10276, .inl (nf (cpA Sl N x_)))), (aT, .inl (xcC G, 60, .inl (nf tx)))] H ∧ va_S (fun q => q ∈ [m0, aN, aH, aS, aT]) s.heap H locs ∧ lv_has ls 2 [(1, .int (nI x_)), (0, .ref m0)])) (μ := (fun (x_ : Nat) => 10276 - x_)) (W' := fun H locs ls => W p l e _ s m _ below meth c H locs _ _ _ (F0 m 2 ls [])) ?_ 0 _ _ _ ⟨(by (try dsimp only); omega), hP, hS, hl⟩
  intro x_ H locs ls hC ih_2
  obtain ⟨i, rfl⟩ : ∃ z, z = x_ := ⟨x_, rfl⟩
  obtain ⟨hi, hP, hS, hl⟩ := hC
  replace hi : i ≤ 10276 := hi
  replace hP : va_P G.1 vwCl [(m0, .inr (6, [.ref aN, .ref aH, .int (nI kept), .ref aS, .int (nI fil), .int (nI ty), .ref aT, .int (nI at_), .int (nI nu)])), (aN, .inl (xcI G, 10276, .inl (nf N))), (aH, .inl (xcI G, 41104, .inl (nf Hs))), (aS, .inl (xcI G, 10276, .inl (nf (cpA Sl N i)))), (aT, .inl (xcC G, 60, .inl (nf tx)))] H := hP
  have hD : va_D (fun q => q ∈ [m0, aN, aH, aS, aT]) [(m0, .inr (6, [.ref aN, .ref aH, .int (nI kept), .ref aS, .int (nI fil), .int (nI ty), .ref aT, .int (nI at_), .int (nI nu)])), (aN, .inl (xcI G, 10276, .inl (nf N))), (aH, .inl (xcI G, 41104, .inl (nf Hs))), (aS, .inl (xcI G, 10276, .inl (nf (cpA Sl N i)))), (aT, .inl (xcC G, 60, .inl (nf tx)))] := (hdis.to rfl)
  replace hl : lv_has ls 2 [(1, .int (nI i)), (0, .ref m0)] := hl
  refine id ?_
  refine lv_iload_n hx hb dX6_keep_2 rfl (lv_at hl 0 rfl) ?_
  refine lv_sipush (v := nI 10276) hx hb dX6_keep_3 (by decide) ?_
  refine n_icmp_ge (tgt := 27) hx hb (by omega) (by omega) dX6_keep_6 (by decide) (fun c_6 => ?_) (fun c_6 => ?_)
  · have hi9 : i = 10276 := by omega
    subst hi9
    refine lv_aload_n hx hb dX6_keep_27 rfl (lv_at hl 1 rfl) ?_
    refine lv_iconst (v := nI 1) hx hb dX6_keep_28 rfl ?_
    refine va_put (D := G.1) (ci := 6) (v := .int (nI 1)) (ty := .boolean) (C := RX6) (T := TX6) (N := 9) hx hb hts hi_X6_keep_RX6 tyX6 tyX6_ok nmX6 hown hK hP hD hS 0 rfl rfl 4 (by decide) (hts _ hw_X6_keep_f120) (fun _ h9 => h9) rfl (by decide +kernel) (by decide) rfl (Nat.le_of_ble_eq_true rfl) dX6_keep_29 (fun H locs hP hD hS => ?_)
    have hP : va_P G.1 vwCl [(m0, .inr (6, [.ref aN, .ref aH, .int (nI kept), .ref aS, .int (nI 1), .int (nI ty), .ref aT, .int (nI at_), .int (nI nu)])), (aN, .inl (xcI G, 10276, .inl (nf N))), (aH, .inl (xcI G, 41104, .inl (nf Hs))), (aS, .inl (xcI G, 10276, .inl (nf (cpA Sl N 10276)))), (aT, .inl (xcC G, 60, .inl (nf tx)))] H := hP
    have hD : va_D (fun q => q ∈ [m0, aN, aH, aS, aT]) [(m0, .inr (6, [.ref aN, .ref aH, .int (nI kept), .ref aS, .int (nI 1), .int (nI ty), .ref aT, .int (nI at_), .int (nI nu)])), (aN, .inl (xcI G, 10276, .inl (nf N))), (aH, .inl (xcI G, 41104, .inl (nf Hs))), (aS, .inl (xcI G, 10276, .inl (nf (cpA Sl N 10276)))), (aT, .inl (xcC G, 60, .inl (nf tx)))] := hD
    refine lv_aload_n hx hb dX6_keep_32 rfl (lv_at hl 1 rfl) ?_
    refine va_get (D := G.1) (ci := 6) (v := .ref aN) (C := RX6) (T := TX6) (N := 9) hx hb hts hi_X6_keep_RX6 hown hK hP 0 rfl rfl 0 (by decide) (hts _ hw_X6_keep_f7) (fun _ h9 => h9) rfl dX6_keep_33 ?_
    refine lv_sipush (v := nI 10172) hx hb dX6_keep_36 (by decide) ?_
    refine n_iald hx hb hK hP 1 0 rfl rfl (by omega) (by decide) dX6_keep_39 ?_
    have eR : rmKee (N, Hs, Sl, tx, kept, fil, ty, at_, nu) = (nI (N 10172), N, Hs, cpA Sl N 10276, tx, kept, 1, ty, at_, nu) := by rfl
    exact xend_i () hx hb hr hk hS (fun _ h => h) dX6_keep_40 (by rw [eR]) (by rw [eR]; exact hP) (Nat.le_refl _) (Nat.le_refl _)
  · refine lv_aload_n hx hb dX6_keep_9 rfl (lv_at hl 1 rfl) ?_
    refine va_get (D := G.1) (ci := 6) (v := .ref aS) (C := RX6) (T := TX6) (N := 9) hx hb hts hi_X6_keep_RX6 hown hK hP 0 rfl rfl 3 (by decide) (hts _ hw_X6_keep_f17) (fun _ h9 => h9) rfl dX6_keep_10 ?_
    refine lv_iload_n hx hb dX6_keep_13 rfl (lv_at hl 0 rfl) ?_
    refine lv_aload_n hx hb dX6_keep_14 rfl (lv_at hl 1 rfl) ?_
    refine va_get (D := G.1) (ci := 6) (v := .ref aN) (C := RX6) (T := TX6) (N := 9) hx hb hts hi_X6_keep_RX6 hown hK hP 0 rfl rfl 0 (by decide) (hts _ hw_X6_keep_f7) (fun _ h9 => h9) rfl dX6_keep_15 ?_
    refine lv_iload_n hx hb dX6_keep_18 rfl (lv_at hl 0 rfl) ?_
    refine n_iald hx hb hK hP 1 0 rfl rfl (by omega) (by decide) dX6_keep_19 ?_
    refine n_iast hx hb hK hP hD hS 3 0 rfl rfl (by omega) (by decide) dX6_keep_20 (fun H locs hP hD hS => ?_)
    have hP : va_P G.1 vwCl [(m0, .inr (6, [.ref aN, .ref aH, .int (nI kept), .ref aS, .int (nI fil), .int (nI ty), .ref aT, .int (nI at_), .int (nI nu)])), (aN, .inl (xcI G, 10276, .inl (nf N))), (aH, .inl (xcI G, 41104, .inl (nf Hs))), (aS, .inl (xcI G, 10276, .inl (nf (updN (cpA Sl N i) i (N i))))), (aT, .inl (xcC G, 60, .inl (nf tx)))] H := hP
    have hD : va_D (fun q => q ∈ [m0, aN, aH, aS, aT]) [(m0, .inr (6, [.ref aN, .ref aH, .int (nI kept), .ref aS, .int (nI fil), .int (nI ty), .ref aT, .int (nI at_), .int (nI nu)])), (aN, .inl (xcI G, 10276, .inl (nf N))), (aH, .inl (xcI G, 41104, .inl (nf Hs))), (aS, .inl (xcI G, 10276, .inl (nf (updN (cpA Sl N i) i (N i))))), (aT, .inl (xcC G, 60, .inl (nf tx)))] := hD
    refine lv_iinc (v := nI (i + 1)) (lv' := [(1, .int (nI (i + 1))), (0, .ref m0)]) hx hb dX6_keep_21 hl (k := 0) rfl (nI_add i 1) (by decide) rfl (fun ls hl => ?_)
    refine lv_goto (tgt := 2) hx hb dX6_keep_24 (by decide) ?_
    have hl : lv_has ls 2 [(1, .int (nI (i + 1))), (0, .ref m0)] := lv_sub hl [0, 1] rfl
    have hP : va_P G.1 vwCl [(m0, .inr (6, [.ref aN, .ref aH, .int (nI kept), .ref aS, .int (nI fil), .int (nI ty), .ref aT, .int (nI at_), .int (nI nu)])), (aN, .inl (xcI G, 10276, .inl (nf N))), (aH, .inl (xcI G, 41104, .inl (nf Hs))), (aS, .inl (xcI G, 10276, .inl (nf (cpA Sl N (i + 1))))), (aT, .inl (xcC G, 60, .inl (nf tx)))] H := (by rw [← cpA_s]; exact hP)
    exact ih_2 (i + 1) _ _ _ (by show 10276 - (i + 1) < 10276 - i; omega) ⟨(by (try dsimp only); omega), hP, hS, hl⟩

theorem hw_X6_restore_f120 : Cond.fieldLink RX6 120 "TailVectorsModel" "isFilled" "Z" ∈ wsX6_restore := by decide +kernel
theorem hi_X6_restore_RX6 : ∀ w ∈ u_ws RX6 TX6 9, w ∈ wsX6_restore := by decide +kernel
theorem hw_X6_restore_f7 : Cond.fieldLink RX6 7 "TailVectorsModel" "now" "[I" ∈ wsX6_restore := by decide +kernel
theorem hw_X6_restore_f17 : Cond.fieldLink RX6 17 "TailVectorsModel" "slot" "[I" ∈ wsX6_restore := by decide +kernel
set_option maxHeartbeats 4000000 in
set_option maxRecDepth 100000 in
theorem c_X6_restore (l : Launch) (G : xG) (m0 : Nat) (aN : Nat) (aH : Nat) (aS : Nat) (aT : Nat) (N : Nat → Nat) (Hs : Nat → Nat) (Sl : Nat → Nat) (tx : Nat → Nat) (kept : Nat) (fil : Nat) (ty : Nat) (at_ : Nat) (nu : Nat) (hN : ∀ j, N j < 2 ^ 24) (hdis : xDis (xB0 G) [m0, aN, aH, aS, aT]) (hev : 1 ≤ N 10171) (hev2 : N 10171 ≤ 24) (hrows : ∀ v, v ≤ 24 → N (403 * v) ≤ 300) (hwin : ∀ v, v < N 10171 → N (10075 + 4 * v + 2) + rLen N v ≤ N (403 * v)) (hM : N 10172 < 2 ^ 23) (hk4 : kept ≤ 4) (htx : ∀ j, tx j < 65536) (hty : ty ≤ 60) (hfil : fil < 2) : Met l yX6_restore wsX6_restore ({ frames := 1, cells := 0, slots := 0, locals := 21 } : Room) (xPc G [.ref m0] (fun H => va_P G.1 vwCl [(m0, .inr (6, [.ref aN, .ref aH, .int (nI kept), .ref aS, .int (nI fil), .int (nI ty), .ref aT, .int (nI at_), .int (nI nu)])), (aN, .inl (xcI G, 10276, .inl (nf N))), (aH, .inl (xcI G, 41104, .inl (nf Hs))), (aS, .inl (xcI G, 10276, .inl (nf Sl))), (aT, .inl (xcC G, 60, .inl (nf tx)))] H)) (xQ (σ := Unit) (fun _ => some (.int ((rmRes (N, Hs, Sl, tx, kept, fil, ty, at_, nu)).1))) (fun _ H => va_P G.1 vwCl [(m0, .inr (6, [.ref aN, .ref aH, .int (nI ((rmRes (N, Hs, Sl, tx, kept, fil, ty, at_, nu)).2.2.2.2.2.1)), .ref aS, .int (nI ((rmRes (N, Hs, Sl, tx, kept, fil, ty, at_, nu)).2.2.2.2.2.2.1)), .int (nI ((rmRes (N, Hs, Sl, tx, kept, fil, ty, at_, nu)).2.2.2.2.2.2.2.1)), .ref aT, .int (nI ((rmRes (N, Hs, Sl, tx, kept, fil, ty, at_, nu)).2.2.2.2.2.2.2.2.1)), .int (nI ((rmRes (N, Hs, Sl, tx, kept, fil, ty, at_, nu)).2.2.2.2.2.2.2.2.2))])), (aN, .inl (xcI G, 10276, .inl (nf ((rmRes (N, Hs, Sl, tx, kept, fil, ty, at_, nu)).2.1)))), (aH, .inl (xcI G, 41104, .inl (nf ((rmRes (N, Hs, Sl, tx, kept, fil, ty, at_, nu)).2.2.1)))), (aS, .inl (xcI G, 10276, .inl (nf ((rmRes (N, Hs, Sl, tx, kept, fil, ty, at_, nu)).2.2.2.1)))), (aT, .inl (xcC G, 60, .inl (nf ((rmRes (N, Hs, Sl, tx, kept, fil, ty, at_, nu)).2.2.2.2.1))))] H) (fun q => q ∈ [m0, aN, aH, aS, aT])) 0 0 (fun q => q ∈ [m0, aN, aH, aS, aT]) := by
  refine xMet (cc := cX6_restore) (nL := 2) (ret := (some (.int))) (by decide) rfl (Nat.le_of_ble_eq_true rfl) ?_
  intro p e s m below meth c S hr hk hnm hE hP ls hl
  obtain ⟨hx, hb, hml, hown, hts⟩ := id S
  have hown : s.vm.findClass RX6 = some m.cls := hown
  have hK := hE.1
  have hS : va_S (fun q => q ∈ [m0, aN, aH, aS, aT]) s.heap s.heap [] := va_S.rf
  have hA : ∀ q, (fun q => q ∈ [m0, aN, aH, aS, aT]) q → xB0 G ≤ q := hdis.2
  have hP : va_P G.1 vwCl [(m0, .inr (6, [.ref aN, .ref aH, .int (nI kept), .ref aS, .int (nI fil), .int (nI ty), .ref aT, .int (nI at_), .int (nI nu)])), (aN, .inl (xcI G, 10276, .inl (nf N))), (aH, .inl (xcI G, 41104, .inl (nf Hs))), (aS, .inl (xcI G, 10276, .inl (nf Sl))), (aT, .inl (xcC G, 60, .inl (nf tx)))] s.heap := hP
  have hD : va_D (fun q => q ∈ [m0, aN, aH, aS, aT]) [(m0, .inr (6, [.ref aN, .ref aH, .int (nI kept), .ref aS, .int (nI fil), .int (nI ty), .ref aT, .int (nI at_), .int (nI nu)])), (aN, .inl (xcI G, 10276, .inl (nf N))), (aH, .inl (xcI G, 41104, .inl (nf Hs))), (aS, .inl (xcI G, 10276, .inl (nf Sl))), (aT, .inl (xcC G, 60, .inl (nf tx)))] := (hdis.to rfl)
  have hl : lv_has ls 2 [(0, .ref m0)] := hl
  refine lv_aload_n hx hb dX6_restore_0 rfl (lv_at hl 0 rfl) ?_
  refine va_get (D := G.1) (ci := 6) (v := .int (nI fil)) (C := RX6) (T := TX6) (N := 9) hx hb hts hi_X6_restore_RX6 hown hK hP 0 rfl rfl 4 (by decide) (hts _ hw_X6_restore_f120) (fun _ h9 => h9) rfl dX6_restore_1 ?_
  refine n_if_ne (tgt := 10) hx hb (by omega) dX6_restore_4 (by decide) (fun c_4 => ?_) (fun c_4 => ?_)
  · refine lv_aload_n hx hb dX6_restore_10 rfl (lv_at hl 0 rfl) ?_
    refine xwr (xrunV (As := []) (rest := []) S (c_X6_record l G m0 aN aH aS aT N Hs Sl tx kept fil ty at_ nu hN hdis hk4) (cwV 0 hts gX6_restore_X6_record rfl rfl rfl (by decide +kernel) ⟨Nat.le_of_ble_eq_true rfl, Nat.le_of_ble_eq_true rfl⟩) hE hS hA 0 6 hP rfl rfl rfl hP rfl rfl hl.1 (Nat.le_of_ble_eq_true rfl) dX6_restore_11 ⟨Nat.le_of_ble_eq_true rfl, Nat.le_of_ble_eq_true rfl⟩) hS (fun _ h => h) (fun _ h => h) (fun uw_ H locs hΨ hz hkp hS => ?_)
    have hP : va_P G.1 vwCl [(m0, .inr (6, [.ref aN, .ref aH, .int (nI (rRecK kept)), .ref aS, .int (nI fil), .int (nI ty), .ref aT, .int (nI at_), .int (nI nu)])), (aN, .inl (xcI G, 10276, .inl (nf N))), (aH, .inl (xcI G, 41104, .inl (nf (rRecH Hs N kept)))), (aS, .inl (xcI G, 10276, .inl (nf Sl))), (aT, .inl (xcC G, 60, .inl (nf tx)))] H := hΨ
    have hD : va_D (fun q => q ∈ [m0, aN, aH, aS, aT]) [(m0, .inr (6, [.ref aN, .ref aH, .int (nI (rRecK kept)), .ref aS, .int (nI fil), .int (nI ty), .ref aT, .int (nI at_), .int (nI nu)])), (aN, .inl (xcI G, 10276, .inl (nf N))), (aH, .inl (xcI G, 41104, .inl (nf (rRecH Hs N kept)))), (aS, .inl (xcI G, 10276, .inl (nf Sl))), (aT, .inl (xcC G, 60, .inl (nf tx)))] := (hdis.to rfl)
    refine W.eq (g2 := F0 m 14 ls []) rfl ?_
    refine lv_iconst (v := nI 0) hx hb dX6_restore_14 rfl ?_
    refine lv_istore_n (lv' := [(1, .int (nI 0)), (0, .ref m0)]) hx hb dX6_restore_15 rfl hl (by decide) rfl (fun ls hl => ?_)
    have hP : va_P G.1 vwCl [(m0, .inr (6, [.ref aN, .ref aH, .int (nI (rRecK kept)), .ref aS, .int (nI fil), .int (nI ty), .ref aT, .int (nI at_), .int (nI nu)])), (aN, .inl (xcI G, 10276, .inl (nf (cpA N Sl 0)))), (aH, .inl (xcI G, 41104, .inl (nf (rRecH Hs N kept)))), (aS, .inl (xcI G, 10276, .inl (nf Sl))), (aT, .inl (xcC G, 60, .inl (nf tx)))] H := (by rw [cpA_0]; exact hP)
    have hl : lv_has ls 2 [(1, .int (nI 0)), (0, .ref m0)] := lv_sub hl [0, 1] rfl
    refine xloop (σ := Nat) (C := (fun (x_ : Nat) H locs ls => (x_ ≤ 10276) ∧ va_P G.1 vwCl [(m0, .inr (6, [.ref aN, .ref aH, .int (nI (rRecK kept)), .ref aS, .int (nI fil), .int (nI ty), .ref aT, .int (nI at_), .int (nI nu)])), (aN, .inl (xcI G, 10276, .inl (nf (cpA N Sl x_)))), (aH, .inl (xcI G, 41104, .inl (nf (rRecH Hs N kept)))), (aS, .inl (xcI G, 10276, .inl (nf Sl))), (aT, .inl (xcC G, 60, .inl (nf tx)))] H ∧ va_S (fun q => q ∈ [m0, aN, aH, aS, aT]) s.heap H locs ∧ lv_has ls 2 [(1, .int (nI x_)), (0, .ref m0)])) (μ := (fun (x_ : Nat) => 10276 - x_)) (W' := fun H locs ls => W p l e _ s m _ below meth c H locs _ _ _ (F0 m 16 ls [])) ?_ 0 _ _ _ ⟨(by (try dsimp only); omega), hP, hS, hl⟩
    intro x_ H locs ls hC ih_16
    obtain ⟨i, rfl⟩ : ∃ z, z = x_ := ⟨x_, rfl⟩
    obtain ⟨hi, hP, hS, hl⟩ := hC
    replace hi : i ≤ 10276 := hi
    replace hP : va_P G.1 vwCl [(m0, .inr (6, [.ref aN, .ref aH, .int (nI (rRecK kept)), .ref aS, .int (nI fil), .int (nI ty), .ref aT, .int (nI at_), .int (nI nu)])), (aN, .inl (xcI G, 10276, .inl (nf (cpA N Sl i)))), (aH, .inl (xcI G, 41104, .inl (nf (rRecH Hs N kept)))), (aS, .inl (xcI G, 10276, .inl (nf Sl))), (aT, .inl (xcC G, 60, .inl (nf tx)))] H := hP
    have hD : va_D (fun q => q ∈ [m0, aN, aH, aS, aT]) [(m0, .inr (6, [.ref aN, .ref aH, .int (nI (rRecK kept)), .ref aS, .int (nI fil), .int (nI ty), .ref aT, .int (nI at_), .int (nI nu)])), (aN, .inl (xcI G, 10276, .inl (nf (cpA N Sl i)))), (aH, .inl (xcI G, 41104, .inl (nf (rRecH Hs N kept)))), (aS, .inl (xcI G, 10276, .inl (nf Sl))), (aT, .inl (xcC G, 60, .inl (nf tx)))] := (hdis.to rfl)
    replace hl : lv_has ls 2 [(1, .int (nI i)), (0, .ref m0)] := hl
    refine id ?_
    refine lv_iload_n hx hb dX6_restore_16 rfl (lv_at hl 0 rfl) ?_
    refine lv_sipush (v := nI 10276) hx hb dX6_restore_17 (by decide) ?_
    refine n_icmp_ge (tgt := 41) hx hb (by omega) (by omega) dX6_restore_20 (by decide) (fun c_20 => ?_) (fun c_20 => ?_)
    · have hi9 : i = 10276 := by omega
      subst hi9
      refine lv_aload_n hx hb dX6_restore_41 rfl (lv_at hl 1 rfl) ?_
      refine va_get (D := G.1) (ci := 6) (v := .ref aN) (C := RX6) (T := TX6) (N := 9) hx hb hts hi_X6_restore_RX6 hown hK hP 0 rfl rfl 0 (by decide) (hts _ hw_X6_restore_f7) (fun _ h9 => h9) rfl dX6_restore_42 ?_
      refine lv_sipush (v := nI 10172) hx hb dX6_restore_45 (by decide) ?_
      refine n_iald hx hb hK hP 1 0 rfl rfl (by omega) (by decide) dX6_restore_48 ?_
      have eR : rmRes (N, Hs, Sl, tx, kept, fil, ty, at_, nu) = (nI ((cpA N Sl 10276) 10172), cpA N Sl 10276, rRecH Hs N kept, Sl, tx, rRecK kept, fil, ty, at_, nu) := by rw [rmRes, if_neg c_4]
      exact xend_i () hx hb hr hk hS (fun _ h => h) dX6_restore_49 (by rw [eR]) (by rw [eR]; exact hP) (Nat.le_refl _) (Nat.le_refl _)
    · refine lv_aload_n hx hb dX6_restore_23 rfl (lv_at hl 1 rfl) ?_
      refine va_get (D := G.1) (ci := 6) (v := .ref aN) (C := RX6) (T := TX6) (N := 9) hx hb hts hi_X6_restore_RX6 hown hK hP 0 rfl rfl 0 (by decide) (hts _ hw_X6_restore_f7) (fun _ h9 => h9) rfl dX6_restore_24 ?_
      refine lv_iload_n hx hb dX6_restore_27 rfl (lv_at hl 0 rfl) ?_
      refine lv_aload_n hx hb dX6_restore_28 rfl (lv_at hl 1 rfl) ?_
      refine va_get (D := G.1) (ci := 6) (v := .ref aS) (C := RX6) (T := TX6) (N := 9) hx hb hts hi_X6_restore_RX6 hown hK hP 0 rfl rfl 3 (by decide) (hts _ hw_X6_restore_f17) (fun _ h9 => h9) rfl dX6_restore_29 ?_
      refine lv_iload_n hx hb dX6_restore_32 rfl (lv_at hl 0 rfl) ?_
      refine n_iald hx hb hK hP 3 0 rfl rfl (by omega) (by decide) dX6_restore_33 ?_
      refine n_iast hx hb hK hP hD hS 1 0 rfl rfl (by omega) (by decide) dX6_restore_34 (fun H locs hP hD hS => ?_)
      have hP : va_P G.1 vwCl [(m0, .inr (6, [.ref aN, .ref aH, .int (nI (rRecK kept)), .ref aS, .int (nI fil), .int (nI ty), .ref aT, .int (nI at_), .int (nI nu)])), (aN, .inl (xcI G, 10276, .inl (nf (updN (cpA N Sl i) i (Sl i))))), (aH, .inl (xcI G, 41104, .inl (nf (rRecH Hs N kept)))), (aS, .inl (xcI G, 10276, .inl (nf Sl))), (aT, .inl (xcC G, 60, .inl (nf tx)))] H := hP
      have hD : va_D (fun q => q ∈ [m0, aN, aH, aS, aT]) [(m0, .inr (6, [.ref aN, .ref aH, .int (nI (rRecK kept)), .ref aS, .int (nI fil), .int (nI ty), .ref aT, .int (nI at_), .int (nI nu)])), (aN, .inl (xcI G, 10276, .inl (nf (updN (cpA N Sl i) i (Sl i))))), (aH, .inl (xcI G, 41104, .inl (nf (rRecH Hs N kept)))), (aS, .inl (xcI G, 10276, .inl (nf Sl))), (aT, .inl (xcC G, 60, .inl (nf tx)))] := hD
      refine lv_iinc (v := nI (i + 1)) (lv' := [(1, .int (nI (i + 1))), (0, .ref m0)]) hx hb dX6_restore_35 hl (k := 0) rfl (nI_add i 1) (by decide) rfl (fun ls hl => ?_)
      refine lv_goto (tgt := 16) hx hb dX6_restore_38 (by decide) ?_
      have hl : lv_has ls 2 [(1, .int (nI (i + 1))), (0, .ref m0)] := lv_sub hl [0, 1] rfl
      have hP : va_P G.1 vwCl [(m0, .inr (6, [.ref aN, .ref aH, .int (nI (rRecK kept)), .ref aS, .int (nI fil), .int (nI ty), .ref aT, .int (nI at_), .int (nI nu)])), (aN, .inl (xcI G, 10276, .inl (nf (cpA N Sl (i + 1))))), (aH, .inl (xcI G, 41104, .inl (nf (rRecH Hs N kept)))), (aS, .inl (xcI G, 10276, .inl (nf Sl))), (aT, .inl (xcC G, 60, .inl (nf tx)))] H := (by rw [← cpA_s]; exact hP)
      exact ih_16 (i + 1) _ _ _ (by show 10276 - (i + 1) < 10276 - i; omega) ⟨(by (try dsimp only); omega), hP, hS, hl⟩
  · refine lv_bipush (v := (-5)) hx hb dX6_restore_7 (by decide) ?_
    have eR : rmRes (N, Hs, Sl, tx, kept, fil, ty, at_, nu) = ((-5), N, Hs, Sl, tx, kept, fil, ty, at_, nu) := by rw [rmRes, if_pos c_4]
    exact xend_i () hx hb hr hk hS (fun _ h => h) dX6_restore_9 (by rw [eR]) (by rw [eR]; exact hP) (Nat.le_refl _) (Nat.le_refl _)
