abbrev RM : Type := (Nat → Nat) × (Nat → Nat) × (Nat → Nat) × (Nat → Nat) × Nat × Nat × Nat × Nat × Nat
theorem rCo_at {N : Nat → Nat} {f fi ma : Nat} {P : Prop} (hv : N 10171 < 24) (j : Nat) : rCo N f P fi ma j = if j = 10171 then N 10171 + 1 else if j = 10075 + 4 * N 10171 + 3 then ma else if j = 10075 + 4 * N 10171 + 2 then fi else if j = 10075 + 4 * N 10171 + 1 then bN P else if j = 10075 + 4 * N 10171 then 1 else if 403 * N 10171 ≤ j ∧ j < 403 * N 10171 + 403 then N (403 * f + (j - 403 * N 10171)) else N j := by
  unfold rCo
  (try dsimp only)
  by_cases h0 : j = 10171
  · subst h0
    rw [updN_s, if_pos rfl, updN_n (by omega), updN_n (by omega), updN_n (by omega), updN_n (by omega)]
    unfold cpyN
    rw [if_neg (by omega)]
  · rw [updN_n h0, if_neg h0]
    by_cases h1 : j = 10075 + 4 * N 10171 + 3
    · subst h1; rw [updN_s, if_pos rfl]
    · rw [updN_n h1, if_neg h1]
      by_cases h2 : j = 10075 + 4 * N 10171 + 2
      · subst h2; rw [updN_s, if_pos rfl]
      · rw [updN_n h2, if_neg h2]
        by_cases h3 : j = 10075 + 4 * N 10171 + 1
        · subst h3; rw [updN_s, if_pos rfl]
        · rw [updN_n h3, if_neg h3]
          by_cases h4 : j = 10075 + 4 * N 10171
          · subst h4; rw [updN_s, if_pos rfl]
          · rw [updN_n h4, if_neg h4]
            rfl
theorem bN_le (P : Prop) : bN P ≤ 1 := by unfold bN; split <;> omega
theorem rCo_lt {N : Nat → Nat} {f fi ma : Nat} {P : Prop} (hN : ∀ j, N j < 2 ^ 24) (hv : N 10171 < 24) (h1 : fi < 2 ^ 24) (h2 : ma < 2 ^ 24) (j : Nat) : rCo N f P fi ma j < 2 ^ 24 := by
  rw [rCo_at hv]
  have h3 := bN_le P
  split
  · omega
  · split
    · exact h2
    · split
      · exact h1
      · split
        · omega
        · split
          · omega
          · split
            · exact hN _
            · exact hN _
theorem rCo_len {N : Nat → Nat} {f fi ma : Nat} {P : Prop} (hv : N 10171 < 24) : rCo N f P fi ma (403 * N 10171) = N (403 * f) := by
  rw [rCo_at hv, if_neg (by omega), if_neg (by omega), if_neg (by omega), if_neg (by omega), if_neg (by omega), if_pos (by omega), Nat.sub_self]
  rfl
theorem rCo_made {N : Nat → Nat} {f fi ma : Nat} {P : Prop} (hv : N 10171 < 24) : rCo N f P fi ma 10172 = N 10172 := by
  rw [rCo_at hv, if_neg (by omega), if_neg (by omega), if_neg (by omega), if_neg (by omega), if_neg (by omega), if_neg (by omega)]
theorem xin_of1 {x : Int32} {n : Nat} (hn : n < 2 ^ 24) (h : nI 0 ≤ x ∧ x ≤ nI n - nI 1) : ∃ k : Nat, k < n ∧ x = nI k := by
  have h0 : ¬ x < 0 := Int32.not_lt.mpr h.1
  obtain ⟨j, hj, rfl⟩ := nI_of h0
  refine ⟨j, ?_, rfl⟩
  have h2 := h.2
  rw [Int32.le_iff_toInt_le, nI_toInt hj, pk_sub_toInt (by omega) (by omega)] at h2
  omega
abbrev rVl (x : Int32) : Prop := nI 0 ≤ x ∧ x ≤ nI 999
def cpA (A B : Nat → Nat) (i : Nat) : Nat → Nat := fun j => if j < i then B j else A j
theorem cpA_0 (A B : Nat → Nat) : cpA A B 0 = A := by
  funext j
  unfold cpA
  rw [if_neg (by omega)]
theorem cpA_s (A B : Nat → Nat) (i : Nat) : updN (cpA A B i) i (B i) = cpA A B (i + 1) := by
  funext j
  unfold updN cpA
  by_cases h : j = i
  · subst h
    rw [if_pos rfl, if_pos (by omega)]
  · rw [if_neg h]
    by_cases h2 : j < i
    · rw [if_pos h2, if_pos (by omega)]
    · rw [if_neg h2, if_neg (by omega)]
def clrN (N : Nat → Nat) (i : Nat) : Nat → Nat := fun j => if 10174 ≤ j ∧ j < 10174 + i then 0 else N j
theorem clrN_0 (N : Nat → Nat) : clrN N 0 = N := by
  funext j
  unfold clrN
  rw [if_neg (by omega)]
theorem clrN_s (N : Nat → Nat) (i : Nat) : updN (clrN N i) (10174 + i) 0 = clrN N (i + 1) := by
  funext j
  unfold updN clrN
  by_cases h : j = 10174 + i
  · subst h
    rw [if_pos rfl, if_pos (by omega)]
  · rw [if_neg h]
    by_cases h2 : 10174 ≤ j ∧ j < 10174 + i
    · rw [if_pos h2, if_pos (by omega)]
    · rw [if_neg h2, if_neg (by omega)]
/-! the reference's calls, as functions of what it holds -/
def rMa (N : Nat → Nat) (k d : Nat) : Nat := if N (10075 + 4 * k + 1) = 1 then rLen N k + d else 0
noncomputable def rmPushK (M : RM) (k y : Nat) : Int32 × RM := match M with
  | (N, Hs, Sl, tx, kept, fil, ty, at_, nu) =>
    if N 10171 = 24 ∨ (N (10075 + 4 * k + 2) + rLen N k = N (403 * k) ∧ N (10075 + 4 * k + 2) + rLen N k = 300) then (-3, M)
    else (nI (N 10171), (if N (10075 + 4 * k + 2) + rLen N k = N (403 * k) then rPu (rCo N k (N (10075 + 4 * k + 1) = 1) (N (10075 + 4 * k + 2)) (rMa N k 1)) (N 10171) y else rSe (rCo N k (N (10075 + 4 * k + 1) = 1) (N (10075 + 4 * k + 2)) (rMa N k 1)) (N 10171) (N (10075 + 4 * k + 2) + rLen N k) y), rRecH Hs N kept, Sl, tx, rRecK kept, fil, ty, at_, nu)
noncomputable def rmPush (M : RM) (v x : Int32) : Int32 × RM := if rNo M.1 v then (-1, M) else if ¬ rVl x then (-2, M) else rmPushK M v.toNatClampNeg x.toNatClampNeg

theorem rMa_lt {N : Nat → Nat} (hN : ∀ j, N j < 2 ^ 24) (k d : Nat) (h : rLen N k + d ≤ 301) : rMa N k d ≤ 301 := by unfold rMa; split <;> omega
set_option maxHeartbeats 4000000 in
set_option maxRecDepth 100000 in
theorem c_X6_push (l : Launch) (G : xG) (m0 : Nat) (aN : Nat) (aH : Nat) (aS : Nat) (aT : Nat) (N : Nat → Nat) (Hs : Nat → Nat) (Sl : Nat → Nat) (tx : Nat → Nat) (kept : Nat) (fil : Nat) (ty : Nat) (at_ : Nat) (nu : Nat) (v : Int32) (x : Int32) (hN : ∀ j, N j < 2 ^ 24) (hdis : xDis (xB0 G) [m0, aN, aH, aS, aT]) (hev : 1 ≤ N 10171) (hev2 : N 10171 ≤ 24) (hrows : ∀ v, v ≤ 24 → N (403 * v) ≤ 300) (hwin : ∀ v, v < N 10171 → N (10075 + 4 * v + 2) + rLen N v ≤ N (403 * v)) (hM : N 10172 < 2 ^ 23) (hk4 : kept ≤ 4) (htx : ∀ j, tx j < 65536) (hty : ty ≤ 60) : Met l yX6_push wsX6_push ({ frames := 4, cells := 0, slots := 0, locals := 89 } : Room) (xPc G [.ref m0, .int v, .int x] (fun H => va_P G.1 vwCl [(m0, .inr (6, [.ref aN, .ref aH, .int (nI kept), .ref aS, .int (nI fil), .int (nI ty), .ref aT, .int (nI at_), .int (nI nu)])), (aN, .inl (xcI G, 10276, .inl (nf N))), (aH, .inl (xcI G, 41104, .inl (nf Hs))), (aS, .inl (xcI G, 10276, .inl (nf Sl))), (aT, .inl (xcC G, 60, .inl (nf tx)))] H)) (xQ (σ := Unit) (fun _ => some (.int ((rmPush (N, Hs, Sl, tx, kept, fil, ty, at_, nu) v x).1))) (fun _ H => va_P G.1 vwCl [(m0, .inr (6, [.ref aN, .ref aH, .int (nI ((rmPush (N, Hs, Sl, tx, kept, fil, ty, at_, nu) v x).2.2.2.2.2.1)), .ref aS, .int (nI ((rmPush (N, Hs, Sl, tx, kept, fil, ty, at_, nu) v x).2.2.2.2.2.2.1)), .int (nI ((rmPush (N, Hs, Sl, tx, kept, fil, ty, at_, nu) v x).2.2.2.2.2.2.2.1)), .ref aT, .int (nI ((rmPush (N, Hs, Sl, tx, kept, fil, ty, at_, nu) v x).2.2.2.2.2.2.2.2.1)), .int (nI ((rmPush (N, Hs, Sl, tx, kept, fil, ty, at_, nu) v x).2.2.2.2.2.2.2.2.2))])), (aN, .inl (xcI G, 10276, .inl (nf ((rmPush (N, Hs, Sl, tx, kept, fil, ty, at_, nu) v x).2.1)))), (aH, .inl (xcI G, 41104, .inl (nf ((rmPush (N, Hs, Sl, tx, kept, fil, ty, at_, nu) v x).2.2.1)))), (aS, .inl (xcI G, 10276, .inl (nf ((rmPush (N, Hs, Sl, tx, kept, fil, ty, at_, nu) v x).2.2.2.1)))), (aT, .inl (xcC G, 60, .inl (nf ((rmPush (N, Hs, Sl, tx, kept, fil, ty, at_, nu) v x).2.2.2.2.1))))] H) (fun q => q ∈ [m0, aN, aH, aS, aT])) 0 0 (fun q => q ∈ [m0, aN, aH, aS, aT]) := by
  refine xMet (cc := cX6_push) (nL := 6) (ret := (some (.int))) (by decide) rfl (Nat.le_of_ble_eq_true rfl) ?_
  intro p e s m below meth c S hr hk hnm hE hP ls hl
  obtain ⟨hx, hb, hml, hown, hts⟩ := id S
  have hown : s.vm.findClass RX6 = some m.cls := hown
  have hK := hE.1
  have hS : va_S (fun q => q ∈ [m0, aN, aH, aS, aT]) s.heap s.heap [] := va_S.rf
  have hA : ∀ q, (fun q => q ∈ [m0, aN, aH, aS, aT]) q → xB0 G ≤ q := hdis.2
  have hP : va_P G.1 vwCl [(m0, .inr (6, [.ref aN, .ref aH, .int (nI kept), .ref aS, .int (nI fil), .int (nI ty), .ref aT, .int (nI at_), .int (nI nu)])), (aN, .inl (xcI G, 10276, .inl (nf N))), (aH, .inl (xcI G, 41104, .inl (nf Hs))), (aS, .inl (xcI G, 10276, .inl (nf Sl))), (aT, .inl (xcC G, 60, .inl (nf tx)))] s.heap := hP
  have hD : va_D (fun q => q ∈ [m0, aN, aH, aS, aT]) [(m0, .inr (6, [.ref aN, .ref aH, .int (nI kept), .ref aS, .int (nI fil), .int (nI ty), .ref aT, .int (nI at_), .int (nI nu)])), (aN, .inl (xcI G, 10276, .inl (nf N))), (aH, .inl (xcI G, 41104, .inl (nf Hs))), (aS, .inl (xcI G, 10276, .inl (nf Sl))), (aT, .inl (xcC G, 60, .inl (nf tx)))] := (hdis.to rfl)
  have hl : lv_has ls 6 [(0, .ref m0), (1, .int v), (2, .int x)] := hl
  refine lv_aload_n hx hb dX6_push_0 rfl (lv_at hl 0 rfl) ?_
  refine lv_iload_n hx hb dX6_push_1 rfl (lv_at hl 1 rfl) ?_
  refine xrd (xrunV (As := [.int v]) (rest := []) S (c_X6_no l G m0 aN aH aS aT N Hs Sl tx kept fil ty at_ nu v hN hev hev2) (cwV 1 hts gX6_push_X6_no rfl rfl rfl (by decide +kernel) ⟨Nat.le_of_ble_eq_true rfl, Nat.le_of_ble_eq_true rfl⟩) hE hS hA 0 6 hP rfl rfl rfl hP rfl rfl hl.1 (Nat.le_of_ble_eq_true rfl) dX6_push_2 ⟨Nat.le_of_ble_eq_true rfl, Nat.le_of_ble_eq_true rfl⟩) ?_
  refine b_if_eq (tgt := 10) hx hb dX6_push_5 (by decide) (fun c_5 => ?_) (fun c_5 => ?_)
  · have c_5b := c_5
    obtain ⟨k, rfl, hk1, hk2⟩ := rNo_not hev hev2 c_5
    have hkc : (nI k).toNatClampNeg = k := nI_clamp (by omega)
    have hwk := hwin k hk1
    have hrk := hrows k (by omega)
    refine lv_iload_n hx hb dX6_push_10 rfl (lv_at hl 2 rfl) ?_
    refine lv_iconst (v := nI 0) hx hb dX6_push_11 rfl ?_
    refine lv_sipush (v := nI 999) hx hb dX6_push_12 (by decide) ?_
    refine xrd (xrunS (As := [.int x, .int (nI 0), .int (nI 999)]) (rest := []) S (c_X6_in l G x (nI 0) (nI 999) ) (va_cwS 3 hts gX6_push_X6_in rfl rfl rfl (by decide +kernel) ⟨Nat.le_of_ble_eq_true rfl, Nat.le_of_ble_eq_true rfl⟩) hE hS hA trivial rfl rfl hl.1 (Nat.le_of_ble_eq_true rfl) dX6_push_15 ⟨Nat.le_of_ble_eq_true rfl, Nat.le_of_ble_eq_true rfl⟩) ?_
    refine b_if_ne (tgt := 24) hx hb dX6_push_18 (by decide) (fun c_18 => ?_) (fun c_18 => ?_)
    · have c_18v := c_18
      obtain ⟨y, hy9, rfl⟩ := xin_of (by omega) c_18
      have hyc : (nI y).toNatClampNeg = y := nI_clamp (by omega)
      refine lv_aload_n hx hb dX6_push_24 rfl (lv_at hl 0 rfl) ?_
      refine lv_iload_n hx hb dX6_push_25 rfl (lv_at hl 1 rfl) ?_
      refine xrd (xrunV (As := [.int (nI k)]) (rest := []) S (c_X6_first l G m0 aN aH aS aT N Hs Sl tx kept fil ty at_ nu k hN (by omega)) (cwV 1 hts gX6_push_X6_first rfl rfl rfl (by decide +kernel) ⟨Nat.le_of_ble_eq_true rfl, Nat.le_of_ble_eq_true rfl⟩) hE hS hA 0 6 hP rfl rfl rfl hP rfl rfl hl.1 (Nat.le_of_ble_eq_true rfl) dX6_push_26 ⟨Nat.le_of_ble_eq_true rfl, Nat.le_of_ble_eq_true rfl⟩) ?_
      refine lv_aload_n hx hb dX6_push_29 rfl (lv_at hl 0 rfl) ?_
      refine lv_iload_n hx hb dX6_push_30 rfl (lv_at hl 1 rfl) ?_
      refine xrd (xrunV (As := [.int (nI k)]) (rest := [.int (nI (N (10075 + 4 * k + 2)))]) S (c_X6_length l G m0 aN aH aS aT N Hs Sl tx kept fil ty at_ nu k hN (by omega)) (cwV 1 hts gX6_push_X6_length rfl rfl rfl (by decide +kernel) ⟨Nat.le_of_ble_eq_true rfl, Nat.le_of_ble_eq_true rfl⟩) hE hS hA 0 6 hP rfl rfl rfl hP rfl rfl hl.1 (Nat.le_of_ble_eq_true rfl) dX6_push_31 ⟨Nat.le_of_ble_eq_true rfl, Nat.le_of_ble_eq_true rfl⟩) ?_
      refine n_iadd hx hb dX6_push_34 ?_
      refine lv_istore_n (lv' := [(3, .int (nI ((N (10075 + 4 * k + 2)) + (rLen N k)))), (0, .ref m0), (1, .int (nI k)), (2, .int (nI y))]) hx hb dX6_push_35 rfl hl (by decide) rfl (fun ls hl => ?_)
      refine lv_iload_n hx hb dX6_push_36 rfl (lv_at hl 0 rfl) ?_
      refine lv_aload_n hx hb dX6_push_37 rfl (lv_at hl 1 rfl) ?_
      refine lv_iload_n hx hb dX6_push_38 rfl (lv_at hl 2 rfl) ?_
      refine xrd (xrunV (As := [.int (nI k)]) (rest := [.int (nI ((N (10075 + 4 * k + 2)) + (rLen N k)))]) S (c_X6_rowLength l G m0 aN aH aS aT N Hs Sl tx kept fil ty at_ nu k hN (by omega)) (cwV 1 hts gX6_push_X6_rowLength rfl rfl rfl (by decide +kernel) ⟨Nat.le_of_ble_eq_true rfl, Nat.le_of_ble_eq_true rfl⟩) hE hS hA 0 6 hP rfl rfl rfl hP rfl rfl hl.1 (Nat.le_of_ble_eq_true rfl) dX6_push_39 ⟨Nat.le_of_ble_eq_true rfl, Nat.le_of_ble_eq_true rfl⟩) ?_
      refine n_icmp_ne (tgt := 49) hx hb (by omega) (by omega) dX6_push_42 (by decide) (fun c_42 => ?_) (fun c_42 => ?_)
      · refine lv_iconst (v := nI 0) hx hb dX6_push_49 rfl ?_
        refine lv_istore (lv' := [(4, .int (nI 0)), (3, .int (nI ((N (10075 + 4 * k + 2)) + (rLen N k)))), (0, .ref m0), (1, .int (nI k)), (2, .int (nI y))]) hx hb dX6_push_50 hl (by decide) rfl (fun ls hl => ?_)
        refine lv_aload_n hx hb dX6_push_52 rfl (lv_at hl 2 rfl) ?_
        refine xrd (xrunV (As := []) (rest := []) S (c_X6_isFull l G m0 aN aH aS aT N Hs Sl tx kept fil ty at_ nu hN) (cwV 0 hts gX6_push_X6_isFull rfl rfl rfl (by decide +kernel) ⟨Nat.le_of_ble_eq_true rfl, Nat.le_of_ble_eq_true rfl⟩) hE hS hA 0 6 hP rfl rfl rfl hP rfl rfl hl.1 (Nat.le_of_ble_eq_true rfl) dX6_push_53 ⟨Nat.le_of_ble_eq_true rfl, Nat.le_of_ble_eq_true rfl⟩) ?_
        refine b_if_ne (tgt := 71) hx hb dX6_push_56 (by decide) (fun c_56 => ?_) (fun c_56 => ?_)
        · refine lv_bipush (v := (-3)) hx hb dX6_push_71 (by decide) ?_
          have eR : rmPush (N, Hs, Sl, tx, kept, fil, ty, at_, nu) (nI k) (nI y) = ((-3), N, Hs, Sl, tx, kept, fil, ty, at_, nu) := by rw [rmPush, if_neg c_5b, if_neg (fun q => q c_18v), hkc, hyc, rmPushK, if_pos (Or.inl c_56)]
          exact xend_i () hx hb hr hk hS (fun _ h => h) dX6_push_73 (by rw [eR]) (by rw [eR]; exact hP) (Nat.le_refl _) (Nat.le_refl _)
        · refine lv_iload hx hb dX6_push_59 (lv_at hl 0 rfl) ?_
          refine n_if_eq (tgt := 74) hx hb (by omega) dX6_push_61 (by decide) (fun c_61 => ?_) (fun c_61 => ?_)
          · have hnf : ¬ (N 10171 = 24 ∨ (N (10075 + 4 * k + 2) + rLen N k = N (403 * k) ∧ N (10075 + 4 * k + 2) + rLen N k = 300)) := (fun q => q.elim c_56 (fun z => c_42 z.1))
            have he3 : N 10171 < 24 := by have : N 10171 ≠ 24 := fun q => hnf (Or.inl q); omega
            refine lv_aload_n hx hb dX6_push_74 rfl (lv_at hl 2 rfl) ?_
            refine xwr (xrunV (As := []) (rest := []) S (c_X6_record l G m0 aN aH aS aT N Hs Sl tx kept fil ty at_ nu hN hdis hk4) (cwV 0 hts gX6_push_X6_record rfl rfl rfl (by decide +kernel) ⟨Nat.le_of_ble_eq_true rfl, Nat.le_of_ble_eq_true rfl⟩) hE hS hA 0 6 hP rfl rfl rfl hP rfl rfl hl.1 (Nat.le_of_ble_eq_true rfl) dX6_push_75 ⟨Nat.le_of_ble_eq_true rfl, Nat.le_of_ble_eq_true rfl⟩) hS (fun _ h => h) (fun _ h => h) (fun uw_ H locs hΨ hz hkp hS => ?_)
            have hP : va_P G.1 vwCl [(m0, .inr (6, [.ref aN, .ref aH, .int (nI (rRecK kept)), .ref aS, .int (nI fil), .int (nI ty), .ref aT, .int (nI at_), .int (nI nu)])), (aN, .inl (xcI G, 10276, .inl (nf N))), (aH, .inl (xcI G, 41104, .inl (nf (rRecH Hs N kept)))), (aS, .inl (xcI G, 10276, .inl (nf Sl))), (aT, .inl (xcC G, 60, .inl (nf tx)))] H := hΨ
            have hD : va_D (fun q => q ∈ [m0, aN, aH, aS, aT]) [(m0, .inr (6, [.ref aN, .ref aH, .int (nI (rRecK kept)), .ref aS, .int (nI fil), .int (nI ty), .ref aT, .int (nI at_), .int (nI nu)])), (aN, .inl (xcI G, 10276, .inl (nf N))), (aH, .inl (xcI G, 41104, .inl (nf (rRecH Hs N kept)))), (aS, .inl (xcI G, 10276, .inl (nf Sl))), (aT, .inl (xcC G, 60, .inl (nf tx)))] := (hdis.to rfl)
            refine W.eq (g2 := F0 m 78 ls []) rfl ?_
            refine lv_aload_n hx hb dX6_push_78 rfl (lv_at hl 2 rfl) ?_
            refine lv_iload_n hx hb dX6_push_79 rfl (lv_at hl 3 rfl) ?_
            refine lv_aload_n hx hb dX6_push_80 rfl (lv_at hl 2 rfl) ?_
            refine lv_iload_n hx hb dX6_push_81 rfl (lv_at hl 3 rfl) ?_
            refine xrd (xrunV (As := [.int (nI k)]) (rest := [.int (nI k), .ref m0]) S (c_X6_isWindow l G m0 aN aH aS aT N (rRecH Hs N kept) Sl tx (rRecK kept) fil ty at_ nu k hN (by omega)) (cwV 1 hts gX6_push_X6_isWindow rfl rfl rfl (by decide +kernel) ⟨Nat.le_of_ble_eq_true rfl, Nat.le_of_ble_eq_true rfl⟩) hE hS hA 0 6 hP rfl rfl rfl hP rfl rfl hl.1 (Nat.le_of_ble_eq_true rfl) dX6_push_82 ⟨Nat.le_of_ble_eq_true rfl, Nat.le_of_ble_eq_true rfl⟩) ?_
            refine lv_aload_n hx hb dX6_push_85 rfl (lv_at hl 2 rfl) ?_
            refine lv_iload_n hx hb dX6_push_86 rfl (lv_at hl 3 rfl) ?_
            refine xrd (xrunV (As := [.int (nI k)]) (rest := [.int (bI (N (10075 + 4 * k + 1) = 1)), .int (nI k), .ref m0]) S (c_X6_first l G m0 aN aH aS aT N (rRecH Hs N kept) Sl tx (rRecK kept) fil ty at_ nu k hN (by omega)) (cwV 1 hts gX6_push_X6_first rfl rfl rfl (by decide +kernel) ⟨Nat.le_of_ble_eq_true rfl, Nat.le_of_ble_eq_true rfl⟩) hE hS hA 0 6 hP rfl rfl rfl hP rfl rfl hl.1 (Nat.le_of_ble_eq_true rfl) dX6_push_87 ⟨Nat.le_of_ble_eq_true rfl, Nat.le_of_ble_eq_true rfl⟩) ?_
            refine lv_aload_n hx hb dX6_push_90 rfl (lv_at hl 2 rfl) ?_
            refine lv_iload_n hx hb dX6_push_91 rfl (lv_at hl 3 rfl) ?_
            refine xrd (xrunV (As := [.int (nI k)]) (rest := [.int (nI (N (10075 + 4 * k + 2))), .int (bI (N (10075 + 4 * k + 1) = 1)), .int (nI k), .ref m0]) S (c_X6_isWindow l G m0 aN aH aS aT N (rRecH Hs N kept) Sl tx (rRecK kept) fil ty at_ nu k hN (by omega)) (cwV 1 hts gX6_push_X6_isWindow rfl rfl rfl (by decide +kernel) ⟨Nat.le_of_ble_eq_true rfl, Nat.le_of_ble_eq_true rfl⟩) hE hS hA 0 6 hP rfl rfl rfl hP rfl rfl hl.1 (Nat.le_of_ble_eq_true rfl) dX6_push_92 ⟨Nat.le_of_ble_eq_true rfl, Nat.le_of_ble_eq_true rfl⟩) ?_
            refine b_if_eq (tgt := 108) hx hb dX6_push_95 (by decide) (fun c_95 => ?_) (fun c_95 => ?_)
            · refine lv_iconst (v := nI 0) hx hb dX6_push_108 rfl ?_
              refine n_top (y := nI (rMa N k 1)) (by rw [rMa, if_neg c_95]) ?_
              refine xwr (xrunV (As := [.int (nI k), .int (bI (N (10075 + 4 * k + 1) = 1)), .int (nI (N (10075 + 4 * k + 2))), .int (nI (rMa N k 1))]) (rest := []) S (c_X6_comes l G m0 aN aH aS aT N (rRecH Hs N kept) Sl tx (rRecK kept) fil ty at_ nu k (N (10075 + 4 * k + 1) = 1) (N (10075 + 4 * k + 2)) (rMa N k 1) hN hdis (by omega) he3) (cwV 4 hts gX6_push_X6_comes rfl rfl rfl (by decide +kernel) ⟨Nat.le_of_ble_eq_true rfl, Nat.le_of_ble_eq_true rfl⟩) hE hS hA 0 6 hP rfl rfl rfl hP rfl rfl hl.1 (Nat.le_of_ble_eq_true rfl) dX6_push_109 ⟨Nat.le_of_ble_eq_true rfl, Nat.le_of_ble_eq_true rfl⟩) hS (fun _ h => h) (fun _ h => h) (fun uw_ H locs hΨ hz hkp hS => ?_)
              have hP : va_P G.1 vwCl [(m0, .inr (6, [.ref aN, .ref aH, .int (nI (rRecK kept)), .ref aS, .int (nI fil), .int (nI ty), .ref aT, .int (nI at_), .int (nI nu)])), (aN, .inl (xcI G, 10276, .inl (nf (rCo N k (N (10075 + 4 * k + 1) = 1) (N (10075 + 4 * k + 2)) (rMa N k 1))))), (aH, .inl (xcI G, 41104, .inl (nf (rRecH Hs N kept)))), (aS, .inl (xcI G, 10276, .inl (nf Sl))), (aT, .inl (xcC G, 60, .inl (nf tx)))] H := hΨ
              have hD : va_D (fun q => q ∈ [m0, aN, aH, aS, aT]) [(m0, .inr (6, [.ref aN, .ref aH, .int (nI (rRecK kept)), .ref aS, .int (nI fil), .int (nI ty), .ref aT, .int (nI at_), .int (nI nu)])), (aN, .inl (xcI G, 10276, .inl (nf (rCo N k (N (10075 + 4 * k + 1) = 1) (N (10075 + 4 * k + 2)) (rMa N k 1))))), (aH, .inl (xcI G, 41104, .inl (nf (rRecH Hs N kept)))), (aS, .inl (xcI G, 10276, .inl (nf Sl))), (aT, .inl (xcC G, 60, .inl (nf tx)))] := (hdis.to rfl)
              refine W.eq (g2 := F0 m 112 ls [.int (nI (N 10171))]) rfl ?_
              refine lv_istore (lv' := [(5, .int (nI (N 10171))), (4, .int (nI 0)), (3, .int (nI ((N (10075 + 4 * k + 2)) + (rLen N k)))), (0, .ref m0), (1, .int (nI k)), (2, .int (nI y))]) hx hb dX6_push_112 hl (by decide) rfl (fun ls hl => ?_)
              refine lv_iload hx hb dX6_push_114 (lv_at hl 1 rfl) ?_
              refine n_if_eq (tgt := 129) hx hb (by omega) dX6_push_116 (by decide) (fun c_116 => ?_) (fun c_116 => ?_)
              · refine lv_aload_n hx hb dX6_push_129 rfl (lv_at hl 3 rfl) ?_
                refine lv_iload hx hb dX6_push_130 (lv_at hl 0 rfl) ?_
                refine lv_iload_n hx hb dX6_push_132 rfl (lv_at hl 2 rfl) ?_
                refine lv_iload_n hx hb dX6_push_133 rfl (lv_at hl 5 rfl) ?_
                refine xwr (xrunV (As := [.int (nI (N 10171)), .int (nI ((N (10075 + 4 * k + 2)) + (rLen N k))), .int (nI y)]) (rest := []) S (c_X6_sets l G m0 aN aH aS aT (rCo N k (N (10075 + 4 * k + 1) = 1) (N (10075 + 4 * k + 2)) (rMa N k 1)) (rRecH Hs N kept) Sl tx (rRecK kept) fil ty at_ nu (N 10171) ((N (10075 + 4 * k + 2)) + (rLen N k)) y (rCo_lt hN (by omega) (by omega) (by have := rMa_lt hN k 1 (by omega); omega)) hdis (by omega) (by rw [rCo_len he3]; omega) (by omega) (by rw [rCo_made he3]; exact hM)) (cwV 3 hts gX6_push_X6_sets rfl rfl rfl (by decide +kernel) ⟨Nat.le_of_ble_eq_true rfl, Nat.le_of_ble_eq_true rfl⟩) hE hS hA 0 6 hP rfl rfl rfl hP rfl rfl hl.1 (Nat.le_of_ble_eq_true rfl) dX6_push_134 ⟨Nat.le_of_ble_eq_true rfl, Nat.le_of_ble_eq_true rfl⟩) hS (fun _ h => h) (fun _ h => h) (fun uw_ H locs hΨ hz hkp hS => ?_)
                have hP : va_P G.1 vwCl [(m0, .inr (6, [.ref aN, .ref aH, .int (nI (rRecK kept)), .ref aS, .int (nI fil), .int (nI ty), .ref aT, .int (nI at_), .int (nI nu)])), (aN, .inl (xcI G, 10276, .inl (nf (rSe (rCo N k (N (10075 + 4 * k + 1) = 1) (N (10075 + 4 * k + 2)) (rMa N k 1)) (N 10171) ((N (10075 + 4 * k + 2)) + (rLen N k)) y)))), (aH, .inl (xcI G, 41104, .inl (nf (rRecH Hs N kept)))), (aS, .inl (xcI G, 10276, .inl (nf Sl))), (aT, .inl (xcC G, 60, .inl (nf tx)))] H := hΨ
                have hD : va_D (fun q => q ∈ [m0, aN, aH, aS, aT]) [(m0, .inr (6, [.ref aN, .ref aH, .int (nI (rRecK kept)), .ref aS, .int (nI fil), .int (nI ty), .ref aT, .int (nI at_), .int (nI nu)])), (aN, .inl (xcI G, 10276, .inl (nf (rSe (rCo N k (N (10075 + 4 * k + 1) = 1) (N (10075 + 4 * k + 2)) (rMa N k 1)) (N 10171) ((N (10075 + 4 * k + 2)) + (rLen N k)) y)))), (aH, .inl (xcI G, 41104, .inl (nf (rRecH Hs N kept)))), (aS, .inl (xcI G, 10276, .inl (nf Sl))), (aT, .inl (xcC G, 60, .inl (nf tx)))] := (hdis.to rfl)
                refine W.eq (g2 := F0 m 137 ls []) rfl ?_
                refine lv_iload hx hb dX6_push_137 (lv_at hl 0 rfl) ?_
                have eR : rmPush (N, Hs, Sl, tx, kept, fil, ty, at_, nu) (nI k) (nI y) = (nI (N 10171), rSe (rCo N k (N (10075 + 4 * k + 1) = 1) (N (10075 + 4 * k + 2)) (rMa N k 1)) (N 10171) ((N (10075 + 4 * k + 2)) + (rLen N k)) y, (rRecH Hs N kept), Sl, tx, (rRecK kept), fil, ty, at_, nu) := by rw [rmPush, if_neg c_5b, if_neg (fun q => q c_18v), hkc, hyc, rmPushK, if_neg hnf, if_neg c_42]
                exact xend_i () hx hb hr hk hS (fun _ h => h) dX6_push_139 (by rw [eR]) (by rw [eR]; exact hP) (Nat.le_refl _) (Nat.le_refl _)
              · exact absurd c_116 (by decide)
            · refine lv_aload_n hx hb dX6_push_98 rfl (lv_at hl 2 rfl) ?_
              refine lv_iload_n hx hb dX6_push_99 rfl (lv_at hl 3 rfl) ?_
              refine xrd (xrunV (As := [.int (nI k)]) (rest := [.int (nI (N (10075 + 4 * k + 2))), .int (bI (N (10075 + 4 * k + 1) = 1)), .int (nI k), .ref m0]) S (c_X6_length l G m0 aN aH aS aT N (rRecH Hs N kept) Sl tx (rRecK kept) fil ty at_ nu k hN (by omega)) (cwV 1 hts gX6_push_X6_length rfl rfl rfl (by decide +kernel) ⟨Nat.le_of_ble_eq_true rfl, Nat.le_of_ble_eq_true rfl⟩) hE hS hA 0 6 hP rfl rfl rfl hP rfl rfl hl.1 (Nat.le_of_ble_eq_true rfl) dX6_push_100 ⟨Nat.le_of_ble_eq_true rfl, Nat.le_of_ble_eq_true rfl⟩) ?_
              refine lv_iconst (v := nI 1) hx hb dX6_push_103 rfl ?_
              refine n_iadd hx hb dX6_push_104 ?_
              refine n_top (y := nI (rMa N k 1)) (by rw [rMa, if_pos c_95]) ?_
              refine lv_goto (tgt := 109) hx hb dX6_push_105 (by decide) ?_
              refine xwr (xrunV (As := [.int (nI k), .int (bI (N (10075 + 4 * k + 1) = 1)), .int (nI (N (10075 + 4 * k + 2))), .int (nI (rMa N k 1))]) (rest := []) S (c_X6_comes l G m0 aN aH aS aT N (rRecH Hs N kept) Sl tx (rRecK kept) fil ty at_ nu k (N (10075 + 4 * k + 1) = 1) (N (10075 + 4 * k + 2)) (rMa N k 1) hN hdis (by omega) he3) (cwV 4 hts gX6_push_X6_comes rfl rfl rfl (by decide +kernel) ⟨Nat.le_of_ble_eq_true rfl, Nat.le_of_ble_eq_true rfl⟩) hE hS hA 0 6 hP rfl rfl rfl hP rfl rfl hl.1 (Nat.le_of_ble_eq_true rfl) dX6_push_109 ⟨Nat.le_of_ble_eq_true rfl, Nat.le_of_ble_eq_true rfl⟩) hS (fun _ h => h) (fun _ h => h) (fun uw_ H locs hΨ hz hkp hS => ?_)
              have hP : va_P G.1 vwCl [(m0, .inr (6, [.ref aN, .ref aH, .int (nI (rRecK kept)), .ref aS, .int (nI fil), .int (nI ty), .ref aT, .int (nI at_), .int (nI nu)])), (aN, .inl (xcI G, 10276, .inl (nf (rCo N k (N (10075 + 4 * k + 1) = 1) (N (10075 + 4 * k + 2)) (rMa N k 1))))), (aH, .inl (xcI G, 41104, .inl (nf (rRecH Hs N kept)))), (aS, .inl (xcI G, 10276, .inl (nf Sl))), (aT, .inl (xcC G, 60, .inl (nf tx)))] H := hΨ
              have hD : va_D (fun q => q ∈ [m0, aN, aH, aS, aT]) [(m0, .inr (6, [.ref aN, .ref aH, .int (nI (rRecK kept)), .ref aS, .int (nI fil), .int (nI ty), .ref aT, .int (nI at_), .int (nI nu)])), (aN, .inl (xcI G, 10276, .inl (nf (rCo N k (N (10075 + 4 * k + 1) = 1) (N (10075 + 4 * k + 2)) (rMa N k 1))))), (aH, .inl (xcI G, 41104, .inl (nf (rRecH Hs N kept)))), (aS, .inl (xcI G, 10276, .inl (nf Sl))), (aT, .inl (xcC G, 60, .inl (nf tx)))] := (hdis.to rfl)
              refine W.eq (g2 := F0 m 112 ls [.int (nI (N 10171))]) rfl ?_
              refine lv_istore (lv' := [(5, .int (nI (N 10171))), (4, .int (nI 0)), (3, .int (nI ((N (10075 + 4 * k + 2)) + (rLen N k)))), (0, .ref m0), (1, .int (nI k)), (2, .int (nI y))]) hx hb dX6_push_112 hl (by decide) rfl (fun ls hl => ?_)
              refine lv_iload hx hb dX6_push_114 (lv_at hl 1 rfl) ?_
              refine n_if_eq (tgt := 129) hx hb (by omega) dX6_push_116 (by decide) (fun c_116 => ?_) (fun c_116 => ?_)
              · refine lv_aload_n hx hb dX6_push_129 rfl (lv_at hl 3 rfl) ?_
                refine lv_iload hx hb dX6_push_130 (lv_at hl 0 rfl) ?_
                refine lv_iload_n hx hb dX6_push_132 rfl (lv_at hl 2 rfl) ?_
                refine lv_iload_n hx hb dX6_push_133 rfl (lv_at hl 5 rfl) ?_
                refine xwr (xrunV (As := [.int (nI (N 10171)), .int (nI ((N (10075 + 4 * k + 2)) + (rLen N k))), .int (nI y)]) (rest := []) S (c_X6_sets l G m0 aN aH aS aT (rCo N k (N (10075 + 4 * k + 1) = 1) (N (10075 + 4 * k + 2)) (rMa N k 1)) (rRecH Hs N kept) Sl tx (rRecK kept) fil ty at_ nu (N 10171) ((N (10075 + 4 * k + 2)) + (rLen N k)) y (rCo_lt hN (by omega) (by omega) (by have := rMa_lt hN k 1 (by omega); omega)) hdis (by omega) (by rw [rCo_len he3]; omega) (by omega) (by rw [rCo_made he3]; exact hM)) (cwV 3 hts gX6_push_X6_sets rfl rfl rfl (by decide +kernel) ⟨Nat.le_of_ble_eq_true rfl, Nat.le_of_ble_eq_true rfl⟩) hE hS hA 0 6 hP rfl rfl rfl hP rfl rfl hl.1 (Nat.le_of_ble_eq_true rfl) dX6_push_134 ⟨Nat.le_of_ble_eq_true rfl, Nat.le_of_ble_eq_true rfl⟩) hS (fun _ h => h) (fun _ h => h) (fun uw_ H locs hΨ hz hkp hS => ?_)
                have hP : va_P G.1 vwCl [(m0, .inr (6, [.ref aN, .ref aH, .int (nI (rRecK kept)), .ref aS, .int (nI fil), .int (nI ty), .ref aT, .int (nI at_), .int (nI nu)])), (aN, .inl (xcI G, 10276, .inl (nf (rSe (rCo N k (N (10075 + 4 * k + 1) = 1) (N (10075 + 4 * k + 2)) (rMa N k 1)) (N 10171) ((N (10075 + 4 * k + 2)) + (rLen N k)) y)))), (aH, .inl (xcI G, 41104, .inl (nf (rRecH Hs N kept)))), (aS, .inl (xcI G, 10276, .inl (nf Sl))), (aT, .inl (xcC G, 60, .inl (nf tx)))] H := hΨ
                have hD : va_D (fun q => q ∈ [m0, aN, aH, aS, aT]) [(m0, .inr (6, [.ref aN, .ref aH, .int (nI (rRecK kept)), .ref aS, .int (nI fil), .int (nI ty), .ref aT, .int (nI at_), .int (nI nu)])), (aN, .inl (xcI G, 10276, .inl (nf (rSe (rCo N k (N (10075 + 4 * k + 1) = 1) (N (10075 + 4 * k + 2)) (rMa N k 1)) (N 10171) ((N (10075 + 4 * k + 2)) + (rLen N k)) y)))), (aH, .inl (xcI G, 41104, .inl (nf (rRecH Hs N kept)))), (aS, .inl (xcI G, 10276, .inl (nf Sl))), (aT, .inl (xcC G, 60, .inl (nf tx)))] := (hdis.to rfl)
                refine W.eq (g2 := F0 m 137 ls []) rfl ?_
                refine lv_iload hx hb dX6_push_137 (lv_at hl 0 rfl) ?_
                have eR : rmPush (N, Hs, Sl, tx, kept, fil, ty, at_, nu) (nI k) (nI y) = (nI (N 10171), rSe (rCo N k (N (10075 + 4 * k + 1) = 1) (N (10075 + 4 * k + 2)) (rMa N k 1)) (N 10171) ((N (10075 + 4 * k + 2)) + (rLen N k)) y, (rRecH Hs N kept), Sl, tx, (rRecK kept), fil, ty, at_, nu) := by rw [rmPush, if_neg c_5b, if_neg (fun q => q c_18v), hkc, hyc, rmPushK, if_neg hnf, if_neg c_42]
                exact xend_i () hx hb hr hk hS (fun _ h => h) dX6_push_139 (by rw [eR]) (by rw [eR]; exact hP) (Nat.le_refl _) (Nat.le_refl _)
              · exact absurd c_116 (by decide)
          · exact absurd c_61 (by decide)
      · refine lv_iconst (v := nI 1) hx hb dX6_push_45 rfl ?_
        refine lv_goto (tgt := 50) hx hb dX6_push_46 (by decide) ?_
        refine lv_istore (lv' := [(4, .int (nI 1)), (3, .int (nI ((N (10075 + 4 * k + 2)) + (rLen N k)))), (0, .ref m0), (1, .int (nI k)), (2, .int (nI y))]) hx hb dX6_push_50 hl (by decide) rfl (fun ls hl => ?_)
        refine lv_aload_n hx hb dX6_push_52 rfl (lv_at hl 2 rfl) ?_
        refine xrd (xrunV (As := []) (rest := []) S (c_X6_isFull l G m0 aN aH aS aT N Hs Sl tx kept fil ty at_ nu hN) (cwV 0 hts gX6_push_X6_isFull rfl rfl rfl (by decide +kernel) ⟨Nat.le_of_ble_eq_true rfl, Nat.le_of_ble_eq_true rfl⟩) hE hS hA 0 6 hP rfl rfl rfl hP rfl rfl hl.1 (Nat.le_of_ble_eq_true rfl) dX6_push_53 ⟨Nat.le_of_ble_eq_true rfl, Nat.le_of_ble_eq_true rfl⟩) ?_
        refine b_if_ne (tgt := 71) hx hb dX6_push_56 (by decide) (fun c_56 => ?_) (fun c_56 => ?_)
        · refine lv_bipush (v := (-3)) hx hb dX6_push_71 (by decide) ?_
          have eR : rmPush (N, Hs, Sl, tx, kept, fil, ty, at_, nu) (nI k) (nI y) = ((-3), N, Hs, Sl, tx, kept, fil, ty, at_, nu) := by rw [rmPush, if_neg c_5b, if_neg (fun q => q c_18v), hkc, hyc, rmPushK, if_pos (Or.inl c_56)]
          exact xend_i () hx hb hr hk hS (fun _ h => h) dX6_push_73 (by rw [eR]) (by rw [eR]; exact hP) (Nat.le_refl _) (Nat.le_refl _)
        · refine lv_iload hx hb dX6_push_59 (lv_at hl 0 rfl) ?_
          refine n_if_eq (tgt := 74) hx hb (by omega) dX6_push_61 (by decide) (fun c_61 => ?_) (fun c_61 => ?_)
          · exact absurd c_61 (by decide)
          · refine lv_iload_n hx hb dX6_push_64 rfl (lv_at hl 1 rfl) ?_
            refine lv_sipush (v := nI 300) hx hb dX6_push_65 (by decide) ?_
            refine n_icmp_ne (tgt := 74) hx hb (by omega) (by omega) dX6_push_68 (by decide) (fun c_68 => ?_) (fun c_68 => ?_)
            · have hnf : ¬ (N 10171 = 24 ∨ (N (10075 + 4 * k + 2) + rLen N k = N (403 * k) ∧ N (10075 + 4 * k + 2) + rLen N k = 300)) := (fun q => q.elim c_56 (fun z => c_68 z.2))
              have he3 : N 10171 < 24 := by have : N 10171 ≠ 24 := fun q => hnf (Or.inl q); omega
              refine lv_aload_n hx hb dX6_push_74 rfl (lv_at hl 2 rfl) ?_
              refine xwr (xrunV (As := []) (rest := []) S (c_X6_record l G m0 aN aH aS aT N Hs Sl tx kept fil ty at_ nu hN hdis hk4) (cwV 0 hts gX6_push_X6_record rfl rfl rfl (by decide +kernel) ⟨Nat.le_of_ble_eq_true rfl, Nat.le_of_ble_eq_true rfl⟩) hE hS hA 0 6 hP rfl rfl rfl hP rfl rfl hl.1 (Nat.le_of_ble_eq_true rfl) dX6_push_75 ⟨Nat.le_of_ble_eq_true rfl, Nat.le_of_ble_eq_true rfl⟩) hS (fun _ h => h) (fun _ h => h) (fun uw_ H locs hΨ hz hkp hS => ?_)
              have hP : va_P G.1 vwCl [(m0, .inr (6, [.ref aN, .ref aH, .int (nI (rRecK kept)), .ref aS, .int (nI fil), .int (nI ty), .ref aT, .int (nI at_), .int (nI nu)])), (aN, .inl (xcI G, 10276, .inl (nf N))), (aH, .inl (xcI G, 41104, .inl (nf (rRecH Hs N kept)))), (aS, .inl (xcI G, 10276, .inl (nf Sl))), (aT, .inl (xcC G, 60, .inl (nf tx)))] H := hΨ
              have hD : va_D (fun q => q ∈ [m0, aN, aH, aS, aT]) [(m0, .inr (6, [.ref aN, .ref aH, .int (nI (rRecK kept)), .ref aS, .int (nI fil), .int (nI ty), .ref aT, .int (nI at_), .int (nI nu)])), (aN, .inl (xcI G, 10276, .inl (nf N))), (aH, .inl (xcI G, 41104, .inl (nf (rRecH Hs N kept)))), (aS, .inl (xcI G, 10276, .inl (nf Sl))), (aT, .inl (xcC G, 60, .inl (nf tx)))] := (hdis.to rfl)
              refine W.eq (g2 := F0 m 78 ls []) rfl ?_
              refine lv_aload_n hx hb dX6_push_78 rfl (lv_at hl 2 rfl) ?_
              refine lv_iload_n hx hb dX6_push_79 rfl (lv_at hl 3 rfl) ?_
              refine lv_aload_n hx hb dX6_push_80 rfl (lv_at hl 2 rfl) ?_
              refine lv_iload_n hx hb dX6_push_81 rfl (lv_at hl 3 rfl) ?_
              refine xrd (xrunV (As := [.int (nI k)]) (rest := [.int (nI k), .ref m0]) S (c_X6_isWindow l G m0 aN aH aS aT N (rRecH Hs N kept) Sl tx (rRecK kept) fil ty at_ nu k hN (by omega)) (cwV 1 hts gX6_push_X6_isWindow rfl rfl rfl (by decide +kernel) ⟨Nat.le_of_ble_eq_true rfl, Nat.le_of_ble_eq_true rfl⟩) hE hS hA 0 6 hP rfl rfl rfl hP rfl rfl hl.1 (Nat.le_of_ble_eq_true rfl) dX6_push_82 ⟨Nat.le_of_ble_eq_true rfl, Nat.le_of_ble_eq_true rfl⟩) ?_
              refine lv_aload_n hx hb dX6_push_85 rfl (lv_at hl 2 rfl) ?_
              refine lv_iload_n hx hb dX6_push_86 rfl (lv_at hl 3 rfl) ?_
              refine xrd (xrunV (As := [.int (nI k)]) (rest := [.int (bI (N (10075 + 4 * k + 1) = 1)), .int (nI k), .ref m0]) S (c_X6_first l G m0 aN aH aS aT N (rRecH Hs N kept) Sl tx (rRecK kept) fil ty at_ nu k hN (by omega)) (cwV 1 hts gX6_push_X6_first rfl rfl rfl (by decide +kernel) ⟨Nat.le_of_ble_eq_true rfl, Nat.le_of_ble_eq_true rfl⟩) hE hS hA 0 6 hP rfl rfl rfl hP rfl rfl hl.1 (Nat.le_of_ble_eq_true rfl) dX6_push_87 ⟨Nat.le_of_ble_eq_true rfl, Nat.le_of_ble_eq_true rfl⟩) ?_
              refine lv_aload_n hx hb dX6_push_90 rfl (lv_at hl 2 rfl) ?_
              refine lv_iload_n hx hb dX6_push_91 rfl (lv_at hl 3 rfl) ?_
              refine xrd (xrunV (As := [.int (nI k)]) (rest := [.int (nI (N (10075 + 4 * k + 2))), .int (bI (N (10075 + 4 * k + 1) = 1)), .int (nI k), .ref m0]) S (c_X6_isWindow l G m0 aN aH aS aT N (rRecH Hs N kept) Sl tx (rRecK kept) fil ty at_ nu k hN (by omega)) (cwV 1 hts gX6_push_X6_isWindow rfl rfl rfl (by decide +kernel) ⟨Nat.le_of_ble_eq_true rfl, Nat.le_of_ble_eq_true rfl⟩) hE hS hA 0 6 hP rfl rfl rfl hP rfl rfl hl.1 (Nat.le_of_ble_eq_true rfl) dX6_push_92 ⟨Nat.le_of_ble_eq_true rfl, Nat.le_of_ble_eq_true rfl⟩) ?_
              refine b_if_eq (tgt := 108) hx hb dX6_push_95 (by decide) (fun c_95 => ?_) (fun c_95 => ?_)
              · refine lv_iconst (v := nI 0) hx hb dX6_push_108 rfl ?_
                refine n_top (y := nI (rMa N k 1)) (by rw [rMa, if_neg c_95]) ?_
                refine xwr (xrunV (As := [.int (nI k), .int (bI (N (10075 + 4 * k + 1) = 1)), .int (nI (N (10075 + 4 * k + 2))), .int (nI (rMa N k 1))]) (rest := []) S (c_X6_comes l G m0 aN aH aS aT N (rRecH Hs N kept) Sl tx (rRecK kept) fil ty at_ nu k (N (10075 + 4 * k + 1) = 1) (N (10075 + 4 * k + 2)) (rMa N k 1) hN hdis (by omega) he3) (cwV 4 hts gX6_push_X6_comes rfl rfl rfl (by decide +kernel) ⟨Nat.le_of_ble_eq_true rfl, Nat.le_of_ble_eq_true rfl⟩) hE hS hA 0 6 hP rfl rfl rfl hP rfl rfl hl.1 (Nat.le_of_ble_eq_true rfl) dX6_push_109 ⟨Nat.le_of_ble_eq_true rfl, Nat.le_of_ble_eq_true rfl⟩) hS (fun _ h => h) (fun _ h => h) (fun uw_ H locs hΨ hz hkp hS => ?_)
                have hP : va_P G.1 vwCl [(m0, .inr (6, [.ref aN, .ref aH, .int (nI (rRecK kept)), .ref aS, .int (nI fil), .int (nI ty), .ref aT, .int (nI at_), .int (nI nu)])), (aN, .inl (xcI G, 10276, .inl (nf (rCo N k (N (10075 + 4 * k + 1) = 1) (N (10075 + 4 * k + 2)) (rMa N k 1))))), (aH, .inl (xcI G, 41104, .inl (nf (rRecH Hs N kept)))), (aS, .inl (xcI G, 10276, .inl (nf Sl))), (aT, .inl (xcC G, 60, .inl (nf tx)))] H := hΨ
                have hD : va_D (fun q => q ∈ [m0, aN, aH, aS, aT]) [(m0, .inr (6, [.ref aN, .ref aH, .int (nI (rRecK kept)), .ref aS, .int (nI fil), .int (nI ty), .ref aT, .int (nI at_), .int (nI nu)])), (aN, .inl (xcI G, 10276, .inl (nf (rCo N k (N (10075 + 4 * k + 1) = 1) (N (10075 + 4 * k + 2)) (rMa N k 1))))), (aH, .inl (xcI G, 41104, .inl (nf (rRecH Hs N kept)))), (aS, .inl (xcI G, 10276, .inl (nf Sl))), (aT, .inl (xcC G, 60, .inl (nf tx)))] := (hdis.to rfl)
                refine W.eq (g2 := F0 m 112 ls [.int (nI (N 10171))]) rfl ?_
                refine lv_istore (lv' := [(5, .int (nI (N 10171))), (4, .int (nI 1)), (3, .int (nI ((N (10075 + 4 * k + 2)) + (rLen N k)))), (0, .ref m0), (1, .int (nI k)), (2, .int (nI y))]) hx hb dX6_push_112 hl (by decide) rfl (fun ls hl => ?_)
                refine lv_iload hx hb dX6_push_114 (lv_at hl 1 rfl) ?_
                refine n_if_eq (tgt := 129) hx hb (by omega) dX6_push_116 (by decide) (fun c_116 => ?_) (fun c_116 => ?_)
                · exact absurd c_116 (by decide)
                · refine lv_aload_n hx hb dX6_push_119 rfl (lv_at hl 3 rfl) ?_
                  refine lv_iload hx hb dX6_push_120 (lv_at hl 0 rfl) ?_
                  refine lv_iload_n hx hb dX6_push_122 rfl (lv_at hl 5 rfl) ?_
                  refine xwr (xrunV (As := [.int (nI (N 10171)), .int (nI y)]) (rest := []) S (c_X6_pushes l G m0 aN aH aS aT (rCo N k (N (10075 + 4 * k + 1) = 1) (N (10075 + 4 * k + 2)) (rMa N k 1)) (rRecH Hs N kept) Sl tx (rRecK kept) fil ty at_ nu (N 10171) y (rCo_lt hN (by omega) (by omega) (by have := rMa_lt hN k 1 (by omega); omega)) hdis (by omega) (by rw [rCo_len he3]; omega) (by rw [rCo_made he3]; exact hM)) (cwV 2 hts gX6_push_X6_pushes rfl rfl rfl (by decide +kernel) ⟨Nat.le_of_ble_eq_true rfl, Nat.le_of_ble_eq_true rfl⟩) hE hS hA 0 6 hP rfl rfl rfl hP rfl rfl hl.1 (Nat.le_of_ble_eq_true rfl) dX6_push_123 ⟨Nat.le_of_ble_eq_true rfl, Nat.le_of_ble_eq_true rfl⟩) hS (fun _ h => h) (fun _ h => h) (fun uw_ H locs hΨ hz hkp hS => ?_)
                  have hP : va_P G.1 vwCl [(m0, .inr (6, [.ref aN, .ref aH, .int (nI (rRecK kept)), .ref aS, .int (nI fil), .int (nI ty), .ref aT, .int (nI at_), .int (nI nu)])), (aN, .inl (xcI G, 10276, .inl (nf (rPu (rCo N k (N (10075 + 4 * k + 1) = 1) (N (10075 + 4 * k + 2)) (rMa N k 1)) (N 10171) y)))), (aH, .inl (xcI G, 41104, .inl (nf (rRecH Hs N kept)))), (aS, .inl (xcI G, 10276, .inl (nf Sl))), (aT, .inl (xcC G, 60, .inl (nf tx)))] H := hΨ
                  have hD : va_D (fun q => q ∈ [m0, aN, aH, aS, aT]) [(m0, .inr (6, [.ref aN, .ref aH, .int (nI (rRecK kept)), .ref aS, .int (nI fil), .int (nI ty), .ref aT, .int (nI at_), .int (nI nu)])), (aN, .inl (xcI G, 10276, .inl (nf (rPu (rCo N k (N (10075 + 4 * k + 1) = 1) (N (10075 + 4 * k + 2)) (rMa N k 1)) (N 10171) y)))), (aH, .inl (xcI G, 41104, .inl (nf (rRecH Hs N kept)))), (aS, .inl (xcI G, 10276, .inl (nf Sl))), (aT, .inl (xcC G, 60, .inl (nf tx)))] := (hdis.to rfl)
                  refine W.eq (g2 := F0 m 126 ls []) rfl ?_
                  refine lv_goto (tgt := 137) hx hb dX6_push_126 (by decide) ?_
                  refine lv_iload hx hb dX6_push_137 (lv_at hl 0 rfl) ?_
                  have eR : rmPush (N, Hs, Sl, tx, kept, fil, ty, at_, nu) (nI k) (nI y) = (nI (N 10171), rPu (rCo N k (N (10075 + 4 * k + 1) = 1) (N (10075 + 4 * k + 2)) (rMa N k 1)) (N 10171) y, (rRecH Hs N kept), Sl, tx, (rRecK kept), fil, ty, at_, nu) := by rw [rmPush, if_neg c_5b, if_neg (fun q => q c_18v), hkc, hyc, rmPushK, if_neg hnf, if_pos c_42]
                  exact xend_i () hx hb hr hk hS (fun _ h => h) dX6_push_139 (by rw [eR]) (by rw [eR]; exact hP) (Nat.le_refl _) (Nat.le_refl _)
              · refine lv_aload_n hx hb dX6_push_98 rfl (lv_at hl 2 rfl) ?_
                refine lv_iload_n hx hb dX6_push_99 rfl (lv_at hl 3 rfl) ?_
                refine xrd (xrunV (As := [.int (nI k)]) (rest := [.int (nI (N (10075 + 4 * k + 2))), .int (bI (N (10075 + 4 * k + 1) = 1)), .int (nI k), .ref m0]) S (c_X6_length l G m0 aN aH aS aT N (rRecH Hs N kept) Sl tx (rRecK kept) fil ty at_ nu k hN (by omega)) (cwV 1 hts gX6_push_X6_length rfl rfl rfl (by decide +kernel) ⟨Nat.le_of_ble_eq_true rfl, Nat.le_of_ble_eq_true rfl⟩) hE hS hA 0 6 hP rfl rfl rfl hP rfl rfl hl.1 (Nat.le_of_ble_eq_true rfl) dX6_push_100 ⟨Nat.le_of_ble_eq_true rfl, Nat.le_of_ble_eq_true rfl⟩) ?_
                refine lv_iconst (v := nI 1) hx hb dX6_push_103 rfl ?_
                refine n_iadd hx hb dX6_push_104 ?_
                refine n_top (y := nI (rMa N k 1)) (by rw [rMa, if_pos c_95]) ?_
                refine lv_goto (tgt := 109) hx hb dX6_push_105 (by decide) ?_
                refine xwr (xrunV (As := [.int (nI k), .int (bI (N (10075 + 4 * k + 1) = 1)), .int (nI (N (10075 + 4 * k + 2))), .int (nI (rMa N k 1))]) (rest := []) S (c_X6_comes l G m0 aN aH aS aT N (rRecH Hs N kept) Sl tx (rRecK kept) fil ty at_ nu k (N (10075 + 4 * k + 1) = 1) (N (10075 + 4 * k + 2)) (rMa N k 1) hN hdis (by omega) he3) (cwV 4 hts gX6_push_X6_comes rfl rfl rfl (by decide +kernel) ⟨Nat.le_of_ble_eq_true rfl, Nat.le_of_ble_eq_true rfl⟩) hE hS hA 0 6 hP rfl rfl rfl hP rfl rfl hl.1 (Nat.le_of_ble_eq_true rfl) dX6_push_109 ⟨Nat.le_of_ble_eq_true rfl, Nat.le_of_ble_eq_true rfl⟩) hS (fun _ h => h) (fun _ h => h) (fun uw_ H locs hΨ hz hkp hS => ?_)
                have hP : va_P G.1 vwCl [(m0, .inr (6, [.ref aN, .ref aH, .int (nI (rRecK kept)), .ref aS, .int (nI fil), .int (nI ty), .ref aT, .int (nI at_), .int (nI nu)])), (aN, .inl (xcI G, 10276, .inl (nf (rCo N k (N (10075 + 4 * k + 1) = 1) (N (10075 + 4 * k + 2)) (rMa N k 1))))), (aH, .inl (xcI G, 41104, .inl (nf (rRecH Hs N kept)))), (aS, .inl (xcI G, 10276, .inl (nf Sl))), (aT, .inl (xcC G, 60, .inl (nf tx)))] H := hΨ
                have hD : va_D (fun q => q ∈ [m0, aN, aH, aS, aT]) [(m0, .inr (6, [.ref aN, .ref aH, .int (nI (rRecK kept)), .ref aS, .int (nI fil), .int (nI ty), .ref aT, .int (nI at_), .int (nI nu)])), (aN, .inl (xcI G, 10276, .inl (nf (rCo N k (N (10075 + 4 * k + 1) = 1) (N (10075 + 4 * k + 2)) (rMa N k 1))))), (aH, .inl (xcI G, 41104, .inl (nf (rRecH Hs N kept)))), (aS, .inl (xcI G, 10276, .inl (nf Sl))), (aT, .inl (xcC G, 60, .inl (nf tx)))] := (hdis.to rfl)
                refine W.eq (g2 := F0 m 112 ls [.int (nI (N 10171))]) rfl ?_
                refine lv_istore (lv' := [(5, .int (nI (N 10171))), (4, .int (nI 1)), (3, .int (nI ((N (10075 + 4 * k + 2)) + (rLen N k)))), (0, .ref m0), (1, .int (nI k)), (2, .int (nI y))]) hx hb dX6_push_112 hl (by decide) rfl (fun ls hl => ?_)
                refine lv_iload hx hb dX6_push_114 (lv_at hl 1 rfl) ?_
                refine n_if_eq (tgt := 129) hx hb (by omega) dX6_push_116 (by decide) (fun c_116 => ?_) (fun c_116 => ?_)
                · exact absurd c_116 (by decide)
                · refine lv_aload_n hx hb dX6_push_119 rfl (lv_at hl 3 rfl) ?_
                  refine lv_iload hx hb dX6_push_120 (lv_at hl 0 rfl) ?_
                  refine lv_iload_n hx hb dX6_push_122 rfl (lv_at hl 5 rfl) ?_
                  refine xwr (xrunV (As := [.int (nI (N 10171)), .int (nI y)]) (rest := []) S (c_X6_pushes l G m0 aN aH aS aT (rCo N k (N (10075 + 4 * k + 1) = 1) (N (10075 + 4 * k + 2)) (rMa N k 1)) (rRecH Hs N kept) Sl tx (rRecK kept) fil ty at_ nu (N 10171) y (rCo_lt hN (by omega) (by omega) (by have := rMa_lt hN k 1 (by omega); omega)) hdis (by omega) (by rw [rCo_len he3]; omega) (by rw [rCo_made he3]; exact hM)) (cwV 2 hts gX6_push_X6_pushes rfl rfl rfl (by decide +kernel) ⟨Nat.le_of_ble_eq_true rfl, Nat.le_of_ble_eq_true rfl⟩) hE hS hA 0 6 hP rfl rfl rfl hP rfl rfl hl.1 (Nat.le_of_ble_eq_true rfl) dX6_push_123 ⟨Nat.le_of_ble_eq_true rfl, Nat.le_of_ble_eq_true rfl⟩) hS (fun _ h => h) (fun _ h => h) (fun uw_ H locs hΨ hz hkp hS => ?_)
                  have hP : va_P G.1 vwCl [(m0, .inr (6, [.ref aN, .ref aH, .int (nI (rRecK kept)), .ref aS, .int (nI fil), .int (nI ty), .ref aT, .int (nI at_), .int (nI nu)])), (aN, .inl (xcI G, 10276, .inl (nf (rPu (rCo N k (N (10075 + 4 * k + 1) = 1) (N (10075 + 4 * k + 2)) (rMa N k 1)) (N 10171) y)))), (aH, .inl (xcI G, 41104, .inl (nf (rRecH Hs N kept)))), (aS, .inl (xcI G, 10276, .inl (nf Sl))), (aT, .inl (xcC G, 60, .inl (nf tx)))] H := hΨ
                  have hD : va_D (fun q => q ∈ [m0, aN, aH, aS, aT]) [(m0, .inr (6, [.ref aN, .ref aH, .int (nI (rRecK kept)), .ref aS, .int (nI fil), .int (nI ty), .ref aT, .int (nI at_), .int (nI nu)])), (aN, .inl (xcI G, 10276, .inl (nf (rPu (rCo N k (N (10075 + 4 * k + 1) = 1) (N (10075 + 4 * k + 2)) (rMa N k 1)) (N 10171) y)))), (aH, .inl (xcI G, 41104, .inl (nf (rRecH Hs N kept)))), (aS, .inl (xcI G, 10276, .inl (nf Sl))), (aT, .inl (xcC G, 60, .inl (nf tx)))] := (hdis.to rfl)
                  refine W.eq (g2 := F0 m 126 ls []) rfl ?_
                  refine lv_goto (tgt := 137) hx hb dX6_push_126 (by decide) ?_
                  refine lv_iload hx hb dX6_push_137 (lv_at hl 0 rfl) ?_
                  have eR : rmPush (N, Hs, Sl, tx, kept, fil, ty, at_, nu) (nI k) (nI y) = (nI (N 10171), rPu (rCo N k (N (10075 + 4 * k + 1) = 1) (N (10075 + 4 * k + 2)) (rMa N k 1)) (N 10171) y, (rRecH Hs N kept), Sl, tx, (rRecK kept), fil, ty, at_, nu) := by rw [rmPush, if_neg c_5b, if_neg (fun q => q c_18v), hkc, hyc, rmPushK, if_neg hnf, if_pos c_42]
                  exact xend_i () hx hb hr hk hS (fun _ h => h) dX6_push_139 (by rw [eR]) (by rw [eR]; exact hP) (Nat.le_refl _) (Nat.le_refl _)
            · refine lv_bipush (v := (-3)) hx hb dX6_push_71 (by decide) ?_
              have eR : rmPush (N, Hs, Sl, tx, kept, fil, ty, at_, nu) (nI k) (nI y) = ((-3), N, Hs, Sl, tx, kept, fil, ty, at_, nu) := by rw [rmPush, if_neg c_5b, if_neg (fun q => q c_18v), hkc, hyc, rmPushK, if_pos (Or.inr ⟨c_42, c_68⟩)]
              exact xend_i () hx hb hr hk hS (fun _ h => h) dX6_push_73 (by rw [eR]) (by rw [eR]; exact hP) (Nat.le_refl _) (Nat.le_refl _)
    · refine lv_bipush (v := (-2)) hx hb dX6_push_21 (by decide) ?_
      have eR : rmPush (N, Hs, Sl, tx, kept, fil, ty, at_, nu) (nI k) x = ((-2), N, Hs, Sl, tx, kept, fil, ty, at_, nu) := by rw [rmPush, if_neg c_5b, if_pos c_18]
      exact xend_i () hx hb hr hk hS (fun _ h => h) dX6_push_23 (by rw [eR]) (by rw [eR]; exact hP) (Nat.le_refl _) (Nat.le_refl _)
  · refine lv_iconst (v := (-1)) hx hb dX6_push_8 rfl ?_
    have eR : rmPush (N, Hs, Sl, tx, kept, fil, ty, at_, nu) v x = ((-1), N, Hs, Sl, tx, kept, fil, ty, at_, nu) := by rw [rmPush, if_pos c_5]
    exact xend_i () hx hb hr hk hS (fun _ h => h) dX6_push_9 (by rw [eR]) (by rw [eR]; exact hP) (Nat.le_refl _) (Nat.le_refl _)

noncomputable def rmSetK (M : RM) (k j y : Nat) : Int32 × RM := match M with
  | (N, Hs, Sl, tx, kept, fil, ty, at_, nu) =>
    if N 10171 = 24 then (-3, M)
    else (nI (N 10171), rSe (rCo N k (N (10075 + 4 * k + 1) = 1) (N (10075 + 4 * k + 2)) (rMa N k 0)) (N 10171) (rCo N k (N (10075 + 4 * k + 1) = 1) (N (10075 + 4 * k + 2)) (rMa N k 0) (10075 + 4 * k + 2) + j) y, rRecH Hs N kept, Sl, tx, rRecK kept, fil, ty, at_, nu)
noncomputable def rmSet (M : RM) (v p x : Int32) : Int32 × RM := if rNo M.1 v ∨ ¬ (nI 0 ≤ p ∧ p ≤ nI (rLen M.1 v.toNatClampNeg) - nI 1) then (-1, M) else if ¬ rVl x then (-2, M) else rmSetK M v.toNatClampNeg p.toNatClampNeg x.toNatClampNeg
noncomputable def rmPopK (M : RM) (k : Nat) : Int32 × RM := match M with
  | (N, Hs, Sl, tx, kept, fil, ty, at_, nu) =>
    if rLen N k = 0 then (-4, M) else if N 10171 = 24 then (-3, M)
    else (nI (N 10171), (if N (10075 + 4 * k + 1) = 1 then rCo N k True (N (10075 + 4 * k + 2)) (rLen N k - 1) else rPo (rCo N k False 0 0) (N 10171)), rRecH Hs N kept, Sl, tx, rRecK kept, fil, ty, at_, nu)
noncomputable def rmPop (M : RM) (v : Int32) : Int32 × RM := if rNo M.1 v then (-1, M) else rmPopK M v.toNatClampNeg
noncomputable def rmWinK (M : RM) (k f n : Nat) : Int32 × RM := match M with
  | (N, Hs, Sl, tx, kept, fil, ty, at_, nu) =>
    if N 10171 = 24 then (-3, M)
    else (nI (N 10171), rCo N k True (N (10075 + 4 * k + 2) + f) n, rRecH Hs N kept, Sl, tx, rRecK kept, fil, ty, at_, nu)
noncomputable def rmWin (M : RM) (v f n : Int32) : Int32 × RM := if rNo M.1 v then (-1, M) else if ¬ (nI 0 ≤ f ∧ f ≤ nI (rLen M.1 v.toNatClampNeg)) ∨ ¬ (nI 0 ≤ n ∧ n ≤ nI (rLen M.1 v.toNatClampNeg) - f) then (-2, M) else rmWinK M v.toNatClampNeg f.toNatClampNeg n.toNatClampNeg
def rmDropK (M : RM) (k : Nat) : Int32 × RM := match M with
  | (N, Hs, Sl, tx, kept, fil, ty, at_, nu) => (nI (sumN (fun z => updN N (10075 + 4 * k) 0 (10075 + 4 * z)) (updN N (10075 + 4 * k) 0 10171)), updN N (10075 + 4 * k) 0, rRecH Hs N kept, Sl, tx, rRecK kept, fil, ty, at_, nu)
def rmDrop (M : RM) (v : Int32) : Int32 × RM := if rNo M.1 v then (-1, M) else rmDropK M v.toNatClampNeg
def rmBegK (M : RM) (k : Nat) : Int32 × RM := match M with
  | (N, Hs, Sl, tx, kept, fil, ty, at_, nu) => if ¬ N 10173 = 0 ∨ N (10075 + 4 * k + 1) = 1 then (-4, M)
    else (nI (updN (clrN (cpyN N k 24 403) 102) 10173 1 (403 * 24)), updN (clrN (cpyN N k 24 403) 102) 10173 1, rRecH Hs N kept, Sl, tx, rRecK kept, fil, ty, at_, nu)
def rmBeg (M : RM) (v : Int32) : Int32 × RM := if rNo M.1 v then (-1, M) else rmBegK M v.toNatClampNeg
def rmEpuK (M : RM) (y : Nat) : Int32 × RM := match M with
  | (N, Hs, Sl, tx, kept, fil, ty, at_, nu) => if N (403 * 24) = 300 then (-3, M) else (nI (rPu N 24 y 10172) - nI (N 10172), rPu N 24 y, rRecH Hs N kept, Sl, tx, rRecK kept, fil, ty, at_, nu)
def rmEpu (M : RM) (x : Int32) : Int32 × RM := if M.1 10173 = 0 then (-4, M) else if ¬ rVl x then (-2, M) else rmEpuK M x.toNatClampNeg
def rmEseK (M : RM) (j y : Nat) : Int32 × RM := match M with
  | (N, Hs, Sl, tx, kept, fil, ty, at_, nu) => (nI (rSe N 24 j y 10172) - nI (N 10172), rSe N 24 j y, rRecH Hs N kept, Sl, tx, rRecK kept, fil, ty, at_, nu)
def rmEse (M : RM) (p x : Int32) : Int32 × RM := if M.1 10173 = 0 then (-4, M) else if ¬ (nI 0 ≤ p ∧ p ≤ nI (M.1 (403 * 24)) - nI 1) then (-1, M) else if ¬ rVl x then (-2, M) else rmEseK M p.toNatClampNeg x.toNatClampNeg
def rmEpo (M : RM) : Int32 × RM := match M with
  | (N, Hs, Sl, tx, kept, fil, ty, at_, nu) => if N 10173 = 0 ∨ N (403 * 24) = 0 then (-4, M) else (nI (rPo N 24 10172) - nI (N 10172), rPo N 24, rRecH Hs N kept, Sl, tx, rRecK kept, fil, ty, at_, nu)
noncomputable def rmFin (M : RM) : Int32 × RM := match M with
  | (N, Hs, Sl, tx, kept, fil, ty, at_, nu) => if N 10173 = 0 then (-4, M) else if N 10171 = 24 then (-3, M) else (nI (updN N 10173 0 10171), rCo (updN N 10173 0) 24 False 0 0, rRecH Hs N kept, Sl, tx, rRecK kept, fil, ty, at_, nu)
def rmAba (M : RM) : Int32 × RM := match M with
  | (N, Hs, Sl, tx, kept, fil, ty, at_, nu) => if N 10173 = 0 then (-4, M) else (nI (updN N 10173 0 (403 * 24)), updN N 10173 0, rRecH Hs N kept, Sl, tx, rRecK kept, fil, ty, at_, nu)
def rmTyp (M : RM) (x : Nat) : Int32 × RM := match M with
  | (N, Hs, Sl, tx, kept, fil, ty, at_, nu) => if ty = 60 then (-3, M) else (nI (ty + 1), N, Hs, Sl, updN tx ty x, kept, fil, ty + 1, at_, nu)
def rmClr (M : RM) : Int32 × RM := match M with
  | (N, Hs, Sl, tx, kept, fil, ty, at_, nu) => (nI ty, N, Hs, Sl, tx, kept, fil, 0, at_, nu)
def rmUnd (M : RM) : Int32 × RM := match M with
  | (N, Hs, Sl, tx, kept, fil, ty, at_, nu) => if kept = 0 then (-5, M) else (nI (kept - 1), cpA N (fun j => Hs (10276 * (kept - 1) + j)) 10276, Hs, Sl, tx, kept - 1, fil, ty, at_, nu)
def rmKee (M : RM) : Int32 × RM := match M with
  | (N, Hs, Sl, tx, kept, fil, ty, at_, nu) => (nI (N 10172), N, Hs, cpA Sl N 10276, tx, kept, 1, ty, at_, nu)
def rmRes (M : RM) : Int32 × RM := match M with
  | (N, Hs, Sl, tx, kept, fil, ty, at_, nu) => if fil = 0 then (-5, M) else (nI (cpA N Sl 10276 10172), cpA N Sl 10276, rRecH Hs N kept, Sl, tx, rRecK kept, fil, ty, at_, nu)

set_option maxHeartbeats 4000000 in
set_option maxRecDepth 100000 in
theorem c_X6_set (l : Launch) (G : xG) (m0 : Nat) (aN : Nat) (aH : Nat) (aS : Nat) (aT : Nat) (N : Nat → Nat) (Hs : Nat → Nat) (Sl : Nat → Nat) (tx : Nat → Nat) (kept : Nat) (fil : Nat) (ty : Nat) (at_ : Nat) (nu : Nat) (v : Int32) (q : Int32) (x : Int32) (hN : ∀ j, N j < 2 ^ 24) (hdis : xDis (xB0 G) [m0, aN, aH, aS, aT]) (hev : 1 ≤ N 10171) (hev2 : N 10171 ≤ 24) (hrows : ∀ v, v ≤ 24 → N (403 * v) ≤ 300) (hwin : ∀ v, v < N 10171 → N (10075 + 4 * v + 2) + rLen N v ≤ N (403 * v)) (hM : N 10172 < 2 ^ 23) (hk4 : kept ≤ 4) (htx : ∀ j, tx j < 65536) (hty : ty ≤ 60) : Met l yX6_set wsX6_set ({ frames := 3, cells := 0, slots := 0, locals := 71 } : Room) (xPc G [.ref m0, .int v, .int q, .int x] (fun H => va_P G.1 vwCl [(m0, .inr (6, [.ref aN, .ref aH, .int (nI kept), .ref aS, .int (nI fil), .int (nI ty), .ref aT, .int (nI at_), .int (nI nu)])), (aN, .inl (xcI G, 10276, .inl (nf N))), (aH, .inl (xcI G, 41104, .inl (nf Hs))), (aS, .inl (xcI G, 10276, .inl (nf Sl))), (aT, .inl (xcC G, 60, .inl (nf tx)))] H)) (xQ (σ := Unit) (fun _ => some (.int ((rmSet (N, Hs, Sl, tx, kept, fil, ty, at_, nu) v q x).1))) (fun _ H => va_P G.1 vwCl [(m0, .inr (6, [.ref aN, .ref aH, .int (nI ((rmSet (N, Hs, Sl, tx, kept, fil, ty, at_, nu) v q x).2.2.2.2.2.1)), .ref aS, .int (nI ((rmSet (N, Hs, Sl, tx, kept, fil, ty, at_, nu) v q x).2.2.2.2.2.2.1)), .int (nI ((rmSet (N, Hs, Sl, tx, kept, fil, ty, at_, nu) v q x).2.2.2.2.2.2.2.1)), .ref aT, .int (nI ((rmSet (N, Hs, Sl, tx, kept, fil, ty, at_, nu) v q x).2.2.2.2.2.2.2.2.1)), .int (nI ((rmSet (N, Hs, Sl, tx, kept, fil, ty, at_, nu) v q x).2.2.2.2.2.2.2.2.2))])), (aN, .inl (xcI G, 10276, .inl (nf ((rmSet (N, Hs, Sl, tx, kept, fil, ty, at_, nu) v q x).2.1)))), (aH, .inl (xcI G, 41104, .inl (nf ((rmSet (N, Hs, Sl, tx, kept, fil, ty, at_, nu) v q x).2.2.1)))), (aS, .inl (xcI G, 10276, .inl (nf ((rmSet (N, Hs, Sl, tx, kept, fil, ty, at_, nu) v q x).2.2.2.1)))), (aT, .inl (xcC G, 60, .inl (nf ((rmSet (N, Hs, Sl, tx, kept, fil, ty, at_, nu) v q x).2.2.2.2.1))))] H) (fun q => q ∈ [m0, aN, aH, aS, aT])) 0 0 (fun q => q ∈ [m0, aN, aH, aS, aT]) := by
  refine xMet (cc := cX6_set) (nL := 5) (ret := (some (.int))) (by decide) rfl (Nat.le_of_ble_eq_true rfl) ?_
  intro p e s m below meth c S hr hk hnm hE hP ls hl
  obtain ⟨hx, hb, hml, hown, hts⟩ := id S
  have hown : s.vm.findClass RX6 = some m.cls := hown
  have hK := hE.1
  have hS : va_S (fun q => q ∈ [m0, aN, aH, aS, aT]) s.heap s.heap [] := va_S.rf
  have hA : ∀ q, (fun q => q ∈ [m0, aN, aH, aS, aT]) q → xB0 G ≤ q := hdis.2
  have hP : va_P G.1 vwCl [(m0, .inr (6, [.ref aN, .ref aH, .int (nI kept), .ref aS, .int (nI fil), .int (nI ty), .ref aT, .int (nI at_), .int (nI nu)])), (aN, .inl (xcI G, 10276, .inl (nf N))), (aH, .inl (xcI G, 41104, .inl (nf Hs))), (aS, .inl (xcI G, 10276, .inl (nf Sl))), (aT, .inl (xcC G, 60, .inl (nf tx)))] s.heap := hP
  have hD : va_D (fun q => q ∈ [m0, aN, aH, aS, aT]) [(m0, .inr (6, [.ref aN, .ref aH, .int (nI kept), .ref aS, .int (nI fil), .int (nI ty), .ref aT, .int (nI at_), .int (nI nu)])), (aN, .inl (xcI G, 10276, .inl (nf N))), (aH, .inl (xcI G, 41104, .inl (nf Hs))), (aS, .inl (xcI G, 10276, .inl (nf Sl))), (aT, .inl (xcC G, 60, .inl (nf tx)))] := (hdis.to rfl)
  have hl : lv_has ls 5 [(0, .ref m0), (1, .int v), (2, .int q), (3, .int x)] := hl
  refine lv_aload_n hx hb dX6_set_0 rfl (lv_at hl 0 rfl) ?_
  refine lv_iload_n hx hb dX6_set_1 rfl (lv_at hl 1 rfl) ?_
  refine xrd (xrunV (As := [.int v]) (rest := []) S (c_X6_no l G m0 aN aH aS aT N Hs Sl tx kept fil ty at_ nu v hN hev hev2) (cwV 1 hts gX6_set_X6_no rfl rfl rfl (by decide +kernel) ⟨Nat.le_of_ble_eq_true rfl, Nat.le_of_ble_eq_true rfl⟩) hE hS hA 0 6 hP rfl rfl rfl hP rfl rfl hl.1 (Nat.le_of_ble_eq_true rfl) dX6_set_2 ⟨Nat.le_of_ble_eq_true rfl, Nat.le_of_ble_eq_true rfl⟩) ?_
  refine b_if_ne (tgt := 23) hx hb dX6_set_5 (by decide) (fun c_5 => ?_) (fun c_5 => ?_)
  · refine lv_iconst (v := (-1)) hx hb dX6_set_23 rfl ?_
    have eR : rmSet (N, Hs, Sl, tx, kept, fil, ty, at_, nu) v q x = ((-1), N, Hs, Sl, tx, kept, fil, ty, at_, nu) := by rw [rmSet, if_pos (Or.inl c_5)]
    exact xend_i () hx hb hr hk hS (fun _ h => h) dX6_set_24 (by rw [eR]) (by rw [eR]; exact hP) (Nat.le_refl _) (Nat.le_refl _)
  · have c_5b := c_5
    obtain ⟨k, rfl, hk1, hk2⟩ := rNo_not hev hev2 c_5
    have hkc : (nI k).toNatClampNeg = k := nI_clamp (by omega)
    have hwk := hwin k hk1
    have hrk := hrows k (by omega)
    refine lv_iload_n hx hb dX6_set_8 rfl (lv_at hl 2 rfl) ?_
    refine lv_iconst (v := nI 0) hx hb dX6_set_9 rfl ?_
    refine lv_aload_n hx hb dX6_set_10 rfl (lv_at hl 0 rfl) ?_
    refine lv_iload_n hx hb dX6_set_11 rfl (lv_at hl 1 rfl) ?_
    refine xrd (xrunV (As := [.int (nI k)]) (rest := [.int (nI 0), .int q]) S (c_X6_length l G m0 aN aH aS aT N Hs Sl tx kept fil ty at_ nu k hN (by omega)) (cwV 1 hts gX6_set_X6_length rfl rfl rfl (by decide +kernel) ⟨Nat.le_of_ble_eq_true rfl, Nat.le_of_ble_eq_true rfl⟩) hE hS hA 0 6 hP rfl rfl rfl hP rfl rfl hl.1 (Nat.le_of_ble_eq_true rfl) dX6_set_12 ⟨Nat.le_of_ble_eq_true rfl, Nat.le_of_ble_eq_true rfl⟩) ?_
    refine lv_iconst (v := nI 1) hx hb dX6_set_15 rfl ?_
    refine lv_isub hx hb dX6_set_16 ?_
    refine xrd (xrunS (As := [.int q, .int (nI 0), .int ((nI (rLen N k)) - (nI 1))]) (rest := []) S (c_X6_in l G q (nI 0) ((nI (rLen N k)) - (nI 1)) ) (va_cwS 3 hts gX6_set_X6_in rfl rfl rfl (by decide +kernel) ⟨Nat.le_of_ble_eq_true rfl, Nat.le_of_ble_eq_true rfl⟩) hE hS hA trivial rfl rfl hl.1 (Nat.le_of_ble_eq_true rfl) dX6_set_17 ⟨Nat.le_of_ble_eq_true rfl, Nat.le_of_ble_eq_true rfl⟩) ?_
    refine b_if_ne (tgt := 25) hx hb dX6_set_20 (by decide) (fun c_20 => ?_) (fun c_20 => ?_)
    · have hnp : ¬ (rNo N (nI k) ∨ ¬ (nI 0 ≤ q ∧ q ≤ nI (rLen N (nI k).toNatClampNeg) - nI 1)) := fun z => z.elim c_5b (fun w => w (by rw [hkc]; exact c_20))
      obtain ⟨j, hj9, rfl⟩ := xin_of1 (rLen_lt hN k) c_20
      have hjc : (nI j).toNatClampNeg = j := nI_clamp (by omega)
      refine lv_iload_n hx hb dX6_set_25 rfl (lv_at hl 3 rfl) ?_
      refine lv_iconst (v := nI 0) hx hb dX6_set_26 rfl ?_
      refine lv_sipush (v := nI 999) hx hb dX6_set_27 (by decide) ?_
      refine xrd (xrunS (As := [.int x, .int (nI 0), .int (nI 999)]) (rest := []) S (c_X6_in l G x (nI 0) (nI 999) ) (va_cwS 3 hts gX6_set_X6_in rfl rfl rfl (by decide +kernel) ⟨Nat.le_of_ble_eq_true rfl, Nat.le_of_ble_eq_true rfl⟩) hE hS hA trivial rfl rfl hl.1 (Nat.le_of_ble_eq_true rfl) dX6_set_30 ⟨Nat.le_of_ble_eq_true rfl, Nat.le_of_ble_eq_true rfl⟩) ?_
      refine b_if_ne (tgt := 39) hx hb dX6_set_33 (by decide) (fun c_33 => ?_) (fun c_33 => ?_)
      · have c_33v := c_33
        obtain ⟨y, hy9, rfl⟩ := xin_of (by omega) c_33
        have hyc : (nI y).toNatClampNeg = y := nI_clamp (by omega)
        refine lv_aload_n hx hb dX6_set_39 rfl (lv_at hl 0 rfl) ?_
        refine xrd (xrunV (As := []) (rest := []) S (c_X6_isFull l G m0 aN aH aS aT N Hs Sl tx kept fil ty at_ nu hN) (cwV 0 hts gX6_set_X6_isFull rfl rfl rfl (by decide +kernel) ⟨Nat.le_of_ble_eq_true rfl, Nat.le_of_ble_eq_true rfl⟩) hE hS hA 0 6 hP rfl rfl rfl hP rfl rfl hl.1 (Nat.le_of_ble_eq_true rfl) dX6_set_40 ⟨Nat.le_of_ble_eq_true rfl, Nat.le_of_ble_eq_true rfl⟩) ?_
        refine b_if_eq (tgt := 49) hx hb dX6_set_43 (by decide) (fun c_43 => ?_) (fun c_43 => ?_)
        · have he3 : N 10171 < 24 := by omega
          refine lv_aload_n hx hb dX6_set_49 rfl (lv_at hl 0 rfl) ?_
          refine xwr (xrunV (As := []) (rest := []) S (c_X6_record l G m0 aN aH aS aT N Hs Sl tx kept fil ty at_ nu hN hdis hk4) (cwV 0 hts gX6_set_X6_record rfl rfl rfl (by decide +kernel) ⟨Nat.le_of_ble_eq_true rfl, Nat.le_of_ble_eq_true rfl⟩) hE hS hA 0 6 hP rfl rfl rfl hP rfl rfl hl.1 (Nat.le_of_ble_eq_true rfl) dX6_set_50 ⟨Nat.le_of_ble_eq_true rfl, Nat.le_of_ble_eq_true rfl⟩) hS (fun _ h => h) (fun _ h => h) (fun uw_ H locs hΨ hz hkp hS => ?_)
          have hP : va_P G.1 vwCl [(m0, .inr (6, [.ref aN, .ref aH, .int (nI (rRecK kept)), .ref aS, .int (nI fil), .int (nI ty), .ref aT, .int (nI at_), .int (nI nu)])), (aN, .inl (xcI G, 10276, .inl (nf N))), (aH, .inl (xcI G, 41104, .inl (nf (rRecH Hs N kept)))), (aS, .inl (xcI G, 10276, .inl (nf Sl))), (aT, .inl (xcC G, 60, .inl (nf tx)))] H := hΨ
          have hD : va_D (fun q => q ∈ [m0, aN, aH, aS, aT]) [(m0, .inr (6, [.ref aN, .ref aH, .int (nI (rRecK kept)), .ref aS, .int (nI fil), .int (nI ty), .ref aT, .int (nI at_), .int (nI nu)])), (aN, .inl (xcI G, 10276, .inl (nf N))), (aH, .inl (xcI G, 41104, .inl (nf (rRecH Hs N kept)))), (aS, .inl (xcI G, 10276, .inl (nf Sl))), (aT, .inl (xcC G, 60, .inl (nf tx)))] := (hdis.to rfl)
          refine W.eq (g2 := F0 m 53 ls []) rfl ?_
          refine lv_aload_n hx hb dX6_set_53 rfl (lv_at hl 0 rfl) ?_
          refine lv_iload_n hx hb dX6_set_54 rfl (lv_at hl 1 rfl) ?_
          refine lv_aload_n hx hb dX6_set_55 rfl (lv_at hl 0 rfl) ?_
          refine lv_iload_n hx hb dX6_set_56 rfl (lv_at hl 1 rfl) ?_
          refine xrd (xrunV (As := [.int (nI k)]) (rest := [.int (nI k), .ref m0]) S (c_X6_isWindow l G m0 aN aH aS aT N (rRecH Hs N kept) Sl tx (rRecK kept) fil ty at_ nu k hN (by omega)) (cwV 1 hts gX6_set_X6_isWindow rfl rfl rfl (by decide +kernel) ⟨Nat.le_of_ble_eq_true rfl, Nat.le_of_ble_eq_true rfl⟩) hE hS hA 0 6 hP rfl rfl rfl hP rfl rfl hl.1 (Nat.le_of_ble_eq_true rfl) dX6_set_57 ⟨Nat.le_of_ble_eq_true rfl, Nat.le_of_ble_eq_true rfl⟩) ?_
          refine lv_aload_n hx hb dX6_set_60 rfl (lv_at hl 0 rfl) ?_
          refine lv_iload_n hx hb dX6_set_61 rfl (lv_at hl 1 rfl) ?_
          refine xrd (xrunV (As := [.int (nI k)]) (rest := [.int (bI (N (10075 + 4 * k + 1) = 1)), .int (nI k), .ref m0]) S (c_X6_first l G m0 aN aH aS aT N (rRecH Hs N kept) Sl tx (rRecK kept) fil ty at_ nu k hN (by omega)) (cwV 1 hts gX6_set_X6_first rfl rfl rfl (by decide +kernel) ⟨Nat.le_of_ble_eq_true rfl, Nat.le_of_ble_eq_true rfl⟩) hE hS hA 0 6 hP rfl rfl rfl hP rfl rfl hl.1 (Nat.le_of_ble_eq_true rfl) dX6_set_62 ⟨Nat.le_of_ble_eq_true rfl, Nat.le_of_ble_eq_true rfl⟩) ?_
          refine lv_aload_n hx hb dX6_set_65 rfl (lv_at hl 0 rfl) ?_
          refine lv_iload_n hx hb dX6_set_66 rfl (lv_at hl 1 rfl) ?_
          refine xrd (xrunV (As := [.int (nI k)]) (rest := [.int (nI (N (10075 + 4 * k + 2))), .int (bI (N (10075 + 4 * k + 1) = 1)), .int (nI k), .ref m0]) S (c_X6_isWindow l G m0 aN aH aS aT N (rRecH Hs N kept) Sl tx (rRecK kept) fil ty at_ nu k hN (by omega)) (cwV 1 hts gX6_set_X6_isWindow rfl rfl rfl (by decide +kernel) ⟨Nat.le_of_ble_eq_true rfl, Nat.le_of_ble_eq_true rfl⟩) hE hS hA 0 6 hP rfl rfl rfl hP rfl rfl hl.1 (Nat.le_of_ble_eq_true rfl) dX6_set_67 ⟨Nat.le_of_ble_eq_true rfl, Nat.le_of_ble_eq_true rfl⟩) ?_
          refine b_if_eq (tgt := 81) hx hb dX6_set_70 (by decide) (fun c_70 => ?_) (fun c_70 => ?_)
          · refine lv_iconst (v := nI 0) hx hb dX6_set_81 rfl ?_
            refine n_top (y := nI (rMa N k 0)) (by rw [rMa, if_neg c_70]) ?_
            refine xwr (xrunV (As := [.int (nI k), .int (bI (N (10075 + 4 * k + 1) = 1)), .int (nI (N (10075 + 4 * k + 2))), .int (nI (rMa N k 0))]) (rest := []) S (c_X6_comes l G m0 aN aH aS aT N (rRecH Hs N kept) Sl tx (rRecK kept) fil ty at_ nu k (N (10075 + 4 * k + 1) = 1) (N (10075 + 4 * k + 2)) (rMa N k 0) hN hdis (by omega) he3) (cwV 4 hts gX6_set_X6_comes rfl rfl rfl (by decide +kernel) ⟨Nat.le_of_ble_eq_true rfl, Nat.le_of_ble_eq_true rfl⟩) hE hS hA 0 6 hP rfl rfl rfl hP rfl rfl hl.1 (Nat.le_of_ble_eq_true rfl) dX6_set_82 ⟨Nat.le_of_ble_eq_true rfl, Nat.le_of_ble_eq_true rfl⟩) hS (fun _ h => h) (fun _ h => h) (fun uw_ H locs hΨ hz hkp hS => ?_)
            have hP : va_P G.1 vwCl [(m0, .inr (6, [.ref aN, .ref aH, .int (nI (rRecK kept)), .ref aS, .int (nI fil), .int (nI ty), .ref aT, .int (nI at_), .int (nI nu)])), (aN, .inl (xcI G, 10276, .inl (nf (rCo N k (N (10075 + 4 * k + 1) = 1) (N (10075 + 4 * k + 2)) (rMa N k 0))))), (aH, .inl (xcI G, 41104, .inl (nf (rRecH Hs N kept)))), (aS, .inl (xcI G, 10276, .inl (nf Sl))), (aT, .inl (xcC G, 60, .inl (nf tx)))] H := hΨ
            have hD : va_D (fun q => q ∈ [m0, aN, aH, aS, aT]) [(m0, .inr (6, [.ref aN, .ref aH, .int (nI (rRecK kept)), .ref aS, .int (nI fil), .int (nI ty), .ref aT, .int (nI at_), .int (nI nu)])), (aN, .inl (xcI G, 10276, .inl (nf (rCo N k (N (10075 + 4 * k + 1) = 1) (N (10075 + 4 * k + 2)) (rMa N k 0))))), (aH, .inl (xcI G, 41104, .inl (nf (rRecH Hs N kept)))), (aS, .inl (xcI G, 10276, .inl (nf Sl))), (aT, .inl (xcC G, 60, .inl (nf tx)))] := (hdis.to rfl)
            refine W.eq (g2 := F0 m 85 ls [.int (nI (N 10171))]) rfl ?_
            refine lv_istore (lv' := [(4, .int (nI (N 10171))), (0, .ref m0), (1, .int (nI k)), (2, .int (nI j)), (3, .int (nI y))]) hx hb dX6_set_85 hl (by decide) rfl (fun ls hl => ?_)
            refine lv_aload_n hx hb dX6_set_87 rfl (lv_at hl 1 rfl) ?_
            refine lv_iload hx hb dX6_set_88 (lv_at hl 0 rfl) ?_
            refine lv_aload_n hx hb dX6_set_90 rfl (lv_at hl 1 rfl) ?_
            refine lv_iload_n hx hb dX6_set_91 rfl (lv_at hl 2 rfl) ?_
            refine xrd (xrunV (As := [.int (nI k)]) (rest := [.int (nI (N 10171)), .ref m0]) S (c_X6_first l G m0 aN aH aS aT (rCo N k (N (10075 + 4 * k + 1) = 1) (N (10075 + 4 * k + 2)) (rMa N k 0)) (rRecH Hs N kept) Sl tx (rRecK kept) fil ty at_ nu k (rCo_lt hN (by omega) (by omega) (by have := rMa_lt hN k 0 (by omega); omega)) (by omega)) (cwV 1 hts gX6_set_X6_first rfl rfl rfl (by decide +kernel) ⟨Nat.le_of_ble_eq_true rfl, Nat.le_of_ble_eq_true rfl⟩) hE hS hA 0 6 hP rfl rfl rfl hP rfl rfl hl.1 (Nat.le_of_ble_eq_true rfl) dX6_set_92 ⟨Nat.le_of_ble_eq_true rfl, Nat.le_of_ble_eq_true rfl⟩) ?_
            refine lv_iload_n hx hb dX6_set_95 rfl (lv_at hl 3 rfl) ?_
            have hfi : rCo N k (N (10075 + 4 * k + 1) = 1) (N (10075 + 4 * k + 2)) (rMa N k 0) (10075 + 4 * k + 2) = N (10075 + 4 * k + 2) := by rw [rCo_at he3, if_neg (by omega), if_neg (by omega), if_neg (by omega), if_neg (by omega), if_neg (by omega), if_neg (by omega)]
            refine n_iadd hx hb dX6_set_96 ?_
            refine lv_iload_n hx hb dX6_set_97 rfl (lv_at hl 4 rfl) ?_
            refine xwr (xrunV (As := [.int (nI (N 10171)), .int (nI (((rCo N k (N (10075 + 4 * k + 1) = 1) (N (10075 + 4 * k + 2)) (rMa N k 0)) (10075 + 4 * k + 2)) + j)), .int (nI y)]) (rest := []) S (c_X6_sets l G m0 aN aH aS aT (rCo N k (N (10075 + 4 * k + 1) = 1) (N (10075 + 4 * k + 2)) (rMa N k 0)) (rRecH Hs N kept) Sl tx (rRecK kept) fil ty at_ nu (N 10171) (((rCo N k (N (10075 + 4 * k + 1) = 1) (N (10075 + 4 * k + 2)) (rMa N k 0)) (10075 + 4 * k + 2)) + j) y (rCo_lt hN (by omega) (by omega) (by have := rMa_lt hN k 0 (by omega); omega)) hdis (by omega) (by rw [rCo_len he3]; omega) (by omega) (by rw [rCo_made he3]; exact hM)) (cwV 3 hts gX6_set_X6_sets rfl rfl rfl (by decide +kernel) ⟨Nat.le_of_ble_eq_true rfl, Nat.le_of_ble_eq_true rfl⟩) hE hS hA 0 6 hP rfl rfl rfl hP rfl rfl hl.1 (Nat.le_of_ble_eq_true rfl) dX6_set_98 ⟨Nat.le_of_ble_eq_true rfl, Nat.le_of_ble_eq_true rfl⟩) hS (fun _ h => h) (fun _ h => h) (fun uw_ H locs hΨ hz hkp hS => ?_)
            have hP : va_P G.1 vwCl [(m0, .inr (6, [.ref aN, .ref aH, .int (nI (rRecK kept)), .ref aS, .int (nI fil), .int (nI ty), .ref aT, .int (nI at_), .int (nI nu)])), (aN, .inl (xcI G, 10276, .inl (nf (rSe (rCo N k (N (10075 + 4 * k + 1) = 1) (N (10075 + 4 * k + 2)) (rMa N k 0)) (N 10171) (((rCo N k (N (10075 + 4 * k + 1) = 1) (N (10075 + 4 * k + 2)) (rMa N k 0)) (10075 + 4 * k + 2)) + j) y)))), (aH, .inl (xcI G, 41104, .inl (nf (rRecH Hs N kept)))), (aS, .inl (xcI G, 10276, .inl (nf Sl))), (aT, .inl (xcC G, 60, .inl (nf tx)))] H := hΨ
            have hD : va_D (fun q => q ∈ [m0, aN, aH, aS, aT]) [(m0, .inr (6, [.ref aN, .ref aH, .int (nI (rRecK kept)), .ref aS, .int (nI fil), .int (nI ty), .ref aT, .int (nI at_), .int (nI nu)])), (aN, .inl (xcI G, 10276, .inl (nf (rSe (rCo N k (N (10075 + 4 * k + 1) = 1) (N (10075 + 4 * k + 2)) (rMa N k 0)) (N 10171) (((rCo N k (N (10075 + 4 * k + 1) = 1) (N (10075 + 4 * k + 2)) (rMa N k 0)) (10075 + 4 * k + 2)) + j) y)))), (aH, .inl (xcI G, 41104, .inl (nf (rRecH Hs N kept)))), (aS, .inl (xcI G, 10276, .inl (nf Sl))), (aT, .inl (xcC G, 60, .inl (nf tx)))] := (hdis.to rfl)
            refine W.eq (g2 := F0 m 101 ls []) rfl ?_
            refine lv_iload hx hb dX6_set_101 (lv_at hl 0 rfl) ?_
            have eR : rmSet (N, Hs, Sl, tx, kept, fil, ty, at_, nu) (nI k) (nI j) (nI y) = (nI (N 10171), rSe (rCo N k (N (10075 + 4 * k + 1) = 1) (N (10075 + 4 * k + 2)) (rMa N k 0)) (N 10171) (((rCo N k (N (10075 + 4 * k + 1) = 1) (N (10075 + 4 * k + 2)) (rMa N k 0)) (10075 + 4 * k + 2)) + j) y, (rRecH Hs N kept), Sl, tx, (rRecK kept), fil, ty, at_, nu) := by rw [rmSet, if_neg hnp, if_neg (fun z => z c_33v), hkc, hjc, hyc, rmSetK, if_neg c_43]
            exact xend_i () hx hb hr hk hS (fun _ h => h) dX6_set_103 (by rw [eR]) (by rw [eR]; exact hP) (Nat.le_refl _) (Nat.le_refl _)
          · refine lv_aload_n hx hb dX6_set_73 rfl (lv_at hl 0 rfl) ?_
            refine lv_iload_n hx hb dX6_set_74 rfl (lv_at hl 1 rfl) ?_
            refine xrd (xrunV (As := [.int (nI k)]) (rest := [.int (nI (N (10075 + 4 * k + 2))), .int (bI (N (10075 + 4 * k + 1) = 1)), .int (nI k), .ref m0]) S (c_X6_length l G m0 aN aH aS aT N (rRecH Hs N kept) Sl tx (rRecK kept) fil ty at_ nu k hN (by omega)) (cwV 1 hts gX6_set_X6_length rfl rfl rfl (by decide +kernel) ⟨Nat.le_of_ble_eq_true rfl, Nat.le_of_ble_eq_true rfl⟩) hE hS hA 0 6 hP rfl rfl rfl hP rfl rfl hl.1 (Nat.le_of_ble_eq_true rfl) dX6_set_75 ⟨Nat.le_of_ble_eq_true rfl, Nat.le_of_ble_eq_true rfl⟩) ?_
            refine n_top (y := nI (rMa N k 0)) (by rw [rMa, if_pos c_70]; rfl) ?_
            refine lv_goto (tgt := 82) hx hb dX6_set_78 (by decide) ?_
            refine n_top (y := nI (rMa N k 0)) (by rw [rMa, if_pos c_70]) ?_
            refine xwr (xrunV (As := [.int (nI k), .int (bI (N (10075 + 4 * k + 1) = 1)), .int (nI (N (10075 + 4 * k + 2))), .int (nI (rMa N k 0))]) (rest := []) S (c_X6_comes l G m0 aN aH aS aT N (rRecH Hs N kept) Sl tx (rRecK kept) fil ty at_ nu k (N (10075 + 4 * k + 1) = 1) (N (10075 + 4 * k + 2)) (rMa N k 0) hN hdis (by omega) he3) (cwV 4 hts gX6_set_X6_comes rfl rfl rfl (by decide +kernel) ⟨Nat.le_of_ble_eq_true rfl, Nat.le_of_ble_eq_true rfl⟩) hE hS hA 0 6 hP rfl rfl rfl hP rfl rfl hl.1 (Nat.le_of_ble_eq_true rfl) dX6_set_82 ⟨Nat.le_of_ble_eq_true rfl, Nat.le_of_ble_eq_true rfl⟩) hS (fun _ h => h) (fun _ h => h) (fun uw_ H locs hΨ hz hkp hS => ?_)
            have hP : va_P G.1 vwCl [(m0, .inr (6, [.ref aN, .ref aH, .int (nI (rRecK kept)), .ref aS, .int (nI fil), .int (nI ty), .ref aT, .int (nI at_), .int (nI nu)])), (aN, .inl (xcI G, 10276, .inl (nf (rCo N k (N (10075 + 4 * k + 1) = 1) (N (10075 + 4 * k + 2)) (rMa N k 0))))), (aH, .inl (xcI G, 41104, .inl (nf (rRecH Hs N kept)))), (aS, .inl (xcI G, 10276, .inl (nf Sl))), (aT, .inl (xcC G, 60, .inl (nf tx)))] H := hΨ
            have hD : va_D (fun q => q ∈ [m0, aN, aH, aS, aT]) [(m0, .inr (6, [.ref aN, .ref aH, .int (nI (rRecK kept)), .ref aS, .int (nI fil), .int (nI ty), .ref aT, .int (nI at_), .int (nI nu)])), (aN, .inl (xcI G, 10276, .inl (nf (rCo N k (N (10075 + 4 * k + 1) = 1) (N (10075 + 4 * k + 2)) (rMa N k 0))))), (aH, .inl (xcI G, 41104, .inl (nf (rRecH Hs N kept)))), (aS, .inl (xcI G, 10276, .inl (nf Sl))), (aT, .inl (xcC G, 60, .inl (nf tx)))] := (hdis.to rfl)
            refine W.eq (g2 := F0 m 85 ls [.int (nI (N 10171))]) rfl ?_
            refine lv_istore (lv' := [(4, .int (nI (N 10171))), (0, .ref m0), (1, .int (nI k)), (2, .int (nI j)), (3, .int (nI y))]) hx hb dX6_set_85 hl (by decide) rfl (fun ls hl => ?_)
            refine lv_aload_n hx hb dX6_set_87 rfl (lv_at hl 1 rfl) ?_
            refine lv_iload hx hb dX6_set_88 (lv_at hl 0 rfl) ?_
            refine lv_aload_n hx hb dX6_set_90 rfl (lv_at hl 1 rfl) ?_
            refine lv_iload_n hx hb dX6_set_91 rfl (lv_at hl 2 rfl) ?_
            refine xrd (xrunV (As := [.int (nI k)]) (rest := [.int (nI (N 10171)), .ref m0]) S (c_X6_first l G m0 aN aH aS aT (rCo N k (N (10075 + 4 * k + 1) = 1) (N (10075 + 4 * k + 2)) (rMa N k 0)) (rRecH Hs N kept) Sl tx (rRecK kept) fil ty at_ nu k (rCo_lt hN (by omega) (by omega) (by have := rMa_lt hN k 0 (by omega); omega)) (by omega)) (cwV 1 hts gX6_set_X6_first rfl rfl rfl (by decide +kernel) ⟨Nat.le_of_ble_eq_true rfl, Nat.le_of_ble_eq_true rfl⟩) hE hS hA 0 6 hP rfl rfl rfl hP rfl rfl hl.1 (Nat.le_of_ble_eq_true rfl) dX6_set_92 ⟨Nat.le_of_ble_eq_true rfl, Nat.le_of_ble_eq_true rfl⟩) ?_
            refine lv_iload_n hx hb dX6_set_95 rfl (lv_at hl 3 rfl) ?_
            have hfi : rCo N k (N (10075 + 4 * k + 1) = 1) (N (10075 + 4 * k + 2)) (rMa N k 0) (10075 + 4 * k + 2) = N (10075 + 4 * k + 2) := by rw [rCo_at he3, if_neg (by omega), if_neg (by omega), if_neg (by omega), if_neg (by omega), if_neg (by omega), if_neg (by omega)]
            refine n_iadd hx hb dX6_set_96 ?_
            refine lv_iload_n hx hb dX6_set_97 rfl (lv_at hl 4 rfl) ?_
            refine xwr (xrunV (As := [.int (nI (N 10171)), .int (nI (((rCo N k (N (10075 + 4 * k + 1) = 1) (N (10075 + 4 * k + 2)) (rMa N k 0)) (10075 + 4 * k + 2)) + j)), .int (nI y)]) (rest := []) S (c_X6_sets l G m0 aN aH aS aT (rCo N k (N (10075 + 4 * k + 1) = 1) (N (10075 + 4 * k + 2)) (rMa N k 0)) (rRecH Hs N kept) Sl tx (rRecK kept) fil ty at_ nu (N 10171) (((rCo N k (N (10075 + 4 * k + 1) = 1) (N (10075 + 4 * k + 2)) (rMa N k 0)) (10075 + 4 * k + 2)) + j) y (rCo_lt hN (by omega) (by omega) (by have := rMa_lt hN k 0 (by omega); omega)) hdis (by omega) (by rw [rCo_len he3]; omega) (by omega) (by rw [rCo_made he3]; exact hM)) (cwV 3 hts gX6_set_X6_sets rfl rfl rfl (by decide +kernel) ⟨Nat.le_of_ble_eq_true rfl, Nat.le_of_ble_eq_true rfl⟩) hE hS hA 0 6 hP rfl rfl rfl hP rfl rfl hl.1 (Nat.le_of_ble_eq_true rfl) dX6_set_98 ⟨Nat.le_of_ble_eq_true rfl, Nat.le_of_ble_eq_true rfl⟩) hS (fun _ h => h) (fun _ h => h) (fun uw_ H locs hΨ hz hkp hS => ?_)
            have hP : va_P G.1 vwCl [(m0, .inr (6, [.ref aN, .ref aH, .int (nI (rRecK kept)), .ref aS, .int (nI fil), .int (nI ty), .ref aT, .int (nI at_), .int (nI nu)])), (aN, .inl (xcI G, 10276, .inl (nf (rSe (rCo N k (N (10075 + 4 * k + 1) = 1) (N (10075 + 4 * k + 2)) (rMa N k 0)) (N 10171) (((rCo N k (N (10075 + 4 * k + 1) = 1) (N (10075 + 4 * k + 2)) (rMa N k 0)) (10075 + 4 * k + 2)) + j) y)))), (aH, .inl (xcI G, 41104, .inl (nf (rRecH Hs N kept)))), (aS, .inl (xcI G, 10276, .inl (nf Sl))), (aT, .inl (xcC G, 60, .inl (nf tx)))] H := hΨ
            have hD : va_D (fun q => q ∈ [m0, aN, aH, aS, aT]) [(m0, .inr (6, [.ref aN, .ref aH, .int (nI (rRecK kept)), .ref aS, .int (nI fil), .int (nI ty), .ref aT, .int (nI at_), .int (nI nu)])), (aN, .inl (xcI G, 10276, .inl (nf (rSe (rCo N k (N (10075 + 4 * k + 1) = 1) (N (10075 + 4 * k + 2)) (rMa N k 0)) (N 10171) (((rCo N k (N (10075 + 4 * k + 1) = 1) (N (10075 + 4 * k + 2)) (rMa N k 0)) (10075 + 4 * k + 2)) + j) y)))), (aH, .inl (xcI G, 41104, .inl (nf (rRecH Hs N kept)))), (aS, .inl (xcI G, 10276, .inl (nf Sl))), (aT, .inl (xcC G, 60, .inl (nf tx)))] := (hdis.to rfl)
            refine W.eq (g2 := F0 m 101 ls []) rfl ?_
            refine lv_iload hx hb dX6_set_101 (lv_at hl 0 rfl) ?_
            have eR : rmSet (N, Hs, Sl, tx, kept, fil, ty, at_, nu) (nI k) (nI j) (nI y) = (nI (N 10171), rSe (rCo N k (N (10075 + 4 * k + 1) = 1) (N (10075 + 4 * k + 2)) (rMa N k 0)) (N 10171) (((rCo N k (N (10075 + 4 * k + 1) = 1) (N (10075 + 4 * k + 2)) (rMa N k 0)) (10075 + 4 * k + 2)) + j) y, (rRecH Hs N kept), Sl, tx, (rRecK kept), fil, ty, at_, nu) := by rw [rmSet, if_neg hnp, if_neg (fun z => z c_33v), hkc, hjc, hyc, rmSetK, if_neg c_43]
            exact xend_i () hx hb hr hk hS (fun _ h => h) dX6_set_103 (by rw [eR]) (by rw [eR]; exact hP) (Nat.le_refl _) (Nat.le_refl _)
        · refine lv_bipush (v := (-3)) hx hb dX6_set_46 (by decide) ?_
          have eR : rmSet (N, Hs, Sl, tx, kept, fil, ty, at_, nu) (nI k) (nI j) (nI y) = ((-3), N, Hs, Sl, tx, kept, fil, ty, at_, nu) := by rw [rmSet, if_neg hnp, if_neg (fun z => z c_33v), hkc, hjc, hyc, rmSetK, if_pos c_43]
          exact xend_i () hx hb hr hk hS (fun _ h => h) dX6_set_48 (by rw [eR]) (by rw [eR]; exact hP) (Nat.le_refl _) (Nat.le_refl _)
      · refine lv_bipush (v := (-2)) hx hb dX6_set_36 (by decide) ?_
        have eR : rmSet (N, Hs, Sl, tx, kept, fil, ty, at_, nu) (nI k) (nI j) x = ((-2), N, Hs, Sl, tx, kept, fil, ty, at_, nu) := by rw [rmSet, if_neg hnp, if_pos c_33]
        exact xend_i () hx hb hr hk hS (fun _ h => h) dX6_set_38 (by rw [eR]) (by rw [eR]; exact hP) (Nat.le_refl _) (Nat.le_refl _)
    · refine lv_iconst (v := (-1)) hx hb dX6_set_23 rfl ?_
      have eR : rmSet (N, Hs, Sl, tx, kept, fil, ty, at_, nu) (nI k) q x = ((-1), N, Hs, Sl, tx, kept, fil, ty, at_, nu) := by rw [rmSet, if_pos (Or.inr (by rw [hkc]; exact c_20))]
      exact xend_i () hx hb hr hk hS (fun _ h => h) dX6_set_24 (by rw [eR]) (by rw [eR]; exact hP) (Nat.le_refl _) (Nat.le_refl _)

set_option maxHeartbeats 4000000 in
set_option maxRecDepth 100000 in
theorem c_X6_pop (l : Launch) (G : xG) (m0 : Nat) (aN : Nat) (aH : Nat) (aS : Nat) (aT : Nat) (N : Nat → Nat) (Hs : Nat → Nat) (Sl : Nat → Nat) (tx : Nat → Nat) (kept : Nat) (fil : Nat) (ty : Nat) (at_ : Nat) (nu : Nat) (v : Int32) (hN : ∀ j, N j < 2 ^ 24) (hdis : xDis (xB0 G) [m0, aN, aH, aS, aT]) (hev : 1 ≤ N 10171) (hev2 : N 10171 ≤ 24) (hrows : ∀ v, v ≤ 24 → N (403 * v) ≤ 300) (hwin : ∀ v, v < N 10171 → N (10075 + 4 * v + 2) + rLen N v ≤ N (403 * v)) (hM : N 10172 < 2 ^ 23) (hk4 : kept ≤ 4) (htx : ∀ j, tx j < 65536) (hty : ty ≤ 60) : Met l yX6_pop wsX6_pop ({ frames := 4, cells := 0, slots := 0, locals := 88 } : Room) (xPc G [.ref m0, .int v] (fun H => va_P G.1 vwCl [(m0, .inr (6, [.ref aN, .ref aH, .int (nI kept), .ref aS, .int (nI fil), .int (nI ty), .ref aT, .int (nI at_), .int (nI nu)])), (aN, .inl (xcI G, 10276, .inl (nf N))), (aH, .inl (xcI G, 41104, .inl (nf Hs))), (aS, .inl (xcI G, 10276, .inl (nf Sl))), (aT, .inl (xcC G, 60, .inl (nf tx)))] H)) (xQ (σ := Unit) (fun _ => some (.int ((rmPop (N, Hs, Sl, tx, kept, fil, ty, at_, nu) v).1))) (fun _ H => va_P G.1 vwCl [(m0, .inr (6, [.ref aN, .ref aH, .int (nI ((rmPop (N, Hs, Sl, tx, kept, fil, ty, at_, nu) v).2.2.2.2.2.1)), .ref aS, .int (nI ((rmPop (N, Hs, Sl, tx, kept, fil, ty, at_, nu) v).2.2.2.2.2.2.1)), .int (nI ((rmPop (N, Hs, Sl, tx, kept, fil, ty, at_, nu) v).2.2.2.2.2.2.2.1)), .ref aT, .int (nI ((rmPop (N, Hs, Sl, tx, kept, fil, ty, at_, nu) v).2.2.2.2.2.2.2.2.1)), .int (nI ((rmPop (N, Hs, Sl, tx, kept, fil, ty, at_, nu) v).2.2.2.2.2.2.2.2.2))])), (aN, .inl (xcI G, 10276, .inl (nf ((rmPop (N, Hs, Sl, tx, kept, fil, ty, at_, nu) v).2.1)))), (aH, .inl (xcI G, 41104, .inl (nf ((rmPop (N, Hs, Sl, tx, kept, fil, ty, at_, nu) v).2.2.1)))), (aS, .inl (xcI G, 10276, .inl (nf ((rmPop (N, Hs, Sl, tx, kept, fil, ty, at_, nu) v).2.2.2.1)))), (aT, .inl (xcC G, 60, .inl (nf ((rmPop (N, Hs, Sl, tx, kept, fil, ty, at_, nu) v).2.2.2.2.1))))] H) (fun q => q ∈ [m0, aN, aH, aS, aT])) 0 0 (fun q => q ∈ [m0, aN, aH, aS, aT]) := by
  refine xMet (cc := cX6_pop) (nL := 3) (ret := (some (.int))) (by decide) rfl (Nat.le_of_ble_eq_true rfl) ?_
  intro p e s m below meth c S hr hk hnm hE hP ls hl
  obtain ⟨hx, hb, hml, hown, hts⟩ := id S
  have hown : s.vm.findClass RX6 = some m.cls := hown
  have hK := hE.1
  have hS : va_S (fun q => q ∈ [m0, aN, aH, aS, aT]) s.heap s.heap [] := va_S.rf
  have hA : ∀ q, (fun q => q ∈ [m0, aN, aH, aS, aT]) q → xB0 G ≤ q := hdis.2
  have hP : va_P G.1 vwCl [(m0, .inr (6, [.ref aN, .ref aH, .int (nI kept), .ref aS, .int (nI fil), .int (nI ty), .ref aT, .int (nI at_), .int (nI nu)])), (aN, .inl (xcI G, 10276, .inl (nf N))), (aH, .inl (xcI G, 41104, .inl (nf Hs))), (aS, .inl (xcI G, 10276, .inl (nf Sl))), (aT, .inl (xcC G, 60, .inl (nf tx)))] s.heap := hP
  have hD : va_D (fun q => q ∈ [m0, aN, aH, aS, aT]) [(m0, .inr (6, [.ref aN, .ref aH, .int (nI kept), .ref aS, .int (nI fil), .int (nI ty), .ref aT, .int (nI at_), .int (nI nu)])), (aN, .inl (xcI G, 10276, .inl (nf N))), (aH, .inl (xcI G, 41104, .inl (nf Hs))), (aS, .inl (xcI G, 10276, .inl (nf Sl))), (aT, .inl (xcC G, 60, .inl (nf tx)))] := (hdis.to rfl)
  have hl : lv_has ls 3 [(0, .ref m0), (1, .int v)] := hl
  refine lv_aload_n hx hb dX6_pop_0 rfl (lv_at hl 0 rfl) ?_
  refine lv_iload_n hx hb dX6_pop_1 rfl (lv_at hl 1 rfl) ?_
  refine xrd (xrunV (As := [.int v]) (rest := []) S (c_X6_no l G m0 aN aH aS aT N Hs Sl tx kept fil ty at_ nu v hN hev hev2) (cwV 1 hts gX6_pop_X6_no rfl rfl rfl (by decide +kernel) ⟨Nat.le_of_ble_eq_true rfl, Nat.le_of_ble_eq_true rfl⟩) hE hS hA 0 6 hP rfl rfl rfl hP rfl rfl hl.1 (Nat.le_of_ble_eq_true rfl) dX6_pop_2 ⟨Nat.le_of_ble_eq_true rfl, Nat.le_of_ble_eq_true rfl⟩) ?_
  refine b_if_eq (tgt := 10) hx hb dX6_pop_5 (by decide) (fun c_5 => ?_) (fun c_5 => ?_)
  · have c_5b := c_5
    obtain ⟨k, rfl, hk1, hk2⟩ := rNo_not hev hev2 c_5
    have hkc : (nI k).toNatClampNeg = k := nI_clamp (by omega)
    have hwk := hwin k hk1
    have hrk := hrows k (by omega)
    refine lv_aload_n hx hb dX6_pop_10 rfl (lv_at hl 0 rfl) ?_
    refine lv_iload_n hx hb dX6_pop_11 rfl (lv_at hl 1 rfl) ?_
    refine xrd (xrunV (As := [.int (nI k)]) (rest := []) S (c_X6_length l G m0 aN aH aS aT N Hs Sl tx kept fil ty at_ nu k hN (by omega)) (cwV 1 hts gX6_pop_X6_length rfl rfl rfl (by decide +kernel) ⟨Nat.le_of_ble_eq_true rfl, Nat.le_of_ble_eq_true rfl⟩) hE hS hA 0 6 hP rfl rfl rfl hP rfl rfl hl.1 (Nat.le_of_ble_eq_true rfl) dX6_pop_12 ⟨Nat.le_of_ble_eq_true rfl, Nat.le_of_ble_eq_true rfl⟩) ?_
    refine n_if_ne (tgt := 21) hx hb (by omega) dX6_pop_15 (by decide) (fun c_15 => ?_) (fun c_15 => ?_)
    · refine lv_aload_n hx hb dX6_pop_21 rfl (lv_at hl 0 rfl) ?_
      refine xrd (xrunV (As := []) (rest := []) S (c_X6_isFull l G m0 aN aH aS aT N Hs Sl tx kept fil ty at_ nu hN) (cwV 0 hts gX6_pop_X6_isFull rfl rfl rfl (by decide +kernel) ⟨Nat.le_of_ble_eq_true rfl, Nat.le_of_ble_eq_true rfl⟩) hE hS hA 0 6 hP rfl rfl rfl hP rfl rfl hl.1 (Nat.le_of_ble_eq_true rfl) dX6_pop_22 ⟨Nat.le_of_ble_eq_true rfl, Nat.le_of_ble_eq_true rfl⟩) ?_
      refine b_if_eq (tgt := 31) hx hb dX6_pop_25 (by decide) (fun c_25 => ?_) (fun c_25 => ?_)
      · have he3 : N 10171 < 24 := by omega
        refine lv_aload_n hx hb dX6_pop_31 rfl (lv_at hl 0 rfl) ?_
        refine xwr (xrunV (As := []) (rest := []) S (c_X6_record l G m0 aN aH aS aT N Hs Sl tx kept fil ty at_ nu hN hdis hk4) (cwV 0 hts gX6_pop_X6_record rfl rfl rfl (by decide +kernel) ⟨Nat.le_of_ble_eq_true rfl, Nat.le_of_ble_eq_true rfl⟩) hE hS hA 0 6 hP rfl rfl rfl hP rfl rfl hl.1 (Nat.le_of_ble_eq_true rfl) dX6_pop_32 ⟨Nat.le_of_ble_eq_true rfl, Nat.le_of_ble_eq_true rfl⟩) hS (fun _ h => h) (fun _ h => h) (fun uw_ H locs hΨ hz hkp hS => ?_)
        have hP : va_P G.1 vwCl [(m0, .inr (6, [.ref aN, .ref aH, .int (nI (rRecK kept)), .ref aS, .int (nI fil), .int (nI ty), .ref aT, .int (nI at_), .int (nI nu)])), (aN, .inl (xcI G, 10276, .inl (nf N))), (aH, .inl (xcI G, 41104, .inl (nf (rRecH Hs N kept)))), (aS, .inl (xcI G, 10276, .inl (nf Sl))), (aT, .inl (xcC G, 60, .inl (nf tx)))] H := hΨ
        have hD : va_D (fun q => q ∈ [m0, aN, aH, aS, aT]) [(m0, .inr (6, [.ref aN, .ref aH, .int (nI (rRecK kept)), .ref aS, .int (nI fil), .int (nI ty), .ref aT, .int (nI at_), .int (nI nu)])), (aN, .inl (xcI G, 10276, .inl (nf N))), (aH, .inl (xcI G, 41104, .inl (nf (rRecH Hs N kept)))), (aS, .inl (xcI G, 10276, .inl (nf Sl))), (aT, .inl (xcC G, 60, .inl (nf tx)))] := (hdis.to rfl)
        refine W.eq (g2 := F0 m 35 ls []) rfl ?_
        refine lv_aload_n hx hb dX6_pop_35 rfl (lv_at hl 0 rfl) ?_
        refine lv_iload_n hx hb dX6_pop_36 rfl (lv_at hl 1 rfl) ?_
        refine xrd (xrunV (As := [.int (nI k)]) (rest := []) S (c_X6_isWindow l G m0 aN aH aS aT N (rRecH Hs N kept) Sl tx (rRecK kept) fil ty at_ nu k hN (by omega)) (cwV 1 hts gX6_pop_X6_isWindow rfl rfl rfl (by decide +kernel) ⟨Nat.le_of_ble_eq_true rfl, Nat.le_of_ble_eq_true rfl⟩) hE hS hA 0 6 hP rfl rfl rfl hP rfl rfl hl.1 (Nat.le_of_ble_eq_true rfl) dX6_pop_37 ⟨Nat.le_of_ble_eq_true rfl, Nat.le_of_ble_eq_true rfl⟩) ?_
        refine b_if_eq (tgt := 62) hx hb dX6_pop_40 (by decide) (fun c_40 => ?_) (fun c_40 => ?_)
        · refine lv_aload_n hx hb dX6_pop_62 rfl (lv_at hl 0 rfl) ?_
          refine lv_iload_n hx hb dX6_pop_63 rfl (lv_at hl 1 rfl) ?_
          refine lv_iconst (v := nI 0) hx hb dX6_pop_64 rfl ?_
          refine n_top (y := bI (False)) (bI_f not_false).symm ?_
          refine lv_iconst (v := nI 0) hx hb dX6_pop_65 rfl ?_
          refine lv_iconst (v := nI 0) hx hb dX6_pop_66 rfl ?_
          refine xwr (xrunV (As := [.int (nI k), .int (bI (False)), .int (nI 0), .int (nI 0)]) (rest := []) S (c_X6_comes l G m0 aN aH aS aT N (rRecH Hs N kept) Sl tx (rRecK kept) fil ty at_ nu k False 0 0 hN hdis (by omega) he3) (cwV 4 hts gX6_pop_X6_comes rfl rfl rfl (by decide +kernel) ⟨Nat.le_of_ble_eq_true rfl, Nat.le_of_ble_eq_true rfl⟩) hE hS hA 0 6 hP rfl rfl rfl hP rfl rfl hl.1 (Nat.le_of_ble_eq_true rfl) dX6_pop_67 ⟨Nat.le_of_ble_eq_true rfl, Nat.le_of_ble_eq_true rfl⟩) hS (fun _ h => h) (fun _ h => h) (fun uw_ H locs hΨ hz hkp hS => ?_)
          have hP : va_P G.1 vwCl [(m0, .inr (6, [.ref aN, .ref aH, .int (nI (rRecK kept)), .ref aS, .int (nI fil), .int (nI ty), .ref aT, .int (nI at_), .int (nI nu)])), (aN, .inl (xcI G, 10276, .inl (nf (rCo N k False 0 0)))), (aH, .inl (xcI G, 41104, .inl (nf (rRecH Hs N kept)))), (aS, .inl (xcI G, 10276, .inl (nf Sl))), (aT, .inl (xcC G, 60, .inl (nf tx)))] H := hΨ
          have hD : va_D (fun q => q ∈ [m0, aN, aH, aS, aT]) [(m0, .inr (6, [.ref aN, .ref aH, .int (nI (rRecK kept)), .ref aS, .int (nI fil), .int (nI ty), .ref aT, .int (nI at_), .int (nI nu)])), (aN, .inl (xcI G, 10276, .inl (nf (rCo N k False 0 0)))), (aH, .inl (xcI G, 41104, .inl (nf (rRecH Hs N kept)))), (aS, .inl (xcI G, 10276, .inl (nf Sl))), (aT, .inl (xcC G, 60, .inl (nf tx)))] := (hdis.to rfl)
          refine W.eq (g2 := F0 m 70 ls [.int (nI (N 10171))]) rfl ?_
          refine lv_istore_n (lv' := [(2, .int (nI (N 10171))), (0, .ref m0), (1, .int (nI k))]) hx hb dX6_pop_70 rfl hl (by decide) rfl (fun ls hl => ?_)
          refine lv_aload_n hx hb dX6_pop_71 rfl (lv_at hl 1 rfl) ?_
          refine lv_iload_n hx hb dX6_pop_72 rfl (lv_at hl 0 rfl) ?_
          have hlen : rLen N k = N (403 * k) := if_neg c_40
          refine xwr (xrunV (As := [.int (nI (N 10171))]) (rest := []) S (c_X6_pops l G m0 aN aH aS aT (rCo N k False 0 0) (rRecH Hs N kept) Sl tx (rRecK kept) fil ty at_ nu (N 10171) (rCo_lt hN (by omega) (by omega) (by omega)) hdis (by omega) (by rw [rCo_len he3]; omega) (by rw [rCo_len he3]; omega) (by rw [rCo_made he3]; exact hM)) (cwV 1 hts gX6_pop_X6_pops rfl rfl rfl (by decide +kernel) ⟨Nat.le_of_ble_eq_true rfl, Nat.le_of_ble_eq_true rfl⟩) hE hS hA 0 6 hP rfl rfl rfl hP rfl rfl hl.1 (Nat.le_of_ble_eq_true rfl) dX6_pop_73 ⟨Nat.le_of_ble_eq_true rfl, Nat.le_of_ble_eq_true rfl⟩) hS (fun _ h => h) (fun _ h => h) (fun uw_ H locs hΨ hz hkp hS => ?_)
          have hP : va_P G.1 vwCl [(m0, .inr (6, [.ref aN, .ref aH, .int (nI (rRecK kept)), .ref aS, .int (nI fil), .int (nI ty), .ref aT, .int (nI at_), .int (nI nu)])), (aN, .inl (xcI G, 10276, .inl (nf (rPo (rCo N k False 0 0) (N 10171))))), (aH, .inl (xcI G, 41104, .inl (nf (rRecH Hs N kept)))), (aS, .inl (xcI G, 10276, .inl (nf Sl))), (aT, .inl (xcC G, 60, .inl (nf tx)))] H := hΨ
          have hD : va_D (fun q => q ∈ [m0, aN, aH, aS, aT]) [(m0, .inr (6, [.ref aN, .ref aH, .int (nI (rRecK kept)), .ref aS, .int (nI fil), .int (nI ty), .ref aT, .int (nI at_), .int (nI nu)])), (aN, .inl (xcI G, 10276, .inl (nf (rPo (rCo N k False 0 0) (N 10171))))), (aH, .inl (xcI G, 41104, .inl (nf (rRecH Hs N kept)))), (aS, .inl (xcI G, 10276, .inl (nf Sl))), (aT, .inl (xcC G, 60, .inl (nf tx)))] := (hdis.to rfl)
          refine W.eq (g2 := F0 m 76 ls []) rfl ?_
          refine lv_iload_n hx hb dX6_pop_76 rfl (lv_at hl 0 rfl) ?_
          have eR : rmPop (N, Hs, Sl, tx, kept, fil, ty, at_, nu) (nI k) = (nI (N 10171), rPo (rCo N k False 0 0) (N 10171), (rRecH Hs N kept), Sl, tx, (rRecK kept), fil, ty, at_, nu) := by rw [rmPop, if_neg c_5b, hkc, rmPopK, if_neg c_15, if_neg c_25, if_neg c_40]
          exact xend_i () hx hb hr hk hS (fun _ h => h) dX6_pop_77 (by rw [eR]) (by rw [eR]; exact hP) (Nat.le_refl _) (Nat.le_refl _)
        · refine lv_aload_n hx hb dX6_pop_43 rfl (lv_at hl 0 rfl) ?_
          refine lv_iload_n hx hb dX6_pop_44 rfl (lv_at hl 1 rfl) ?_
          refine lv_iconst (v := nI 1) hx hb dX6_pop_45 rfl ?_
          refine n_top (y := bI (True)) (bI_t trivial).symm ?_
          refine lv_aload_n hx hb dX6_pop_46 rfl (lv_at hl 0 rfl) ?_
          refine lv_iload_n hx hb dX6_pop_47 rfl (lv_at hl 1 rfl) ?_
          refine xrd (xrunV (As := [.int (nI k)]) (rest := [.int (bI (True)), .int (nI k), .ref m0]) S (c_X6_first l G m0 aN aH aS aT N (rRecH Hs N kept) Sl tx (rRecK kept) fil ty at_ nu k hN (by omega)) (cwV 1 hts gX6_pop_X6_first rfl rfl rfl (by decide +kernel) ⟨Nat.le_of_ble_eq_true rfl, Nat.le_of_ble_eq_true rfl⟩) hE hS hA 0 6 hP rfl rfl rfl hP rfl rfl hl.1 (Nat.le_of_ble_eq_true rfl) dX6_pop_48 ⟨Nat.le_of_ble_eq_true rfl, Nat.le_of_ble_eq_true rfl⟩) ?_
          refine lv_aload_n hx hb dX6_pop_51 rfl (lv_at hl 0 rfl) ?_
          refine lv_iload_n hx hb dX6_pop_52 rfl (lv_at hl 1 rfl) ?_
          refine xrd (xrunV (As := [.int (nI k)]) (rest := [.int (nI (N (10075 + 4 * k + 2))), .int (bI (True)), .int (nI k), .ref m0]) S (c_X6_length l G m0 aN aH aS aT N (rRecH Hs N kept) Sl tx (rRecK kept) fil ty at_ nu k hN (by omega)) (cwV 1 hts gX6_pop_X6_length rfl rfl rfl (by decide +kernel) ⟨Nat.le_of_ble_eq_true rfl, Nat.le_of_ble_eq_true rfl⟩) hE hS hA 0 6 hP rfl rfl rfl hP rfl rfl hl.1 (Nat.le_of_ble_eq_true rfl) dX6_pop_53 ⟨Nat.le_of_ble_eq_true rfl, Nat.le_of_ble_eq_true rfl⟩) ?_
          refine lv_iconst (v := nI 1) hx hb dX6_pop_56 rfl ?_
          refine n_isub hx hb (by have := hN k; omega) dX6_pop_57 ?_
          refine xwr (xrunV (As := [.int (nI k), .int (bI (True)), .int (nI (N (10075 + 4 * k + 2))), .int (nI ((rLen N k) - 1))]) (rest := []) S (c_X6_comes l G m0 aN aH aS aT N (rRecH Hs N kept) Sl tx (rRecK kept) fil ty at_ nu k True (N (10075 + 4 * k + 2)) ((rLen N k) - 1) hN hdis (by omega) he3) (cwV 4 hts gX6_pop_X6_comes rfl rfl rfl (by decide +kernel) ⟨Nat.le_of_ble_eq_true rfl, Nat.le_of_ble_eq_true rfl⟩) hE hS hA 0 6 hP rfl rfl rfl hP rfl rfl hl.1 (Nat.le_of_ble_eq_true rfl) dX6_pop_58 ⟨Nat.le_of_ble_eq_true rfl, Nat.le_of_ble_eq_true rfl⟩) hS (fun _ h => h) (fun _ h => h) (fun uw_ H locs hΨ hz hkp hS => ?_)
          have hP : va_P G.1 vwCl [(m0, .inr (6, [.ref aN, .ref aH, .int (nI (rRecK kept)), .ref aS, .int (nI fil), .int (nI ty), .ref aT, .int (nI at_), .int (nI nu)])), (aN, .inl (xcI G, 10276, .inl (nf (rCo N k True (N (10075 + 4 * k + 2)) ((rLen N k) - 1))))), (aH, .inl (xcI G, 41104, .inl (nf (rRecH Hs N kept)))), (aS, .inl (xcI G, 10276, .inl (nf Sl))), (aT, .inl (xcC G, 60, .inl (nf tx)))] H := hΨ
          have hD : va_D (fun q => q ∈ [m0, aN, aH, aS, aT]) [(m0, .inr (6, [.ref aN, .ref aH, .int (nI (rRecK kept)), .ref aS, .int (nI fil), .int (nI ty), .ref aT, .int (nI at_), .int (nI nu)])), (aN, .inl (xcI G, 10276, .inl (nf (rCo N k True (N (10075 + 4 * k + 2)) ((rLen N k) - 1))))), (aH, .inl (xcI G, 41104, .inl (nf (rRecH Hs N kept)))), (aS, .inl (xcI G, 10276, .inl (nf Sl))), (aT, .inl (xcC G, 60, .inl (nf tx)))] := (hdis.to rfl)
          refine W.eq (g2 := F0 m 61 ls [.int (nI (N 10171))]) rfl ?_
          have eR : rmPop (N, Hs, Sl, tx, kept, fil, ty, at_, nu) (nI k) = (nI (N 10171), rCo N k True (N (10075 + 4 * k + 2)) ((rLen N k) - 1), (rRecH Hs N kept), Sl, tx, (rRecK kept), fil, ty, at_, nu) := by rw [rmPop, if_neg c_5b, hkc, rmPopK, if_neg c_15, if_neg c_25, if_pos c_40]
          exact xend_i () hx hb hr hk hS (fun _ h => h) dX6_pop_61 (by rw [eR]) (by rw [eR]; exact hP) (Nat.le_refl _) (Nat.le_refl _)
      · refine lv_bipush (v := (-3)) hx hb dX6_pop_28 (by decide) ?_
        have eR : rmPop (N, Hs, Sl, tx, kept, fil, ty, at_, nu) (nI k) = ((-3), N, Hs, Sl, tx, kept, fil, ty, at_, nu) := by rw [rmPop, if_neg c_5b, hkc, rmPopK, if_neg c_15, if_pos c_25]
        exact xend_i () hx hb hr hk hS (fun _ h => h) dX6_pop_30 (by rw [eR]) (by rw [eR]; exact hP) (Nat.le_refl _) (Nat.le_refl _)
    · refine lv_bipush (v := (-4)) hx hb dX6_pop_18 (by decide) ?_
      have eR : rmPop (N, Hs, Sl, tx, kept, fil, ty, at_, nu) (nI k) = ((-4), N, Hs, Sl, tx, kept, fil, ty, at_, nu) := by rw [rmPop, if_neg c_5b, hkc, rmPopK, if_pos c_15]
      exact xend_i () hx hb hr hk hS (fun _ h => h) dX6_pop_20 (by rw [eR]) (by rw [eR]; exact hP) (Nat.le_refl _) (Nat.le_refl _)
  · refine lv_iconst (v := (-1)) hx hb dX6_pop_8 rfl ?_
    have eR : rmPop (N, Hs, Sl, tx, kept, fil, ty, at_, nu) v = ((-1), N, Hs, Sl, tx, kept, fil, ty, at_, nu) := by rw [rmPop, if_pos c_5]
    exact xend_i () hx hb hr hk hS (fun _ h => h) dX6_pop_9 (by rw [eR]) (by rw [eR]; exact hP) (Nat.le_refl _) (Nat.le_refl _)

set_option maxHeartbeats 4000000 in
set_option maxRecDepth 100000 in
theorem c_X6_window (l : Launch) (G : xG) (m0 : Nat) (aN : Nat) (aH : Nat) (aS : Nat) (aT : Nat) (N : Nat → Nat) (Hs : Nat → Nat) (Sl : Nat → Nat) (tx : Nat → Nat) (kept : Nat) (fil : Nat) (ty : Nat) (at_ : Nat) (nu : Nat) (v : Int32) (f : Int32) (n : Int32) (hN : ∀ j, N j < 2 ^ 24) (hdis : xDis (xB0 G) [m0, aN, aH, aS, aT]) (hev : 1 ≤ N 10171) (hev2 : N 10171 ≤ 24) (hrows : ∀ v, v ≤ 24 → N (403 * v) ≤ 300) (hwin : ∀ v, v < N 10171 → N (10075 + 4 * v + 2) + rLen N v ≤ N (403 * v)) (hM : N 10172 < 2 ^ 23) (hk4 : kept ≤ 4) (htx : ∀ j, tx j < 65536) (hty : ty ≤ 60) : Met l yX6_window wsX6_window ({ frames := 2, cells := 0, slots := 0, locals := 48 } : Room) (xPc G [.ref m0, .int v, .int f, .int n] (fun H => va_P G.1 vwCl [(m0, .inr (6, [.ref aN, .ref aH, .int (nI kept), .ref aS, .int (nI fil), .int (nI ty), .ref aT, .int (nI at_), .int (nI nu)])), (aN, .inl (xcI G, 10276, .inl (nf N))), (aH, .inl (xcI G, 41104, .inl (nf Hs))), (aS, .inl (xcI G, 10276, .inl (nf Sl))), (aT, .inl (xcC G, 60, .inl (nf tx)))] H)) (xQ (σ := Unit) (fun _ => some (.int ((rmWin (N, Hs, Sl, tx, kept, fil, ty, at_, nu) v f n).1))) (fun _ H => va_P G.1 vwCl [(m0, .inr (6, [.ref aN, .ref aH, .int (nI ((rmWin (N, Hs, Sl, tx, kept, fil, ty, at_, nu) v f n).2.2.2.2.2.1)), .ref aS, .int (nI ((rmWin (N, Hs, Sl, tx, kept, fil, ty, at_, nu) v f n).2.2.2.2.2.2.1)), .int (nI ((rmWin (N, Hs, Sl, tx, kept, fil, ty, at_, nu) v f n).2.2.2.2.2.2.2.1)), .ref aT, .int (nI ((rmWin (N, Hs, Sl, tx, kept, fil, ty, at_, nu) v f n).2.2.2.2.2.2.2.2.1)), .int (nI ((rmWin (N, Hs, Sl, tx, kept, fil, ty, at_, nu) v f n).2.2.2.2.2.2.2.2.2))])), (aN, .inl (xcI G, 10276, .inl (nf ((rmWin (N, Hs, Sl, tx, kept, fil, ty, at_, nu) v f n).2.1)))), (aH, .inl (xcI G, 41104, .inl (nf ((rmWin (N, Hs, Sl, tx, kept, fil, ty, at_, nu) v f n).2.2.1)))), (aS, .inl (xcI G, 10276, .inl (nf ((rmWin (N, Hs, Sl, tx, kept, fil, ty, at_, nu) v f n).2.2.2.1)))), (aT, .inl (xcC G, 60, .inl (nf ((rmWin (N, Hs, Sl, tx, kept, fil, ty, at_, nu) v f n).2.2.2.2.1))))] H) (fun q => q ∈ [m0, aN, aH, aS, aT])) 0 0 (fun q => q ∈ [m0, aN, aH, aS, aT]) := by
  refine xMet (cc := cX6_window) (nL := 4) (ret := (some (.int))) (by decide) rfl (Nat.le_of_ble_eq_true rfl) ?_
  intro p e s m below meth c S hr hk hnm hE hP ls hl
  obtain ⟨hx, hb, hml, hown, hts⟩ := id S
  have hown : s.vm.findClass RX6 = some m.cls := hown
  have hK := hE.1
  have hS : va_S (fun q => q ∈ [m0, aN, aH, aS, aT]) s.heap s.heap [] := va_S.rf
  have hA : ∀ q, (fun q => q ∈ [m0, aN, aH, aS, aT]) q → xB0 G ≤ q := hdis.2
  have hP : va_P G.1 vwCl [(m0, .inr (6, [.ref aN, .ref aH, .int (nI kept), .ref aS, .int (nI fil), .int (nI ty), .ref aT, .int (nI at_), .int (nI nu)])), (aN, .inl (xcI G, 10276, .inl (nf N))), (aH, .inl (xcI G, 41104, .inl (nf Hs))), (aS, .inl (xcI G, 10276, .inl (nf Sl))), (aT, .inl (xcC G, 60, .inl (nf tx)))] s.heap := hP
  have hD : va_D (fun q => q ∈ [m0, aN, aH, aS, aT]) [(m0, .inr (6, [.ref aN, .ref aH, .int (nI kept), .ref aS, .int (nI fil), .int (nI ty), .ref aT, .int (nI at_), .int (nI nu)])), (aN, .inl (xcI G, 10276, .inl (nf N))), (aH, .inl (xcI G, 41104, .inl (nf Hs))), (aS, .inl (xcI G, 10276, .inl (nf Sl))), (aT, .inl (xcC G, 60, .inl (nf tx)))] := (hdis.to rfl)
  have hl : lv_has ls 4 [(0, .ref m0), (1, .int v), (2, .int f), (3, .int n)] := hl
  refine lv_aload_n hx hb dX6_window_0 rfl (lv_at hl 0 rfl) ?_
  refine lv_iload_n hx hb dX6_window_1 rfl (lv_at hl 1 rfl) ?_
  refine xrd (xrunV (As := [.int v]) (rest := []) S (c_X6_no l G m0 aN aH aS aT N Hs Sl tx kept fil ty at_ nu v hN hev hev2) (cwV 1 hts gX6_window_X6_no rfl rfl rfl (by decide +kernel) ⟨Nat.le_of_ble_eq_true rfl, Nat.le_of_ble_eq_true rfl⟩) hE hS hA 0 6 hP rfl rfl rfl hP rfl rfl hl.1 (Nat.le_of_ble_eq_true rfl) dX6_window_2 ⟨Nat.le_of_ble_eq_true rfl, Nat.le_of_ble_eq_true rfl⟩) ?_
  refine b_if_eq (tgt := 10) hx hb dX6_window_5 (by decide) (fun c_5 => ?_) (fun c_5 => ?_)
  · have c_5b := c_5
    obtain ⟨k, rfl, hk1, hk2⟩ := rNo_not hev hev2 c_5
    have hkc : (nI k).toNatClampNeg = k := nI_clamp (by omega)
    have hwk := hwin k hk1
    have hrk := hrows k (by omega)
    refine lv_iload_n hx hb dX6_window_10 rfl (lv_at hl 2 rfl) ?_
    refine lv_iconst (v := nI 0) hx hb dX6_window_11 rfl ?_
    refine lv_aload_n hx hb dX6_window_12 rfl (lv_at hl 0 rfl) ?_
    refine lv_iload_n hx hb dX6_window_13 rfl (lv_at hl 1 rfl) ?_
    refine xrd (xrunV (As := [.int (nI k)]) (rest := [.int (nI 0), .int f]) S (c_X6_length l G m0 aN aH aS aT N Hs Sl tx kept fil ty at_ nu k hN (by omega)) (cwV 1 hts gX6_window_X6_length rfl rfl rfl (by decide +kernel) ⟨Nat.le_of_ble_eq_true rfl, Nat.le_of_ble_eq_true rfl⟩) hE hS hA 0 6 hP rfl rfl rfl hP rfl rfl hl.1 (Nat.le_of_ble_eq_true rfl) dX6_window_14 ⟨Nat.le_of_ble_eq_true rfl, Nat.le_of_ble_eq_true rfl⟩) ?_
    refine xrd (xrunS (As := [.int f, .int (nI 0), .int (nI (rLen N k))]) (rest := []) S (c_X6_in l G f (nI 0) (nI (rLen N k)) ) (va_cwS 3 hts gX6_window_X6_in rfl rfl rfl (by decide +kernel) ⟨Nat.le_of_ble_eq_true rfl, Nat.le_of_ble_eq_true rfl⟩) hE hS hA trivial rfl rfl hl.1 (Nat.le_of_ble_eq_true rfl) dX6_window_17 ⟨Nat.le_of_ble_eq_true rfl, Nat.le_of_ble_eq_true rfl⟩) ?_
    refine b_if_eq (tgt := 38) hx hb dX6_window_20 (by decide) (fun c_20 => ?_) (fun c_20 => ?_)
    · refine lv_bipush (v := (-2)) hx hb dX6_window_38 (by decide) ?_
      have eR : rmWin (N, Hs, Sl, tx, kept, fil, ty, at_, nu) (nI k) f n = ((-2), N, Hs, Sl, tx, kept, fil, ty, at_, nu) := by rw [rmWin, if_neg c_5b, if_pos (Or.inl (by rw [hkc]; exact c_20))]
      exact xend_i () hx hb hr hk hS (fun _ h => h) dX6_window_40 (by rw [eR]) (by rw [eR]; exact hP) (Nat.le_refl _) (Nat.le_refl _)
    · have c_20v := c_20
      obtain ⟨j, hj9, rfl⟩ := xin_of (rLen_lt hN k) c_20
      have hjc : (nI j).toNatClampNeg = j := nI_clamp (by omega)
      refine lv_iload_n hx hb dX6_window_23 rfl (lv_at hl 3 rfl) ?_
      refine lv_iconst (v := nI 0) hx hb dX6_window_24 rfl ?_
      refine lv_aload_n hx hb dX6_window_25 rfl (lv_at hl 0 rfl) ?_
      refine lv_iload_n hx hb dX6_window_26 rfl (lv_at hl 1 rfl) ?_
      refine xrd (xrunV (As := [.int (nI k)]) (rest := [.int (nI 0), .int n]) S (c_X6_length l G m0 aN aH aS aT N Hs Sl tx kept fil ty at_ nu k hN (by omega)) (cwV 1 hts gX6_window_X6_length rfl rfl rfl (by decide +kernel) ⟨Nat.le_of_ble_eq_true rfl, Nat.le_of_ble_eq_true rfl⟩) hE hS hA 0 6 hP rfl rfl rfl hP rfl rfl hl.1 (Nat.le_of_ble_eq_true rfl) dX6_window_27 ⟨Nat.le_of_ble_eq_true rfl, Nat.le_of_ble_eq_true rfl⟩) ?_
      refine lv_iload_n hx hb dX6_window_30 rfl (lv_at hl 2 rfl) ?_
      refine lv_isub hx hb dX6_window_31 ?_
      refine xrd (xrunS (As := [.int n, .int (nI 0), .int ((nI (rLen N k)) - (nI j))]) (rest := []) S (c_X6_in l G n (nI 0) ((nI (rLen N k)) - (nI j)) ) (va_cwS 3 hts gX6_window_X6_in rfl rfl rfl (by decide +kernel) ⟨Nat.le_of_ble_eq_true rfl, Nat.le_of_ble_eq_true rfl⟩) hE hS hA trivial rfl rfl hl.1 (Nat.le_of_ble_eq_true rfl) dX6_window_32 ⟨Nat.le_of_ble_eq_true rfl, Nat.le_of_ble_eq_true rfl⟩) ?_
      refine b_if_ne (tgt := 41) hx hb dX6_window_35 (by decide) (fun c_35 => ?_) (fun c_35 => ?_)
      · have hnp : ¬ (¬ (nI 0 ≤ nI j ∧ nI j ≤ nI (rLen N (nI k).toNatClampNeg)) ∨ ¬ (nI 0 ≤ n ∧ n ≤ nI (rLen N (nI k).toNatClampNeg) - nI j)) := fun z => z.elim (fun w => w (by rw [hkc]; exact c_20v)) (fun w => w (by rw [hkc]; exact c_35))
        rw [nI_sub hj9] at c_35
        obtain ⟨y, hy9, rfl⟩ := xin_of (by omega) c_35
        have hyc : (nI y).toNatClampNeg = y := nI_clamp (by omega)
        refine lv_aload_n hx hb dX6_window_41 rfl (lv_at hl 0 rfl) ?_
        refine xrd (xrunV (As := []) (rest := []) S (c_X6_isFull l G m0 aN aH aS aT N Hs Sl tx kept fil ty at_ nu hN) (cwV 0 hts gX6_window_X6_isFull rfl rfl rfl (by decide +kernel) ⟨Nat.le_of_ble_eq_true rfl, Nat.le_of_ble_eq_true rfl⟩) hE hS hA 0 6 hP rfl rfl rfl hP rfl rfl hl.1 (Nat.le_of_ble_eq_true rfl) dX6_window_42 ⟨Nat.le_of_ble_eq_true rfl, Nat.le_of_ble_eq_true rfl⟩) ?_
        refine b_if_eq (tgt := 51) hx hb dX6_window_45 (by decide) (fun c_45 => ?_) (fun c_45 => ?_)
        · have he3 : N 10171 < 24 := by omega
          refine lv_aload_n hx hb dX6_window_51 rfl (lv_at hl 0 rfl) ?_
          refine xwr (xrunV (As := []) (rest := []) S (c_X6_record l G m0 aN aH aS aT N Hs Sl tx kept fil ty at_ nu hN hdis hk4) (cwV 0 hts gX6_window_X6_record rfl rfl rfl (by decide +kernel) ⟨Nat.le_of_ble_eq_true rfl, Nat.le_of_ble_eq_true rfl⟩) hE hS hA 0 6 hP rfl rfl rfl hP rfl rfl hl.1 (Nat.le_of_ble_eq_true rfl) dX6_window_52 ⟨Nat.le_of_ble_eq_true rfl, Nat.le_of_ble_eq_true rfl⟩) hS (fun _ h => h) (fun _ h => h) (fun uw_ H locs hΨ hz hkp hS => ?_)
          have hP : va_P G.1 vwCl [(m0, .inr (6, [.ref aN, .ref aH, .int (nI (rRecK kept)), .ref aS, .int (nI fil), .int (nI ty), .ref aT, .int (nI at_), .int (nI nu)])), (aN, .inl (xcI G, 10276, .inl (nf N))), (aH, .inl (xcI G, 41104, .inl (nf (rRecH Hs N kept)))), (aS, .inl (xcI G, 10276, .inl (nf Sl))), (aT, .inl (xcC G, 60, .inl (nf tx)))] H := hΨ
          have hD : va_D (fun q => q ∈ [m0, aN, aH, aS, aT]) [(m0, .inr (6, [.ref aN, .ref aH, .int (nI (rRecK kept)), .ref aS, .int (nI fil), .int (nI ty), .ref aT, .int (nI at_), .int (nI nu)])), (aN, .inl (xcI G, 10276, .inl (nf N))), (aH, .inl (xcI G, 41104, .inl (nf (rRecH Hs N kept)))), (aS, .inl (xcI G, 10276, .inl (nf Sl))), (aT, .inl (xcC G, 60, .inl (nf tx)))] := (hdis.to rfl)
          refine W.eq (g2 := F0 m 55 ls []) rfl ?_
          refine lv_aload_n hx hb dX6_window_55 rfl (lv_at hl 0 rfl) ?_
          refine lv_iload_n hx hb dX6_window_56 rfl (lv_at hl 1 rfl) ?_
          refine lv_iconst (v := nI 1) hx hb dX6_window_57 rfl ?_
          refine n_top (y := bI (True)) (bI_t trivial).symm ?_
          refine lv_aload_n hx hb dX6_window_58 rfl (lv_at hl 0 rfl) ?_
          refine lv_iload_n hx hb dX6_window_59 rfl (lv_at hl 1 rfl) ?_
          refine xrd (xrunV (As := [.int (nI k)]) (rest := [.int (bI (True)), .int (nI k), .ref m0]) S (c_X6_first l G m0 aN aH aS aT N (rRecH Hs N kept) Sl tx (rRecK kept) fil ty at_ nu k hN (by omega)) (cwV 1 hts gX6_window_X6_first rfl rfl rfl (by decide +kernel) ⟨Nat.le_of_ble_eq_true rfl, Nat.le_of_ble_eq_true rfl⟩) hE hS hA 0 6 hP rfl rfl rfl hP rfl rfl hl.1 (Nat.le_of_ble_eq_true rfl) dX6_window_60 ⟨Nat.le_of_ble_eq_true rfl, Nat.le_of_ble_eq_true rfl⟩) ?_
          refine lv_iload_n hx hb dX6_window_63 rfl (lv_at hl 2 rfl) ?_
          refine n_iadd hx hb dX6_window_64 ?_
          refine lv_iload_n hx hb dX6_window_65 rfl (lv_at hl 3 rfl) ?_
          refine xwr (xrunV (As := [.int (nI k), .int (bI (True)), .int (nI ((N (10075 + 4 * k + 2)) + j)), .int (nI y)]) (rest := []) S (c_X6_comes l G m0 aN aH aS aT N (rRecH Hs N kept) Sl tx (rRecK kept) fil ty at_ nu k True ((N (10075 + 4 * k + 2)) + j) y hN hdis (by omega) he3) (cwV 4 hts gX6_window_X6_comes rfl rfl rfl (by decide +kernel) ⟨Nat.le_of_ble_eq_true rfl, Nat.le_of_ble_eq_true rfl⟩) hE hS hA 0 6 hP rfl rfl rfl hP rfl rfl hl.1 (Nat.le_of_ble_eq_true rfl) dX6_window_66 ⟨Nat.le_of_ble_eq_true rfl, Nat.le_of_ble_eq_true rfl⟩) hS (fun _ h => h) (fun _ h => h) (fun uw_ H locs hΨ hz hkp hS => ?_)
          have hP : va_P G.1 vwCl [(m0, .inr (6, [.ref aN, .ref aH, .int (nI (rRecK kept)), .ref aS, .int (nI fil), .int (nI ty), .ref aT, .int (nI at_), .int (nI nu)])), (aN, .inl (xcI G, 10276, .inl (nf (rCo N k True ((N (10075 + 4 * k + 2)) + j) y)))), (aH, .inl (xcI G, 41104, .inl (nf (rRecH Hs N kept)))), (aS, .inl (xcI G, 10276, .inl (nf Sl))), (aT, .inl (xcC G, 60, .inl (nf tx)))] H := hΨ
          have hD : va_D (fun q => q ∈ [m0, aN, aH, aS, aT]) [(m0, .inr (6, [.ref aN, .ref aH, .int (nI (rRecK kept)), .ref aS, .int (nI fil), .int (nI ty), .ref aT, .int (nI at_), .int (nI nu)])), (aN, .inl (xcI G, 10276, .inl (nf (rCo N k True ((N (10075 + 4 * k + 2)) + j) y)))), (aH, .inl (xcI G, 41104, .inl (nf (rRecH Hs N kept)))), (aS, .inl (xcI G, 10276, .inl (nf Sl))), (aT, .inl (xcC G, 60, .inl (nf tx)))] := (hdis.to rfl)
          refine W.eq (g2 := F0 m 69 ls [.int (nI (N 10171))]) rfl ?_
          have eR : rmWin (N, Hs, Sl, tx, kept, fil, ty, at_, nu) (nI k) (nI j) (nI y) = (nI (N 10171), rCo N k True ((N (10075 + 4 * k + 2)) + j) y, (rRecH Hs N kept), Sl, tx, (rRecK kept), fil, ty, at_, nu) := by rw [rmWin, if_neg c_5b, if_neg hnp, hkc, hjc, hyc, rmWinK, if_neg c_45]
          exact xend_i () hx hb hr hk hS (fun _ h => h) dX6_window_69 (by rw [eR]) (by rw [eR]; exact hP) (Nat.le_refl _) (Nat.le_refl _)
        · refine lv_bipush (v := (-3)) hx hb dX6_window_48 (by decide) ?_
          have eR : rmWin (N, Hs, Sl, tx, kept, fil, ty, at_, nu) (nI k) (nI j) (nI y) = ((-3), N, Hs, Sl, tx, kept, fil, ty, at_, nu) := by rw [rmWin, if_neg c_5b, if_neg hnp, hkc, hjc, hyc, rmWinK, if_pos c_45]
          exact xend_i () hx hb hr hk hS (fun _ h => h) dX6_window_50 (by rw [eR]) (by rw [eR]; exact hP) (Nat.le_refl _) (Nat.le_refl _)
      · refine lv_bipush (v := (-2)) hx hb dX6_window_38 (by decide) ?_
        have eR : rmWin (N, Hs, Sl, tx, kept, fil, ty, at_, nu) (nI k) (nI j) n = ((-2), N, Hs, Sl, tx, kept, fil, ty, at_, nu) := by rw [rmWin, if_neg c_5b, if_pos (Or.inr (by rw [hkc]; exact c_35))]
        exact xend_i () hx hb hr hk hS (fun _ h => h) dX6_window_40 (by rw [eR]) (by rw [eR]; exact hP) (Nat.le_refl _) (Nat.le_refl _)
  · refine lv_iconst (v := (-1)) hx hb dX6_window_8 rfl ?_
    have eR : rmWin (N, Hs, Sl, tx, kept, fil, ty, at_, nu) v f n = ((-1), N, Hs, Sl, tx, kept, fil, ty, at_, nu) := by rw [rmWin, if_pos c_5]
    exact xend_i () hx hb hr hk hS (fun _ h => h) dX6_window_9 (by rw [eR]) (by rw [eR]; exact hP) (Nat.le_refl _) (Nat.le_refl _)

theorem hw_X6_drop_f7 : Cond.fieldLink RX6 7 "TailVectorsModel" "now" "[I" ∈ wsX6_drop := by decide +kernel
theorem hi_X6_drop_RX6 : ∀ w ∈ u_ws RX6 TX6 9, w ∈ wsX6_drop := by decide +kernel
set_option maxHeartbeats 4000000 in
set_option maxRecDepth 100000 in
theorem c_X6_drop (l : Launch) (G : xG) (m0 : Nat) (aN : Nat) (aH : Nat) (aS : Nat) (aT : Nat) (N : Nat → Nat) (Hs : Nat → Nat) (Sl : Nat → Nat) (tx : Nat → Nat) (kept : Nat) (fil : Nat) (ty : Nat) (at_ : Nat) (nu : Nat) (v : Int32) (hN : ∀ j, N j < 2 ^ 24) (hdis : xDis (xB0 G) [m0, aN, aH, aS, aT]) (hev : 1 ≤ N 10171) (hev2 : N 10171 ≤ 24) (hrows : ∀ v, v ≤ 24 → N (403 * v) ≤ 300) (hwin : ∀ v, v < N 10171 → N (10075 + 4 * v + 2) + rLen N v ≤ N (403 * v)) (hM : N 10172 < 2 ^ 23) (hk4 : kept ≤ 4) (htx : ∀ j, tx j < 65536) (hty : ty ≤ 60) : Met l yX6_drop wsX6_drop ({ frames := 2, cells := 0, slots := 0, locals := 43 } : Room) (xPc G [.ref m0, .int v] (fun H => va_P G.1 vwCl [(m0, .inr (6, [.ref aN, .ref aH, .int (nI kept), .ref aS, .int (nI fil), .int (nI ty), .ref aT, .int (nI at_), .int (nI nu)])), (aN, .inl (xcI G, 10276, .inl (nf N))), (aH, .inl (xcI G, 41104, .inl (nf Hs))), (aS, .inl (xcI G, 10276, .inl (nf Sl))), (aT, .inl (xcC G, 60, .inl (nf tx)))] H)) (xQ (σ := Unit) (fun _ => some (.int ((rmDrop (N, Hs, Sl, tx, kept, fil, ty, at_, nu) v).1))) (fun _ H => va_P G.1 vwCl [(m0, .inr (6, [.ref aN, .ref aH, .int (nI ((rmDrop (N, Hs, Sl, tx, kept, fil, ty, at_, nu) v).2.2.2.2.2.1)), .ref aS, .int (nI ((rmDrop (N, Hs, Sl, tx, kept, fil, ty, at_, nu) v).2.2.2.2.2.2.1)), .int (nI ((rmDrop (N, Hs, Sl, tx, kept, fil, ty, at_, nu) v).2.2.2.2.2.2.2.1)), .ref aT, .int (nI ((rmDrop (N, Hs, Sl, tx, kept, fil, ty, at_, nu) v).2.2.2.2.2.2.2.2.1)), .int (nI ((rmDrop (N, Hs, Sl, tx, kept, fil, ty, at_, nu) v).2.2.2.2.2.2.2.2.2))])), (aN, .inl (xcI G, 10276, .inl (nf ((rmDrop (N, Hs, Sl, tx, kept, fil, ty, at_, nu) v).2.1)))), (aH, .inl (xcI G, 41104, .inl (nf ((rmDrop (N, Hs, Sl, tx, kept, fil, ty, at_, nu) v).2.2.1)))), (aS, .inl (xcI G, 10276, .inl (nf ((rmDrop (N, Hs, Sl, tx, kept, fil, ty, at_, nu) v).2.2.2.1)))), (aT, .inl (xcC G, 60, .inl (nf ((rmDrop (N, Hs, Sl, tx, kept, fil, ty, at_, nu) v).2.2.2.2.1))))] H) (fun q => q ∈ [m0, aN, aH, aS, aT])) 0 0 (fun q => q ∈ [m0, aN, aH, aS, aT]) := by
  refine xMet (cc := cX6_drop) (nL := 2) (ret := (some (.int))) (by decide) rfl (Nat.le_of_ble_eq_true rfl) ?_
  intro p e s m below meth c S hr hk hnm hE hP ls hl
  obtain ⟨hx, hb, hml, hown, hts⟩ := id S
  have hown : s.vm.findClass RX6 = some m.cls := hown
  have hK := hE.1
  have hS : va_S (fun q => q ∈ [m0, aN, aH, aS, aT]) s.heap s.heap [] := va_S.rf
  have hA : ∀ q, (fun q => q ∈ [m0, aN, aH, aS, aT]) q → xB0 G ≤ q := hdis.2
  have hP : va_P G.1 vwCl [(m0, .inr (6, [.ref aN, .ref aH, .int (nI kept), .ref aS, .int (nI fil), .int (nI ty), .ref aT, .int (nI at_), .int (nI nu)])), (aN, .inl (xcI G, 10276, .inl (nf N))), (aH, .inl (xcI G, 41104, .inl (nf Hs))), (aS, .inl (xcI G, 10276, .inl (nf Sl))), (aT, .inl (xcC G, 60, .inl (nf tx)))] s.heap := hP
  have hD : va_D (fun q => q ∈ [m0, aN, aH, aS, aT]) [(m0, .inr (6, [.ref aN, .ref aH, .int (nI kept), .ref aS, .int (nI fil), .int (nI ty), .ref aT, .int (nI at_), .int (nI nu)])), (aN, .inl (xcI G, 10276, .inl (nf N))), (aH, .inl (xcI G, 41104, .inl (nf Hs))), (aS, .inl (xcI G, 10276, .inl (nf Sl))), (aT, .inl (xcC G, 60, .inl (nf tx)))] := (hdis.to rfl)
  have hl : lv_has ls 2 [(0, .ref m0), (1, .int v)] := hl
  refine lv_aload_n hx hb dX6_drop_0 rfl (lv_at hl 0 rfl) ?_
  refine lv_iload_n hx hb dX6_drop_1 rfl (lv_at hl 1 rfl) ?_
  refine xrd (xrunV (As := [.int v]) (rest := []) S (c_X6_no l G m0 aN aH aS aT N Hs Sl tx kept fil ty at_ nu v hN hev hev2) (cwV 1 hts gX6_drop_X6_no rfl rfl rfl (by decide +kernel) ⟨Nat.le_of_ble_eq_true rfl, Nat.le_of_ble_eq_true rfl⟩) hE hS hA 0 6 hP rfl rfl rfl hP rfl rfl hl.1 (Nat.le_of_ble_eq_true rfl) dX6_drop_2 ⟨Nat.le_of_ble_eq_true rfl, Nat.le_of_ble_eq_true rfl⟩) ?_
  refine b_if_eq (tgt := 10) hx hb dX6_drop_5 (by decide) (fun c_5 => ?_) (fun c_5 => ?_)
  · have c_5b := c_5
    obtain ⟨k, rfl, hk1, hk2⟩ := rNo_not hev hev2 c_5
    have hkc : (nI k).toNatClampNeg = k := nI_clamp (by omega)
    have hwk := hwin k hk1
    have hrk := hrows k (by omega)
    refine lv_aload_n hx hb dX6_drop_10 rfl (lv_at hl 0 rfl) ?_
    refine xwr (xrunV (As := []) (rest := []) S (c_X6_record l G m0 aN aH aS aT N Hs Sl tx kept fil ty at_ nu hN hdis hk4) (cwV 0 hts gX6_drop_X6_record rfl rfl rfl (by decide +kernel) ⟨Nat.le_of_ble_eq_true rfl, Nat.le_of_ble_eq_true rfl⟩) hE hS hA 0 6 hP rfl rfl rfl hP rfl rfl hl.1 (Nat.le_of_ble_eq_true rfl) dX6_drop_11 ⟨Nat.le_of_ble_eq_true rfl, Nat.le_of_ble_eq_true rfl⟩) hS (fun _ h => h) (fun _ h => h) (fun uw_ H locs hΨ hz hkp hS => ?_)
    have hP : va_P G.1 vwCl [(m0, .inr (6, [.ref aN, .ref aH, .int (nI (rRecK kept)), .ref aS, .int (nI fil), .int (nI ty), .ref aT, .int (nI at_), .int (nI nu)])), (aN, .inl (xcI G, 10276, .inl (nf N))), (aH, .inl (xcI G, 41104, .inl (nf (rRecH Hs N kept)))), (aS, .inl (xcI G, 10276, .inl (nf Sl))), (aT, .inl (xcC G, 60, .inl (nf tx)))] H := hΨ
    have hD : va_D (fun q => q ∈ [m0, aN, aH, aS, aT]) [(m0, .inr (6, [.ref aN, .ref aH, .int (nI (rRecK kept)), .ref aS, .int (nI fil), .int (nI ty), .ref aT, .int (nI at_), .int (nI nu)])), (aN, .inl (xcI G, 10276, .inl (nf N))), (aH, .inl (xcI G, 41104, .inl (nf (rRecH Hs N kept)))), (aS, .inl (xcI G, 10276, .inl (nf Sl))), (aT, .inl (xcC G, 60, .inl (nf tx)))] := (hdis.to rfl)
    refine W.eq (g2 := F0 m 14 ls []) rfl ?_
    refine lv_aload_n hx hb dX6_drop_14 rfl (lv_at hl 0 rfl) ?_
    refine va_get (D := G.1) (ci := 6) (v := .ref aN) (C := RX6) (T := TX6) (N := 9) hx hb hts hi_X6_drop_RX6 hown hK hP 0 rfl rfl 0 (by decide) (hts _ hw_X6_drop_f7) (fun _ h9 => h9) rfl dX6_drop_15 ?_
    refine lv_sipush (v := nI 10075) hx hb dX6_drop_18 (by decide) ?_
    refine lv_iconst (v := nI 4) hx hb dX6_drop_21 rfl ?_
    refine lv_iload_n hx hb dX6_drop_22 rfl (lv_at hl 1 rfl) ?_
    refine n_imul hx hb dX6_drop_23 ?_
    refine n_iadd hx hb dX6_drop_24 ?_
    refine lv_iconst (v := nI 0) hx hb dX6_drop_25 rfl ?_
    refine n_iast hx hb hK hP hD hS 1 0 rfl rfl (by omega) (by decide) dX6_drop_26 (fun H locs hP hD hS => ?_)
    have hP : va_P G.1 vwCl [(m0, .inr (6, [.ref aN, .ref aH, .int (nI (rRecK kept)), .ref aS, .int (nI fil), .int (nI ty), .ref aT, .int (nI at_), .int (nI nu)])), (aN, .inl (xcI G, 10276, .inl (nf (updN N (10075 + (4 * k)) 0)))), (aH, .inl (xcI G, 41104, .inl (nf (rRecH Hs N kept)))), (aS, .inl (xcI G, 10276, .inl (nf Sl))), (aT, .inl (xcC G, 60, .inl (nf tx)))] H := hP
    have hD : va_D (fun q => q ∈ [m0, aN, aH, aS, aT]) [(m0, .inr (6, [.ref aN, .ref aH, .int (nI (rRecK kept)), .ref aS, .int (nI fil), .int (nI ty), .ref aT, .int (nI at_), .int (nI nu)])), (aN, .inl (xcI G, 10276, .inl (nf (updN N (10075 + (4 * k)) 0)))), (aH, .inl (xcI G, 41104, .inl (nf (rRecH Hs N kept)))), (aS, .inl (xcI G, 10276, .inl (nf Sl))), (aT, .inl (xcC G, 60, .inl (nf tx)))] := hD
    refine lv_aload_n hx hb dX6_drop_27 rfl (lv_at hl 0 rfl) ?_
    refine xrd (xrunV (As := []) (rest := []) S (c_X6_there l G m0 aN aH aS aT (updN N (10075 + (4 * k)) 0) (rRecH Hs N kept) Sl tx (rRecK kept) fil ty at_ nu (updN_lt hN (by omega)) (by rw [updN_n (by omega)]; exact hev) (by rw [updN_n (by omega)]; exact hev2)) (cwV 0 hts gX6_drop_X6_there rfl rfl rfl (by decide +kernel) ⟨Nat.le_of_ble_eq_true rfl, Nat.le_of_ble_eq_true rfl⟩) hE hS hA 0 6 hP rfl rfl rfl hP rfl rfl hl.1 (Nat.le_of_ble_eq_true rfl) dX6_drop_28 ⟨Nat.le_of_ble_eq_true rfl, Nat.le_of_ble_eq_true rfl⟩) ?_
    have eR : rmDrop (N, Hs, Sl, tx, kept, fil, ty, at_, nu) (nI k) = (nI (sumN (fun z => (updN N (10075 + (4 * k)) 0) (10075 + 4 * z)) ((updN N (10075 + (4 * k)) 0) 10171)), updN N (10075 + (4 * k)) 0, rRecH Hs N kept, Sl, tx, rRecK kept, fil, ty, at_, nu) := by rw [rmDrop, if_neg c_5b, hkc, rmDropK]
    exact xend_i () hx hb hr hk hS (fun _ h => h) dX6_drop_31 (by rw [eR]) (by rw [eR]; exact hP) (Nat.le_refl _) (Nat.le_refl _)
  · refine lv_iconst (v := (-1)) hx hb dX6_drop_8 rfl ?_
    have eR : rmDrop (N, Hs, Sl, tx, kept, fil, ty, at_, nu) v = ((-1), N, Hs, Sl, tx, kept, fil, ty, at_, nu) := by rw [rmDrop, if_pos c_5]
    exact xend_i () hx hb hr hk hS (fun _ h => h) dX6_drop_9 (by rw [eR]) (by rw [eR]; exact hP) (Nat.le_refl _) (Nat.le_refl _)
