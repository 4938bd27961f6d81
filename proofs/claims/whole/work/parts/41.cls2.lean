theorem sumB_t {Q : Nat → Prop} {j : Nat} (h : Q j) : sumN (fun z => bN (Q z)) j + 1 = sumN (fun z => bN (Q z)) (j + 1) := by
  show _ = _ + bN _
  rw [bN_t h]
theorem sumB_f {Q : Nat → Prop} {j : Nat} (h : ¬ Q j) : sumN (fun z => bN (Q z)) j = sumN (fun z => bN (Q z)) (j + 1) := by
  show _ = _ + bN _
  rw [bN_f h]
  rfl
theorem cRI_lt {n k : Nat} (hk : k < 2 ^ 24) : ¬ nI k ≤ cRI n ↔ n = 0 ∨ rRt n < k := by
  unfold cRI
  by_cases h : n = 0
  · rw [if_pos h, Int32.le_iff_toInt_le, nI_toInt (by omega)]
    have e : (-5 : Int32).toInt = -5 := rfl
    constructor
    · intro _; exact Or.inl h
    · intro _; omega
  · rw [if_neg h, nI_leI (by omega) (by have := rRt_le n; omega)]
    omega

theorem hw_X1_takeLastLeaf_iX5_rootLevel : Cond.initialized RX5 ∈ wsX1_takeLastLeaf := by decide +kernel
theorem hw_X1_takeLastLeaf_sX5_rootLevel : Cond.static yX5_rootLevel ∈ wsX1_takeLastLeaf := by decide +kernel
set_option maxHeartbeats 4000000 in
set_option maxRecDepth 100000 in
theorem c_X1_takeLastLeaf (l : Launch) (G : xG) (a : Nat) (va : Nat) (na : Nat) (room : Nat) (vals : Nat → Int32) (nums : Nat → Int32) (len : Nat) (next : Nat) (fo : Int32) (hdis : xDis (xB0 G) [a, va, na]) (hlv1 : 1 ≤ rLv len) (hl3 : len ≤ 300) : Met l yX1_takeLastLeaf wsX1_takeLastLeaf ({ frames := 1, cells := 0, slots := 0, locals := 23 } : Room) (xPc G [.ref a, .int (nI next), .int fo] (fun H => va_P G.1 vwCl [(a, .inr (1, [.ref va, .ref na, .int (nI len)])), (va, .inl (xcI G, room, .inl vals)), (na, .inl (xcI G, 101, .inl nums))] H)) (xQ (σ := Unit) (fun _ => some (.int (nI ((tlP nums (rLv len - 1) next fo (rRt (rLv len) + 1)).2)))) (fun _ H => va_P G.1 vwCl [(a, .inr (1, [.ref va, .ref na, .int (nI len)])), (va, .inl (xcI G, room, .inl vals)), (na, .inl (xcI G, 101, .inl ((tlP nums (rLv len - 1) next fo (rRt (rLv len) + 1)).1)))] H) (fun q => q ∈ [a, va, na])) 0 0 (fun q => q ∈ [a, va, na]) := by
  refine xMet (cc := cX1_takeLastLeaf) (nL := 9) (ret := (some (.int))) (by decide) rfl (Nat.le_of_ble_eq_true rfl) ?_
  intro p e s m below meth c S hr hlk_ hnm hE hP ls hl
  obtain ⟨hx, hb, hml, hown, hts⟩ := id S
  have hown : s.vm.findClass RX1 = some m.cls := hown
  have hK := hE.1
  have hS : va_S (fun q => q ∈ [a, va, na]) s.heap s.heap [] := va_S.rf
  have hA : ∀ q, (fun q => q ∈ [a, va, na]) q → xB0 G ≤ q := hdis.2
  have hP : va_P G.1 vwCl [(a, .inr (1, [.ref va, .ref na, .int (nI len)])), (va, .inl (xcI G, room, .inl vals)), (na, .inl (xcI G, 101, .inl nums))] s.heap := hP
  have hD : va_D (fun q => q ∈ [a, va, na]) [(a, .inr (1, [.ref va, .ref na, .int (nI len)])), (va, .inl (xcI G, room, .inl vals)), (na, .inl (xcI G, 101, .inl nums))] := (hdis.to rfl)
  have hl : lv_has ls 9 [(0, .ref a), (1, .int (nI next)), (2, .int fo)] := hl
  refine lv_aload_n hx hb dX1_takeLastLeaf_0 rfl (lv_at hl 0 rfl) ?_
  refine xrd (xrunV (As := []) (rest := []) S (c_X1_leaves l G a va na room vals nums len hl3) (cwV 0 hts gX1_takeLastLeaf_X1_leaves rfl rfl rfl (by decide +kernel) ⟨Nat.le_of_ble_eq_true rfl, Nat.le_of_ble_eq_true rfl⟩) hE hS hA 0 1 hP rfl rfl rfl hP rfl rfl hl.1 (Nat.le_of_ble_eq_true rfl) dX1_takeLastLeaf_1 ⟨Nat.le_of_ble_eq_true rfl, Nat.le_of_ble_eq_true rfl⟩) ?_
  refine lv_iconst (v := nI 1) hx hb dX1_takeLastLeaf_4 rfl ?_
  refine n_isub hx hb (by omega) dX1_takeLastLeaf_5 ?_
  refine lv_istore_n (lv' := [(3, .int (nI ((rLv len) - 1))), (0, .ref a), (1, .int (nI next)), (2, .int fo)]) hx hb dX1_takeLastLeaf_6 rfl hl (by decide) rfl (fun ls hl => ?_)
  refine lv_aload_n hx hb dX1_takeLastLeaf_7 rfl (lv_at hl 1 rfl) ?_
  refine xrd (xrunV (As := []) (rest := []) S (c_X1_leaves l G a va na room vals nums len hl3) (cwV 0 hts gX1_takeLastLeaf_X1_leaves rfl rfl rfl (by decide +kernel) ⟨Nat.le_of_ble_eq_true rfl, Nat.le_of_ble_eq_true rfl⟩) hE hS hA 0 1 hP rfl rfl rfl hP rfl rfl hl.1 (Nat.le_of_ble_eq_true rfl) dX1_takeLastLeaf_8 ⟨Nat.le_of_ble_eq_true rfl, Nat.le_of_ble_eq_true rfl⟩) ?_
  refine xrd (xrunSN (As := [.int (nI (rLv len))]) (rest := []) S (c_X5_rootLevel_n l G (rLv len) (by have := rLv_le hl3; omega)) ⟨va_cnB 1 hts gX1_takeLastLeaf_X5_rootLevel_n60 rfl rfl rfl hE.2.2.2.2.2 (hts _ hw_X1_takeLastLeaf_iX5_rootLevel) (by decide +kernel) ⟨Nat.le_of_ble_eq_true rfl, Nat.le_of_ble_eq_true rfl⟩, (hts _ hw_X1_takeLastLeaf_sX5_rootLevel), trivial⟩ hE hS hA trivial rfl rfl hl.1 (Nat.le_of_ble_eq_true rfl) dX1_takeLastLeaf_11 ⟨Nat.le_of_ble_eq_true rfl, Nat.le_of_ble_eq_true rfl⟩) ?_
  refine n_top (y := nI (rRt (rLv len))) (cRI_pos (by omega)) ?_
  refine lv_istore (lv' := [(4, .int (nI (rRt (rLv len)))), (3, .int (nI ((rLv len) - 1))), (0, .ref a), (1, .int (nI next)), (2, .int fo)]) hx hb dX1_takeLastLeaf_14 hl (by decide) rfl (fun ls hl => ?_)
  refine lv_iload_n hx hb dX1_takeLastLeaf_16 rfl (lv_at hl 1 rfl) ?_
  refine xrd (xrunSN (As := [.int (nI ((rLv len) - 1))]) (rest := []) S (c_X5_rootLevel_n l G ((rLv len) - 1) (by have := rLv_le hl3; omega)) ⟨va_cnB 1 hts gX1_takeLastLeaf_X5_rootLevel_n60 rfl rfl rfl hE.2.2.2.2.2 (hts _ hw_X1_takeLastLeaf_iX5_rootLevel) (by decide +kernel) ⟨Nat.le_of_ble_eq_true rfl, Nat.le_of_ble_eq_true rfl⟩, (hts _ hw_X1_takeLastLeaf_sX5_rootLevel), trivial⟩ hE hS hA trivial rfl rfl hl.1 (Nat.le_of_ble_eq_true rfl) dX1_takeLastLeaf_17 ⟨Nat.le_of_ble_eq_true rfl, Nat.le_of_ble_eq_true rfl⟩) ?_
  refine lv_istore (lv' := [(5, .int (cRI ((rLv len) - 1))), (4, .int (nI (rRt (rLv len)))), (3, .int (nI ((rLv len) - 1))), (0, .ref a), (1, .int (nI next)), (2, .int fo)]) hx hb dX1_takeLastLeaf_20 hl (by decide) rfl (fun ls hl => ?_)
  refine lv_iconst (v := nI 0) hx hb dX1_takeLastLeaf_22 rfl ?_
  refine lv_istore (lv' := [(6, .int (nI 0)), (5, .int (cRI ((rLv len) - 1))), (4, .int (nI (rRt (rLv len)))), (3, .int (nI ((rLv len) - 1))), (0, .ref a), (1, .int (nI next)), (2, .int fo)]) hx hb dX1_takeLastLeaf_23 hl (by decide) rfl (fun ls hl => ?_)
  refine lv_iconst (v := nI 0) hx hb dX1_takeLastLeaf_25 rfl ?_
  refine lv_istore (lv' := [(7, .int (nI 0)), (6, .int (nI 0)), (5, .int (cRI ((rLv len) - 1))), (4, .int (nI (rRt (rLv len)))), (3, .int (nI ((rLv len) - 1))), (0, .ref a), (1, .int (nI next)), (2, .int fo)]) hx hb dX1_takeLastLeaf_26 hl (by decide) rfl (fun ls hl => ?_)
  have hP : va_P G.1 vwCl [(a, .inr (1, [.ref va, .ref na, .int (nI len)])), (va, .inl (xcI G, room, .inl vals)), (na, .inl (xcI G, 101, .inl ((tlP nums (rLv len - 1) next fo 0).1)))] s.heap := hP
  have hl : lv_has ls 9 [(7, .int (nI 0)), (6, .int (nI ((tlP nums (rLv len - 1) next fo 0).2))), (5, .int (cRI (rLv len - 1))), (4, .int (nI (rRt (rLv len)))), (3, .int (nI (rLv len - 1))), (0, .ref a), (1, .int (nI next)), (2, .int fo)] := lv_sub hl [0, 1, 2, 3, 4, 5, 6, 7] rfl
  refine xloop (σ := Nat) (C := (fun (x_ : Nat) H locs ls => (x_ ≤ rRt (rLv len) + 1) ∧ va_P G.1 vwCl [(a, .inr (1, [.ref va, .ref na, .int (nI len)])), (va, .inl (xcI G, room, .inl vals)), (na, .inl (xcI G, 101, .inl ((tlP nums (rLv len - 1) next fo x_).1)))] H ∧ va_S (fun q => q ∈ [a, va, na]) s.heap H locs ∧ lv_has ls 9 [(7, .int (nI x_)), (6, .int (nI ((tlP nums (rLv len - 1) next fo x_).2))), (5, .int (cRI (rLv len - 1))), (4, .int (nI (rRt (rLv len)))), (3, .int (nI (rLv len - 1))), (0, .ref a), (1, .int (nI next)), (2, .int fo)])) (μ := (fun (x_ : Nat) => rRt (rLv len) + 1 - x_)) (W' := fun H locs ls => W p l e _ s m _ below meth c H locs _ _ _ (F0 m 28 ls [])) ?_ 0 _ _ _ ⟨(Nat.zero_le _), hP, hS, hl⟩
  intro x_ H locs ls hC ih_28
  obtain ⟨k, rfl⟩ : ∃ z, z = x_ := ⟨x_, rfl⟩
  obtain ⟨hkr, hP, hS, hl⟩ := hC
  replace hkr : k ≤ rRt (rLv len) + 1 := hkr
  replace hP : va_P G.1 vwCl [(a, .inr (1, [.ref va, .ref na, .int (nI len)])), (va, .inl (xcI G, room, .inl vals)), (na, .inl (xcI G, 101, .inl ((tlP nums (rLv len - 1) next fo k).1)))] H := hP
  have hD : va_D (fun q => q ∈ [a, va, na]) [(a, .inr (1, [.ref va, .ref na, .int (nI len)])), (va, .inl (xcI G, room, .inl vals)), (na, .inl (xcI G, 101, .inl ((tlP nums (rLv len - 1) next fo k).1)))] := (hdis.to rfl)
  replace hl : lv_has ls 9 [(7, .int (nI k)), (6, .int (nI ((tlP nums (rLv len - 1) next fo k).2))), (5, .int (cRI (rLv len - 1))), (4, .int (nI (rRt (rLv len)))), (3, .int (nI (rLv len - 1))), (0, .ref a), (1, .int (nI next)), (2, .int fo)] := hl
  refine id ?_
  have hr4 := rRt_le (rLv len)
  have hl74 := rLv_le hl3
  refine lv_iload hx hb dX1_takeLastLeaf_28 (lv_at hl 0 rfl) ?_
  refine lv_iload hx hb dX1_takeLastLeaf_30 (lv_at hl 3 rfl) ?_
  refine n_icmp_gt (tgt := 95) hx hb (by omega) (by omega) dX1_takeLastLeaf_32 (by decide) (fun c_32 => ?_) (fun c_32 => ?_)
  · refine lv_iload hx hb dX1_takeLastLeaf_95 (lv_at hl 1 rfl) ?_
    have hk9 : k = rRt (rLv len) + 1 := by omega
    subst hk9
    exact xend_i () hx hb hr hlk_ hS (fun _ h => h) dX1_takeLastLeaf_97 rfl hP (Nat.le_refl _) (Nat.le_refl _)
  · refine lv_iload hx hb dX1_takeLastLeaf_35 (lv_at hl 0 rfl) ?_
    refine lv_iload_n hx hb dX1_takeLastLeaf_37 rfl (lv_at hl 4 rfl) ?_
    refine lv_iconst (v := nI 2) hx hb dX1_takeLastLeaf_38 rfl ?_
    refine lv_iload hx hb dX1_takeLastLeaf_39 (lv_at hl 0 rfl) ?_
    refine n_imul hx hb dX1_takeLastLeaf_41 ?_
    refine n_ishr hx hb (by omega) (by omega) dX1_takeLastLeaf_42 ?_
    refine n_top (y := nI ((rLv len - 1) / 4 ^ k)) (by rw [pow2_4]) ?_
    refine xrd (xrunS (As := [.int (nI k), .int (nI ((rLv len - 1) / 4 ^ k))]) (rest := []) S (c_X1_slotOf_n l G k ((rLv len - 1) / 4 ^ k) (by omega) (lvN_w (by omega) (by omega))) (va_cwS 2 hts gX1_takeLastLeaf_X1_slotOf rfl rfl rfl (by decide +kernel) ⟨Nat.le_of_ble_eq_true rfl, Nat.le_of_ble_eq_true rfl⟩) hE hS hA trivial rfl rfl hl.1 (Nat.le_of_ble_eq_true rfl) dX1_takeLastLeaf_43 ⟨Nat.le_of_ble_eq_true rfl, Nat.le_of_ble_eq_true rfl⟩) ?_
    refine lv_istore (lv' := [(8, .int (nI (lvN k + ((rLv len - 1) / 4 ^ k)))), (7, .int (nI k)), (6, .int (nI ((tlP nums (rLv len - 1) next fo k).2))), (5, .int (cRI (rLv len - 1))), (4, .int (nI (rRt (rLv len)))), (3, .int (nI (rLv len - 1))), (0, .ref a), (1, .int (nI next)), (2, .int fo)]) hx hb dX1_takeLastLeaf_46 hl (by decide) rfl (fun ls hl => ?_)
    refine lv_iload hx hb dX1_takeLastLeaf_48 (lv_at hl 1 rfl) ?_
    refine lv_iload hx hb dX1_takeLastLeaf_50 (lv_at hl 3 rfl) ?_
    refine lv_icmp_gt (tgt := 64) hx hb dX1_takeLastLeaf_52 (by decide) (fun c_52 => ?_) (fun c_52 => ?_)
    · have c_52 : rLv len - 1 = 0 ∨ rRt (rLv len - 1) < k := (cRI_lt (by omega)).mp (fun z => absurd c_52 (Int32.not_lt.mpr z))
      refine lv_aload_n hx hb dX1_takeLastLeaf_64 rfl (lv_at hl 6 rfl) ?_
      refine lv_iload hx hb dX1_takeLastLeaf_65 (lv_at hl 0 rfl) ?_
      refine xwr (xrunV (As := [.int (nI (lvN k + ((rLv len - 1) / 4 ^ k)))]) (rest := []) S (c_X1_removeBlock l G a va na room vals ((tlP nums (rLv len - 1) next fo k).1) len (lvN k + ((rLv len - 1) / 4 ^ k)) hdis (lvN_b (by omega) (by omega))) (cwV 1 hts gX1_takeLastLeaf_X1_removeBlock rfl rfl rfl (by decide +kernel) ⟨Nat.le_of_ble_eq_true rfl, Nat.le_of_ble_eq_true rfl⟩) hE hS hA 0 1 hP rfl rfl rfl hP rfl rfl hl.1 (Nat.le_of_ble_eq_true rfl) dX1_takeLastLeaf_67 ⟨Nat.le_of_ble_eq_true rfl, Nat.le_of_ble_eq_true rfl⟩) hS (fun _ h => h) (fun _ h => h) (fun uw_ H locs hΨ hz hkp hS => ?_)
      have hP : va_P G.1 vwCl [(a, .inr (1, [.ref va, .ref na, .int (nI len)])), (va, .inl (xcI G, room, .inl vals)), (na, .inl (xcI G, 101, .inl (upd ((tlP nums (rLv len - 1) next fo k).1) (lvN k + ((rLv len - 1) / 4 ^ k)) (-5))))] H := hΨ
      have hD : va_D (fun q => q ∈ [a, va, na]) [(a, .inr (1, [.ref va, .ref na, .int (nI len)])), (va, .inl (xcI G, room, .inl vals)), (na, .inl (xcI G, 101, .inl (upd ((tlP nums (rLv len - 1) next fo k).1) (lvN k + ((rLv len - 1) / 4 ^ k)) (-5))))] := (hdis.to rfl)
      refine W.eq (g2 := F0 m 70 ls []) rfl ?_
      refine lv_goto (tgt := 89) hx hb dX1_takeLastLeaf_70 (by decide) ?_
      refine lv_iinc (v := nI (k + 1)) (lv' := [(7, .int (nI (k + 1))), (8, .int (nI (lvN k + ((rLv len - 1) / 4 ^ k)))), (6, .int (nI ((tlP nums (rLv len - 1) next fo k).2))), (5, .int (cRI (rLv len - 1))), (4, .int (nI (rRt (rLv len)))), (3, .int (nI (rLv len - 1))), (0, .ref a), (1, .int (nI next)), (2, .int fo)]) hx hb dX1_takeLastLeaf_89 hl (k := 1) rfl (nI_add k 1) (by decide) rfl (fun ls hl => ?_)
      refine lv_goto (tgt := 28) hx hb dX1_takeLastLeaf_92 (by decide) ?_
      have eT : (tlP nums (rLv len - 1) next fo (k + 1)).2 = (tlP nums (rLv len - 1) next fo k).2 := by rw [tlP, if_pos (Or.inl c_52)]
      rw [← eT] at hl
      have hl : lv_has ls 9 [(7, .int (nI (k + 1))), (6, .int (nI ((tlP nums (rLv len - 1) next fo (k + 1)).2))), (5, .int (cRI (rLv len - 1))), (4, .int (nI (rRt (rLv len)))), (3, .int (nI (rLv len - 1))), (0, .ref a), (1, .int (nI next)), (2, .int fo)] := lv_sub hl [0, 2, 3, 4, 5, 6, 7, 8] rfl
      have hP : va_P G.1 vwCl [(a, .inr (1, [.ref va, .ref na, .int (nI len)])), (va, .inl (xcI G, room, .inl vals)), (na, .inl (xcI G, 101, .inl ((tlP nums (rLv len - 1) next fo (k + 1)).1)))] H := (by rw [tlP, if_pos (Or.inl c_52)]; exact hP)
      exact ih_28 (k + 1) _ _ _ (by show rRt (rLv len) + 1 - (k + 1) < rRt (rLv len) + 1 - k; omega) ⟨(by (try dsimp only); omega), hP, hS, hl⟩
    · have c_52 : ¬ (rLv len - 1 = 0 ∨ rRt (rLv len - 1) < k) := fun z => (cRI_lt (by omega)).mpr z (Int32.not_lt.mp c_52)
      refine lv_iload_n hx hb dX1_takeLastLeaf_55 rfl (lv_at hl 5 rfl) ?_
      refine lv_iload hx hb dX1_takeLastLeaf_56 (lv_at hl 1 rfl) ?_
      refine xrd (xrunS (As := [.int (nI (rLv len - 1)), .int (nI k)]) (rest := []) S (c_X1_isFirstLeafOfBlock l G (rLv len - 1) k (by omega) (by omega)) (va_cwS 2 hts gX1_takeLastLeaf_X1_isFirstLeafOfBlock rfl rfl rfl (by decide +kernel) ⟨Nat.le_of_ble_eq_true rfl, Nat.le_of_ble_eq_true rfl⟩) hE hS hA trivial rfl rfl hl.1 (Nat.le_of_ble_eq_true rfl) dX1_takeLastLeaf_58 ⟨Nat.le_of_ble_eq_true rfl, Nat.le_of_ble_eq_true rfl⟩) ?_
      refine b_if_eq (tgt := 73) hx hb dX1_takeLastLeaf_61 (by decide) (fun c_61 => ?_) (fun c_61 => ?_)
      · refine lv_iload hx hb dX1_takeLastLeaf_73 (lv_at hl 2 rfl) ?_
        refine lv_aload_n hx hb dX1_takeLastLeaf_75 rfl (lv_at hl 6 rfl) ?_
        refine lv_iload hx hb dX1_takeLastLeaf_76 (lv_at hl 0 rfl) ?_
        refine lv_iload_n hx hb dX1_takeLastLeaf_78 rfl (lv_at hl 7 rfl) ?_
        refine lv_iload hx hb dX1_takeLastLeaf_79 (lv_at hl 2 rfl) ?_
        refine n_iadd hx hb dX1_takeLastLeaf_81 ?_
        refine lv_iload_n hx hb dX1_takeLastLeaf_82 rfl (lv_at hl 8 rfl) ?_
        refine xwr (xrunV (As := [.int (nI (lvN k + ((rLv len - 1) / 4 ^ k))), .int (nI (next + ((tlP nums (rLv len - 1) next fo k).2))), .int fo]) (rest := [.int (nI ((tlP nums (rLv len - 1) next fo k).2))]) S (c_X1_makeBlock l G a va na room vals ((tlP nums (rLv len - 1) next fo k).1) len (lvN k + ((rLv len - 1) / 4 ^ k)) (next + ((tlP nums (rLv len - 1) next fo k).2)) fo hdis (lvN_b (by omega) (by omega))) (cwV 3 hts gX1_takeLastLeaf_X1_makeBlock rfl rfl rfl (by decide +kernel) ⟨Nat.le_of_ble_eq_true rfl, Nat.le_of_ble_eq_true rfl⟩) hE hS hA 0 1 hP rfl rfl rfl hP rfl rfl hl.1 (Nat.le_of_ble_eq_true rfl) dX1_takeLastLeaf_83 ⟨Nat.le_of_ble_eq_true rfl, Nat.le_of_ble_eq_true rfl⟩) hS (fun _ h => h) (fun _ h => h) (fun uw_ H locs hΨ hz hkp hS => ?_)
        have hP : va_P G.1 vwCl [(a, .inr (1, [.ref va, .ref na, .int (nI len)])), (va, .inl (xcI G, room, .inl vals)), (na, .inl (xcI G, 101, .inl (mbN ((tlP nums (rLv len - 1) next fo k).1) (lvN k + ((rLv len - 1) / 4 ^ k)) (next + ((tlP nums (rLv len - 1) next fo k).2)) fo)))] H := hΨ
        have hD : va_D (fun q => q ∈ [a, va, na]) [(a, .inr (1, [.ref va, .ref na, .int (nI len)])), (va, .inl (xcI G, room, .inl vals)), (na, .inl (xcI G, 101, .inl (mbN ((tlP nums (rLv len - 1) next fo k).1) (lvN k + ((rLv len - 1) / 4 ^ k)) (next + ((tlP nums (rLv len - 1) next fo k).2)) fo)))] := (hdis.to rfl)
        refine W.eq (g2 := F0 m 86 ls [.int (nI (mbC ((tlP nums (rLv len - 1) next fo k).1) (lvN k + ((rLv len - 1) / 4 ^ k)) fo)), .int (nI ((tlP nums (rLv len - 1) next fo k).2))]) rfl ?_
        refine n_iadd hx hb dX1_takeLastLeaf_86 ?_
        refine lv_istore (lv' := [(6, .int (nI (((tlP nums (rLv len - 1) next fo k).2) + (mbC ((tlP nums (rLv len - 1) next fo k).1) (lvN k + ((rLv len - 1) / 4 ^ k)) fo)))), (8, .int (nI (lvN k + ((rLv len - 1) / 4 ^ k)))), (7, .int (nI k)), (5, .int (cRI (rLv len - 1))), (4, .int (nI (rRt (rLv len)))), (3, .int (nI (rLv len - 1))), (0, .ref a), (1, .int (nI next)), (2, .int fo)]) hx hb dX1_takeLastLeaf_87 hl (by decide) rfl (fun ls hl => ?_)
        refine lv_iinc (v := nI (k + 1)) (lv' := [(7, .int (nI (k + 1))), (6, .int (nI (((tlP nums (rLv len - 1) next fo k).2) + (mbC ((tlP nums (rLv len - 1) next fo k).1) (lvN k + ((rLv len - 1) / 4 ^ k)) fo)))), (8, .int (nI (lvN k + ((rLv len - 1) / 4 ^ k)))), (5, .int (cRI (rLv len - 1))), (4, .int (nI (rRt (rLv len)))), (3, .int (nI (rLv len - 1))), (0, .ref a), (1, .int (nI next)), (2, .int fo)]) hx hb dX1_takeLastLeaf_89 hl (k := 2) rfl (nI_add k 1) (by decide) rfl (fun ls hl => ?_)
        refine lv_goto (tgt := 28) hx hb dX1_takeLastLeaf_92 (by decide) ?_
        have eT : (tlP nums (rLv len - 1) next fo (k + 1)).2 = (tlP nums (rLv len - 1) next fo k).2 + mbC (tlP nums (rLv len - 1) next fo k).1 (lvN k + (rLv len - 1) / 4 ^ k) fo := by rw [tlP, if_neg (fun z => z.elim c_52 c_61)]
        rw [← eT] at hl
        have hl : lv_has ls 9 [(7, .int (nI (k + 1))), (6, .int (nI ((tlP nums (rLv len - 1) next fo (k + 1)).2))), (5, .int (cRI (rLv len - 1))), (4, .int (nI (rRt (rLv len)))), (3, .int (nI (rLv len - 1))), (0, .ref a), (1, .int (nI next)), (2, .int fo)] := lv_sub hl [0, 1, 3, 4, 5, 6, 7, 8] rfl
        have hP : va_P G.1 vwCl [(a, .inr (1, [.ref va, .ref na, .int (nI len)])), (va, .inl (xcI G, room, .inl vals)), (na, .inl (xcI G, 101, .inl ((tlP nums (rLv len - 1) next fo (k + 1)).1)))] H := (by rw [tlP, if_neg (fun z => z.elim c_52 c_61)]; exact hP)
        exact ih_28 (k + 1) _ _ _ (by show rRt (rLv len) + 1 - (k + 1) < rRt (rLv len) + 1 - k; omega) ⟨(by (try dsimp only); omega), hP, hS, hl⟩
      · refine lv_aload_n hx hb dX1_takeLastLeaf_64 rfl (lv_at hl 6 rfl) ?_
        refine lv_iload hx hb dX1_takeLastLeaf_65 (lv_at hl 0 rfl) ?_
        refine xwr (xrunV (As := [.int (nI (lvN k + ((rLv len - 1) / 4 ^ k)))]) (rest := []) S (c_X1_removeBlock l G a va na room vals ((tlP nums (rLv len - 1) next fo k).1) len (lvN k + ((rLv len - 1) / 4 ^ k)) hdis (lvN_b (by omega) (by omega))) (cwV 1 hts gX1_takeLastLeaf_X1_removeBlock rfl rfl rfl (by decide +kernel) ⟨Nat.le_of_ble_eq_true rfl, Nat.le_of_ble_eq_true rfl⟩) hE hS hA 0 1 hP rfl rfl rfl hP rfl rfl hl.1 (Nat.le_of_ble_eq_true rfl) dX1_takeLastLeaf_67 ⟨Nat.le_of_ble_eq_true rfl, Nat.le_of_ble_eq_true rfl⟩) hS (fun _ h => h) (fun _ h => h) (fun uw_ H locs hΨ hz hkp hS => ?_)
        have hP : va_P G.1 vwCl [(a, .inr (1, [.ref va, .ref na, .int (nI len)])), (va, .inl (xcI G, room, .inl vals)), (na, .inl (xcI G, 101, .inl (upd ((tlP nums (rLv len - 1) next fo k).1) (lvN k + ((rLv len - 1) / 4 ^ k)) (-5))))] H := hΨ
        have hD : va_D (fun q => q ∈ [a, va, na]) [(a, .inr (1, [.ref va, .ref na, .int (nI len)])), (va, .inl (xcI G, room, .inl vals)), (na, .inl (xcI G, 101, .inl (upd ((tlP nums (rLv len - 1) next fo k).1) (lvN k + ((rLv len - 1) / 4 ^ k)) (-5))))] := (hdis.to rfl)
        refine W.eq (g2 := F0 m 70 ls []) rfl ?_
        refine lv_goto (tgt := 89) hx hb dX1_takeLastLeaf_70 (by decide) ?_
        refine lv_iinc (v := nI (k + 1)) (lv' := [(7, .int (nI (k + 1))), (8, .int (nI (lvN k + ((rLv len - 1) / 4 ^ k)))), (6, .int (nI ((tlP nums (rLv len - 1) next fo k).2))), (5, .int (cRI (rLv len - 1))), (4, .int (nI (rRt (rLv len)))), (3, .int (nI (rLv len - 1))), (0, .ref a), (1, .int (nI next)), (2, .int fo)]) hx hb dX1_takeLastLeaf_89 hl (k := 1) rfl (nI_add k 1) (by decide) rfl (fun ls hl => ?_)
        refine lv_goto (tgt := 28) hx hb dX1_takeLastLeaf_92 (by decide) ?_
        have eT : (tlP nums (rLv len - 1) next fo (k + 1)).2 = (tlP nums (rLv len - 1) next fo k).2 := by rw [tlP, if_pos (Or.inr c_61)]
        rw [← eT] at hl
        have hl : lv_has ls 9 [(7, .int (nI (k + 1))), (6, .int (nI ((tlP nums (rLv len - 1) next fo (k + 1)).2))), (5, .int (cRI (rLv len - 1))), (4, .int (nI (rRt (rLv len)))), (3, .int (nI (rLv len - 1))), (0, .ref a), (1, .int (nI next)), (2, .int fo)] := lv_sub hl [0, 2, 3, 4, 5, 6, 7, 8] rfl
        have hP : va_P G.1 vwCl [(a, .inr (1, [.ref va, .ref na, .int (nI len)])), (va, .inl (xcI G, room, .inl vals)), (na, .inl (xcI G, 101, .inl ((tlP nums (rLv len - 1) next fo (k + 1)).1)))] H := (by rw [tlP, if_pos (Or.inr c_61)]; exact hP)
        exact ih_28 (k + 1) _ _ _ (by show rRt (rLv len) + 1 - (k + 1) < rRt (rLv len) + 1 - k; omega) ⟨(by (try dsimp only); omega), hP, hS, hl⟩

set_option maxHeartbeats 4000000 in
set_option maxRecDepth 100000 in
theorem c_X1_takeLastLeaf_0 (l : Launch) (G : xG) (a : Nat) (va : Nat) (na : Nat) (room : Nat) (vals : Nat → Int32) (nums : Nat → Int32) (len : Nat) (next : Nat) (fo : Int32) (hdis : xDis (xB0 G) [a, va, na]) (hlv0 : rLv len = 0) (hl3 : len ≤ 300) : Met l yX1_takeLastLeaf wsX1_takeLastLeaf ({ frames := 1, cells := 0, slots := 0, locals := 21 } : Room) (xPc G [.ref a, .int (nI next), .int fo] (fun H => va_P G.1 vwCl [(a, .inr (1, [.ref va, .ref na, .int (nI len)])), (va, .inl (xcI G, room, .inl vals)), (na, .inl (xcI G, 101, .inl nums))] H)) (xQ (σ := Unit) (fun _ => some (.int (nI 0))) (fun _ H => va_P G.1 vwCl [(a, .inr (1, [.ref va, .ref na, .int (nI len)])), (va, .inl (xcI G, room, .inl vals)), (na, .inl (xcI G, 101, .inl nums))] H) (fun q => q ∈ [a, va, na])) 0 0 (fun q => q ∈ [a, va, na]) := by
  refine xMet (cc := cX1_takeLastLeaf) (nL := 9) (ret := (some (.int))) (by decide) rfl (Nat.le_of_ble_eq_true rfl) ?_
  intro p e s m below meth c S hr hlk_ hnm hE hP ls hl
  obtain ⟨hx, hb, hml, hown, hts⟩ := id S
  have hown : s.vm.findClass RX1 = some m.cls := hown
  have hK := hE.1
  have hS : va_S (fun q => q ∈ [a, va, na]) s.heap s.heap [] := va_S.rf
  have hA : ∀ q, (fun q => q ∈ [a, va, na]) q → xB0 G ≤ q := hdis.2
  have hP : va_P G.1 vwCl [(a, .inr (1, [.ref va, .ref na, .int (nI len)])), (va, .inl (xcI G, room, .inl vals)), (na, .inl (xcI G, 101, .inl nums))] s.heap := hP
  have hD : va_D (fun q => q ∈ [a, va, na]) [(a, .inr (1, [.ref va, .ref na, .int (nI len)])), (va, .inl (xcI G, room, .inl vals)), (na, .inl (xcI G, 101, .inl nums))] := (hdis.to rfl)
  have hl : lv_has ls 9 [(0, .ref a), (1, .int (nI next)), (2, .int fo)] := hl
  refine lv_aload_n hx hb dX1_takeLastLeaf_0 rfl (lv_at hl 0 rfl) ?_
  refine xrd (xrunV (As := []) (rest := []) S (c_X1_leaves l G a va na room vals nums len hl3) (cwV 0 hts gX1_takeLastLeaf_X1_leaves rfl rfl rfl (by decide +kernel) ⟨Nat.le_of_ble_eq_true rfl, Nat.le_of_ble_eq_true rfl⟩) hE hS hA 0 1 hP rfl rfl rfl hP rfl rfl hl.1 (Nat.le_of_ble_eq_true rfl) dX1_takeLastLeaf_1 ⟨Nat.le_of_ble_eq_true rfl, Nat.le_of_ble_eq_true rfl⟩) ?_
  refine lv_iconst (v := nI 1) hx hb dX1_takeLastLeaf_4 rfl ?_
  refine lv_isub hx hb dX1_takeLastLeaf_5 ?_
  refine lv_istore_n (lv' := [(3, .int ((nI (rLv len)) - (nI 1))), (0, .ref a), (1, .int (nI next)), (2, .int fo)]) hx hb dX1_takeLastLeaf_6 rfl hl (by decide) rfl (fun ls hl => ?_)
  refine lv_aload_n hx hb dX1_takeLastLeaf_7 rfl (lv_at hl 1 rfl) ?_
  refine xrd (xrunV (As := []) (rest := []) S (c_X1_leaves l G a va na room vals nums len hl3) (cwV 0 hts gX1_takeLastLeaf_X1_leaves rfl rfl rfl (by decide +kernel) ⟨Nat.le_of_ble_eq_true rfl, Nat.le_of_ble_eq_true rfl⟩) hE hS hA 0 1 hP rfl rfl rfl hP rfl rfl hl.1 (Nat.le_of_ble_eq_true rfl) dX1_takeLastLeaf_8 ⟨Nat.le_of_ble_eq_true rfl, Nat.le_of_ble_eq_true rfl⟩) ?_
  refine xrd (xrunSN (As := [.int (nI (rLv len))]) (rest := []) S (c_X5_rootLevel_n l G (rLv len) (by omega)) ⟨va_cnB 1 hts gX1_takeLastLeaf_X5_rootLevel_n60 rfl rfl rfl hE.2.2.2.2.2 (hts _ hw_X1_takeLastLeaf_iX5_rootLevel) (by decide +kernel) ⟨Nat.le_of_ble_eq_true rfl, Nat.le_of_ble_eq_true rfl⟩, (hts _ hw_X1_takeLastLeaf_sX5_rootLevel), trivial⟩ hE hS hA trivial rfl rfl hl.1 (Nat.le_of_ble_eq_true rfl) dX1_takeLastLeaf_11 ⟨Nat.le_of_ble_eq_true rfl, Nat.le_of_ble_eq_true rfl⟩) ?_
  refine n_top (y := (-5)) (by rw [hlv0]; rfl) ?_
  refine lv_istore (lv' := [(4, .int (-5)), (3, .int ((nI (rLv len)) - (nI 1))), (0, .ref a), (1, .int (nI next)), (2, .int fo)]) hx hb dX1_takeLastLeaf_14 hl (by decide) rfl (fun ls hl => ?_)
  refine lv_iload_n hx hb dX1_takeLastLeaf_16 rfl (lv_at hl 1 rfl) ?_
  refine xrd (xrunSN (As := [.int ((nI (rLv len)) - (nI 1))]) (rest := []) S (c_X5_rootLevel l G ((nI (rLv len)) - (nI 1)) (by rw [hlv0]; decide)) ⟨va_cnB 1 hts gX1_takeLastLeaf_X5_rootLevel_n60 rfl rfl rfl hE.2.2.2.2.2 (hts _ hw_X1_takeLastLeaf_iX5_rootLevel) (by decide +kernel) ⟨Nat.le_of_ble_eq_true rfl, Nat.le_of_ble_eq_true rfl⟩, (hts _ hw_X1_takeLastLeaf_sX5_rootLevel), trivial⟩ hE hS hA trivial rfl rfl hl.1 (Nat.le_of_ble_eq_true rfl) dX1_takeLastLeaf_17 ⟨Nat.le_of_ble_eq_true rfl, Nat.le_of_ble_eq_true rfl⟩) ?_
  refine lv_istore (lv' := [(5, .int (cRX ((nI (rLv len)) - (nI 1)))), (4, .int (-5)), (3, .int ((nI (rLv len)) - (nI 1))), (0, .ref a), (1, .int (nI next)), (2, .int fo)]) hx hb dX1_takeLastLeaf_20 hl (by decide) rfl (fun ls hl => ?_)
  refine lv_iconst (v := nI 0) hx hb dX1_takeLastLeaf_22 rfl ?_
  refine lv_istore (lv' := [(6, .int (nI 0)), (5, .int (cRX ((nI (rLv len)) - (nI 1)))), (4, .int (-5)), (3, .int ((nI (rLv len)) - (nI 1))), (0, .ref a), (1, .int (nI next)), (2, .int fo)]) hx hb dX1_takeLastLeaf_23 hl (by decide) rfl (fun ls hl => ?_)
  refine lv_iconst (v := nI 0) hx hb dX1_takeLastLeaf_25 rfl ?_
  refine lv_istore (lv' := [(7, .int (nI 0)), (6, .int (nI 0)), (5, .int (cRX ((nI (rLv len)) - (nI 1)))), (4, .int (-5)), (3, .int ((nI (rLv len)) - (nI 1))), (0, .ref a), (1, .int (nI next)), (2, .int fo)]) hx hb dX1_takeLastLeaf_26 hl (by decide) rfl (fun ls hl => ?_)
  refine lv_iload hx hb dX1_takeLastLeaf_28 (lv_at hl 0 rfl) ?_
  refine lv_iload hx hb dX1_takeLastLeaf_30 (lv_at hl 3 rfl) ?_
  refine lv_icmp_gt (tgt := 95) hx hb dX1_takeLastLeaf_32 (by decide) (fun c_32 => ?_) (fun c_32 => ?_)
  · refine lv_iload hx hb dX1_takeLastLeaf_95 (lv_at hl 1 rfl) ?_
    exact xend_i () hx hb hr hlk_ hS (fun _ h => h) dX1_takeLastLeaf_97 rfl hP (Nat.le_refl _) (Nat.le_refl _)
  · exact absurd c_32 (by decide)

theorem hw_X1_removeLast_f33 : Cond.fieldLink RX1 33 "TailVectors$Row" "length" "I" ∈ wsX1_removeLast := by decide +kernel
theorem hi_X1_removeLast_RX1 : ∀ w ∈ u_ws RX1 TX1 3, w ∈ wsX1_removeLast := by decide +kernel
set_option maxHeartbeats 4000000 in
set_option maxRecDepth 100000 in
theorem c_X1_removeLast (l : Launch) (G : xG) (a : Nat) (va : Nat) (na : Nat) (room : Nat) (vals : Nat → Int32) (nums : Nat → Int32) (len : Nat) (next : Nat) (fo : Int32) (hdis : xDis (xB0 G) [a, va, na]) (hl1 : 1 ≤ len) (hl3 : len ≤ 300) : Met l yX1_removeLast wsX1_removeLast ({ frames := 2, cells := 0, slots := 0, locals := 51 } : Room) (xPc G [.ref a, .int (nI next), .int fo] (fun H => va_P G.1 vwCl [(a, .inr (1, [.ref va, .ref na, .int (nI len)])), (va, .inl (xcI G, room, .inl vals)), (na, .inl (xcI G, 101, .inl nums))] H)) (xQ (σ := Unit) (fun _ => some (.int (nI ((rmN nums len next fo).2)))) (fun _ H => va_P G.1 vwCl [(a, .inr (1, [.ref va, .ref na, .int (nI (len - 1))])), (va, .inl (xcI G, room, .inl vals)), (na, .inl (xcI G, 101, .inl ((rmN nums len next fo).1)))] H) (fun q => q ∈ [a, va, na])) 0 0 (fun q => q ∈ [a, va, na]) := by
  refine xMet (cc := cX1_removeLast) (nL := 4) (ret := (some (.int))) (by decide) rfl (Nat.le_of_ble_eq_true rfl) ?_
  intro p e s m below meth c S hr hlk_ hnm hE hP ls hl
  obtain ⟨hx, hb, hml, hown, hts⟩ := id S
  have hown : s.vm.findClass RX1 = some m.cls := hown
  have hK := hE.1
  have hS : va_S (fun q => q ∈ [a, va, na]) s.heap s.heap [] := va_S.rf
  have hA : ∀ q, (fun q => q ∈ [a, va, na]) q → xB0 G ≤ q := hdis.2
  have hP : va_P G.1 vwCl [(a, .inr (1, [.ref va, .ref na, .int (nI len)])), (va, .inl (xcI G, room, .inl vals)), (na, .inl (xcI G, 101, .inl nums))] s.heap := hP
  have hD : va_D (fun q => q ∈ [a, va, na]) [(a, .inr (1, [.ref va, .ref na, .int (nI len)])), (va, .inl (xcI G, room, .inl vals)), (na, .inl (xcI G, 101, .inl nums))] := (hdis.to rfl)
  have hl : lv_has ls 4 [(0, .ref a), (1, .int (nI next)), (2, .int fo)] := hl
  refine lv_aload_n hx hb dX1_removeLast_0 rfl (lv_at hl 0 rfl) ?_
  refine va_get (D := G.1) (ci := 1) (v := .int (nI len)) (C := RX1) (T := TX1) (N := 3) hx hb hts hi_X1_removeLast_RX1 hown hK hP 0 rfl rfl 2 (by decide) (hts _ hw_X1_removeLast_f33) (fun _ h9 => h9) rfl dX1_removeLast_1 ?_
  refine n_if_ne (tgt := 9) hx hb (by omega) dX1_removeLast_4 (by decide) (fun c_4 => ?_) (fun c_4 => ?_)
  · refine lv_aload_n hx hb dX1_removeLast_9 rfl (lv_at hl 0 rfl) ?_
    refine xrd (xrunV (As := []) (rest := []) S (c_X1_tail l G a va na room vals nums len hl3) (cwV 0 hts gX1_removeLast_X1_tail rfl rfl rfl (by decide +kernel) ⟨Nat.le_of_ble_eq_true rfl, Nat.le_of_ble_eq_true rfl⟩) hE hS hA 0 1 hP rfl rfl rfl hP rfl rfl hl.1 (Nat.le_of_ble_eq_true rfl) dX1_removeLast_10 ⟨Nat.le_of_ble_eq_true rfl, Nat.le_of_ble_eq_true rfl⟩) ?_
    refine lv_iconst (v := nI 1) hx hb dX1_removeLast_13 rfl ?_
    refine n_icmp_ne (tgt := 26) hx hb (by omega) (by omega) dX1_removeLast_14 (by decide) (fun c_14 => ?_) (fun c_14 => ?_)
    · refine lv_iconst (v := nI 0) hx hb dX1_removeLast_26 rfl ?_
      refine lv_istore_n (lv' := [(3, .int (nI 0)), (0, .ref a), (1, .int (nI next)), (2, .int fo)]) hx hb dX1_removeLast_27 rfl hl (by decide) rfl (fun ls hl => ?_)
      refine lv_aload_n hx hb dX1_removeLast_28 rfl (lv_at hl 1 rfl) ?_
      refine lv_dup hx hb dX1_removeLast_29 rfl ?_
      refine va_get (D := G.1) (ci := 1) (v := .int (nI len)) (C := RX1) (T := TX1) (N := 3) hx hb hts hi_X1_removeLast_RX1 hown hK hP 0 rfl rfl 2 (by decide) (hts _ hw_X1_removeLast_f33) (fun _ h9 => h9) rfl dX1_removeLast_30 ?_
      refine lv_iconst (v := nI 1) hx hb dX1_removeLast_33 rfl ?_
      refine n_isub hx hb (by omega) dX1_removeLast_34 ?_
      refine va_put (D := G.1) (ci := 1) (v := .int (nI (len - 1))) (ty := .int) (C := RX1) (T := TX1) (N := 3) hx hb hts hi_X1_removeLast_RX1 tyX1 tyX1_ok nmX1 hown hK hP hD hS 0 rfl rfl 2 (by decide) (hts _ hw_X1_removeLast_f33) (fun _ h9 => h9) rfl (by decide +kernel) rfl rfl (Nat.le_of_ble_eq_true rfl) dX1_removeLast_35 (fun H locs hP hD hS => ?_)
      have hP : va_P G.1 vwCl [(a, .inr (1, [.ref va, .ref na, .int (nI (len - 1))])), (va, .inl (xcI G, room, .inl vals)), (na, .inl (xcI G, 101, .inl nums))] H := hP
      have hD : va_D (fun q => q ∈ [a, va, na]) [(a, .inr (1, [.ref va, .ref na, .int (nI (len - 1))])), (va, .inl (xcI G, room, .inl vals)), (na, .inl (xcI G, 101, .inl nums))] := hD
      refine lv_iload_n hx hb dX1_removeLast_38 rfl (lv_at hl 0 rfl) ?_
      have eW : rmN nums len next fo = (nums, 0) := by rw [rmN, if_neg (fun z => c_14 z.1)]
      exact xend_i () hx hb hr hlk_ hS (fun _ h => h) dX1_removeLast_39 (by rw [eW]) (by rw [eW]; exact hP) (Nat.le_refl _) (Nat.le_refl _)
    · by_cases c0 : rLv len = 0
      · refine lv_aload_n hx hb dX1_removeLast_17 rfl (lv_at hl 0 rfl) ?_
        refine lv_iload_n hx hb dX1_removeLast_18 rfl (lv_at hl 1 rfl) ?_
        refine lv_iload_n hx hb dX1_removeLast_19 rfl (lv_at hl 2 rfl) ?_
        refine xwr (xrunV (As := [.int (nI next), .int fo]) (rest := []) S (c_X1_takeLastLeaf_0 l G a va na room vals nums len next fo hdis c0 hl3) (cwV 2 hts gX1_removeLast_X1_takeLastLeaf rfl rfl rfl (by decide +kernel) ⟨Nat.le_of_ble_eq_true rfl, Nat.le_of_ble_eq_true rfl⟩) hE hS hA 0 1 hP rfl rfl rfl hP rfl rfl hl.1 (Nat.le_of_ble_eq_true rfl) dX1_removeLast_20 ⟨Nat.le_of_ble_eq_true rfl, Nat.le_of_ble_eq_true rfl⟩) hS (fun _ h => h) (fun _ h => h) (fun uw_ H locs hΨ hz hkp hS => ?_)
        have hP : va_P G.1 vwCl [(a, .inr (1, [.ref va, .ref na, .int (nI len)])), (va, .inl (xcI G, room, .inl vals)), (na, .inl (xcI G, 101, .inl nums))] H := hΨ
        have hD : va_D (fun q => q ∈ [a, va, na]) [(a, .inr (1, [.ref va, .ref na, .int (nI len)])), (va, .inl (xcI G, room, .inl vals)), (na, .inl (xcI G, 101, .inl nums))] := (hdis.to rfl)
        refine W.eq (g2 := F0 m 23 ls [.int (nI 0)]) rfl ?_
        refine lv_goto (tgt := 27) hx hb dX1_removeLast_23 (by decide) ?_
        refine lv_istore_n (lv' := [(3, .int (nI 0)), (0, .ref a), (1, .int (nI next)), (2, .int fo)]) hx hb dX1_removeLast_27 rfl hl (by decide) rfl (fun ls hl => ?_)
        refine lv_aload_n hx hb dX1_removeLast_28 rfl (lv_at hl 1 rfl) ?_
        refine lv_dup hx hb dX1_removeLast_29 rfl ?_
        refine va_get (D := G.1) (ci := 1) (v := .int (nI len)) (C := RX1) (T := TX1) (N := 3) hx hb hts hi_X1_removeLast_RX1 hown hK hP 0 rfl rfl 2 (by decide) (hts _ hw_X1_removeLast_f33) (fun _ h9 => h9) rfl dX1_removeLast_30 ?_
        refine lv_iconst (v := nI 1) hx hb dX1_removeLast_33 rfl ?_
        refine n_isub hx hb (by omega) dX1_removeLast_34 ?_
        refine va_put (D := G.1) (ci := 1) (v := .int (nI (len - 1))) (ty := .int) (C := RX1) (T := TX1) (N := 3) hx hb hts hi_X1_removeLast_RX1 tyX1 tyX1_ok nmX1 hown hK hP hD hS 0 rfl rfl 2 (by decide) (hts _ hw_X1_removeLast_f33) (fun _ h9 => h9) rfl (by decide +kernel) rfl rfl (Nat.le_of_ble_eq_true rfl) dX1_removeLast_35 (fun H locs hP hD hS => ?_)
        have hP : va_P G.1 vwCl [(a, .inr (1, [.ref va, .ref na, .int (nI (len - 1))])), (va, .inl (xcI G, room, .inl vals)), (na, .inl (xcI G, 101, .inl nums))] H := hP
        have hD : va_D (fun q => q ∈ [a, va, na]) [(a, .inr (1, [.ref va, .ref na, .int (nI (len - 1))])), (va, .inl (xcI G, room, .inl vals)), (na, .inl (xcI G, 101, .inl nums))] := hD
        refine lv_iload_n hx hb dX1_removeLast_38 rfl (lv_at hl 0 rfl) ?_
        have eW : rmN nums len next fo = (nums, 0) := by rw [rmN, if_neg (fun z => z.2 c0)]
        exact xend_i () hx hb hr hlk_ hS (fun _ h => h) dX1_removeLast_39 (by rw [eW]) (by rw [eW]; exact hP) (Nat.le_refl _) (Nat.le_refl _)
      · refine lv_aload_n hx hb dX1_removeLast_17 rfl (lv_at hl 0 rfl) ?_
        refine lv_iload_n hx hb dX1_removeLast_18 rfl (lv_at hl 1 rfl) ?_
        refine lv_iload_n hx hb dX1_removeLast_19 rfl (lv_at hl 2 rfl) ?_
        refine xwr (xrunV (As := [.int (nI next), .int fo]) (rest := []) S (c_X1_takeLastLeaf l G a va na room vals nums len next fo hdis (by omega) hl3) (cwV 2 hts gX1_removeLast_X1_takeLastLeaf rfl rfl rfl (by decide +kernel) ⟨Nat.le_of_ble_eq_true rfl, Nat.le_of_ble_eq_true rfl⟩) hE hS hA 0 1 hP rfl rfl rfl hP rfl rfl hl.1 (Nat.le_of_ble_eq_true rfl) dX1_removeLast_20 ⟨Nat.le_of_ble_eq_true rfl, Nat.le_of_ble_eq_true rfl⟩) hS (fun _ h => h) (fun _ h => h) (fun uw_ H locs hΨ hz hkp hS => ?_)
        have hP : va_P G.1 vwCl [(a, .inr (1, [.ref va, .ref na, .int (nI len)])), (va, .inl (xcI G, room, .inl vals)), (na, .inl (xcI G, 101, .inl ((tlP nums (rLv len - 1) next fo (rRt (rLv len) + 1)).1)))] H := hΨ
        have hD : va_D (fun q => q ∈ [a, va, na]) [(a, .inr (1, [.ref va, .ref na, .int (nI len)])), (va, .inl (xcI G, room, .inl vals)), (na, .inl (xcI G, 101, .inl ((tlP nums (rLv len - 1) next fo (rRt (rLv len) + 1)).1)))] := (hdis.to rfl)
        refine W.eq (g2 := F0 m 23 ls [.int (nI ((tlP nums (rLv len - 1) next fo (rRt (rLv len) + 1)).2))]) rfl ?_
        refine lv_goto (tgt := 27) hx hb dX1_removeLast_23 (by decide) ?_
        refine lv_istore_n (lv' := [(3, .int (nI ((tlP nums (rLv len - 1) next fo (rRt (rLv len) + 1)).2))), (0, .ref a), (1, .int (nI next)), (2, .int fo)]) hx hb dX1_removeLast_27 rfl hl (by decide) rfl (fun ls hl => ?_)
        refine lv_aload_n hx hb dX1_removeLast_28 rfl (lv_at hl 1 rfl) ?_
        refine lv_dup hx hb dX1_removeLast_29 rfl ?_
        refine va_get (D := G.1) (ci := 1) (v := .int (nI len)) (C := RX1) (T := TX1) (N := 3) hx hb hts hi_X1_removeLast_RX1 hown hK hP 0 rfl rfl 2 (by decide) (hts _ hw_X1_removeLast_f33) (fun _ h9 => h9) rfl dX1_removeLast_30 ?_
        refine lv_iconst (v := nI 1) hx hb dX1_removeLast_33 rfl ?_
        refine n_isub hx hb (by omega) dX1_removeLast_34 ?_
        refine va_put (D := G.1) (ci := 1) (v := .int (nI (len - 1))) (ty := .int) (C := RX1) (T := TX1) (N := 3) hx hb hts hi_X1_removeLast_RX1 tyX1 tyX1_ok nmX1 hown hK hP hD hS 0 rfl rfl 2 (by decide) (hts _ hw_X1_removeLast_f33) (fun _ h9 => h9) rfl (by decide +kernel) rfl rfl (Nat.le_of_ble_eq_true rfl) dX1_removeLast_35 (fun H locs hP hD hS => ?_)
        have hP : va_P G.1 vwCl [(a, .inr (1, [.ref va, .ref na, .int (nI (len - 1))])), (va, .inl (xcI G, room, .inl vals)), (na, .inl (xcI G, 101, .inl ((tlP nums (rLv len - 1) next fo (rRt (rLv len) + 1)).1)))] H := hP
        have hD : va_D (fun q => q ∈ [a, va, na]) [(a, .inr (1, [.ref va, .ref na, .int (nI (len - 1))])), (va, .inl (xcI G, room, .inl vals)), (na, .inl (xcI G, 101, .inl ((tlP nums (rLv len - 1) next fo (rRt (rLv len) + 1)).1)))] := hD
        refine lv_iload_n hx hb dX1_removeLast_38 rfl (lv_at hl 0 rfl) ?_
        have eW : rmN nums len next fo = ((tlP nums (rLv len - 1) next fo (rRt (rLv len) + 1)).1, (tlP nums (rLv len - 1) next fo (rRt (rLv len) + 1)).2) := by rw [rmN, if_pos ⟨c_14, c0⟩]
        exact xend_i () hx hb hr hlk_ hS (fun _ h => h) dX1_removeLast_39 (by rw [eW]) (by rw [eW]; exact hP) (Nat.le_refl _) (Nat.le_refl _)
  · exact absurd c_4 (by omega)

theorem hw_X1_blocksFrom_f24 : Cond.fieldLink RX1 24 "TailVectors$Row" "numbers" "[I" ∈ wsX1_blocksFrom := by decide +kernel
theorem hi_X1_blocksFrom_RX1 : ∀ w ∈ u_ws RX1 TX1 3, w ∈ wsX1_blocksFrom := by decide +kernel
set_option maxHeartbeats 4000000 in
set_option maxRecDepth 100000 in
theorem c_X1_blocksFrom (l : Launch) (G : xG) (a : Nat) (va : Nat) (na : Nat) (room : Nat) (vals : Nat → Int32) (nums : Nat → Int32) (len : Nat) (b : Int32)  : Met l yX1_blocksFrom wsX1_blocksFrom ({ frames := 0, cells := 0, slots := 0, locals := 0 } : Room) (xPc G [.ref a, .int b] (fun H => va_P G.1 vwCl [(a, .inr (1, [.ref va, .ref na, .int (nI len)])), (va, .inl (xcI G, room, .inl vals)), (na, .inl (xcI G, 101, .inl nums))] H)) (k2_QcV (.int (nI (sumN (fun z => bN (b ≤ nums z)) 101)))) 0 0 (fun _ => False) := by
  refine xMet (cc := cX1_blocksFrom) (nL := 4) (ret := (some (.int))) (by decide) rfl (Nat.le_of_ble_eq_true rfl) ?_
  intro p e s m below meth c S hr hlk_ hnm hE hP ls hl
  obtain ⟨hx, hb, hml, hown, hts⟩ := id S
  have hown : s.vm.findClass RX1 = some m.cls := hown
  have hK := hE.1
  have hS : va_S (fun _ : Nat => False) s.heap s.heap [] := va_S.rf
  have hA : ∀ q, (fun _ : Nat => False) q → xB0 G ≤ q := fun _ h => h.elim
  have hP : va_P G.1 vwCl [(a, .inr (1, [.ref va, .ref na, .int (nI len)])), (va, .inl (xcI G, room, .inl vals)), (na, .inl (xcI G, 101, .inl nums))] s.heap := hP
  have hl : lv_has ls 4 [(0, .ref a), (1, .int b)] := hl
  refine lv_iconst (v := nI 0) hx hb dX1_blocksFrom_0 rfl ?_
  refine lv_istore_n (lv' := [(2, .int (nI 0)), (0, .ref a), (1, .int b)]) hx hb dX1_blocksFrom_1 rfl hl (by decide) rfl (fun ls hl => ?_)
  refine lv_iconst (v := nI 0) hx hb dX1_blocksFrom_2 rfl ?_
  refine lv_istore_n (lv' := [(3, .int (nI 0)), (2, .int (nI 0)), (0, .ref a), (1, .int b)]) hx hb dX1_blocksFrom_3 rfl hl (by decide) rfl (fun ls hl => ?_)
  have hl : lv_has ls 4 [(3, .int (nI 0)), (2, .int (nI (sumN (fun z => bN (b ≤ nums z)) 0))), (0, .ref a), (1, .int b)] := lv_sub hl [0, 1, 2, 3] rfl
  refine xloopR (σ := Nat) (C := (fun (x_ : Nat) ls => (x_ ≤ 101) ∧ lv_has ls 4 [(3, .int (nI x_)), (2, .int (nI (sumN (fun z => bN (b ≤ nums z)) x_))), (0, .ref a), (1, .int b)])) (μ := (fun (x_ : Nat) => 101 - x_)) (W' := fun ls => W p l e _ s m _ below meth c _ _ _ _ _ (F0 m 4 ls [])) ?_ 0 _ ⟨(by (try dsimp only); omega), hl⟩
  intro x_ ls hC ih_4
  obtain ⟨j, rfl⟩ : ∃ z, z = x_ := ⟨x_, rfl⟩
  obtain ⟨hj, hl⟩ := hC
  replace hj : j ≤ 101 := hj
  replace hl : lv_has ls 4 [(3, .int (nI j)), (2, .int (nI (sumN (fun z => bN (b ≤ nums z)) j))), (0, .ref a), (1, .int b)] := hl
  refine id ?_
  refine lv_iload_n hx hb dX1_blocksFrom_4 rfl (lv_at hl 0 rfl) ?_
  refine lv_bipush (v := nI 101) hx hb dX1_blocksFrom_5 (by decide) ?_
  refine n_icmp_ge (tgt := 29) hx hb (by omega) (by omega) dX1_blocksFrom_7 (by decide) (fun c_7 => ?_) (fun c_7 => ?_)
  · refine lv_iload_n hx hb dX1_blocksFrom_29 rfl (lv_at hl 1 rfl) ?_
    exact xret_i hx hb hr hlk_ dX1_blocksFrom_30 (by rw [show j = 101 by omega])
  · refine lv_aload_n hx hb dX1_blocksFrom_10 rfl (lv_at hl 2 rfl) ?_
    refine va_get (D := G.1) (ci := 1) (v := .ref na) (C := RX1) (T := TX1) (N := 3) hx hb hts hi_X1_blocksFrom_RX1 hown hK hP 0 rfl rfl 1 (by decide) (hts _ hw_X1_blocksFrom_f24) (fun _ h9 => h9) rfl dX1_blocksFrom_11 ?_
    refine lv_iload_n hx hb dX1_blocksFrom_14 rfl (lv_at hl 0 rfl) ?_
    refine i_iald hx hb hK hP 2 0 rfl rfl (by omega) (by decide) dX1_blocksFrom_15 ?_
    refine lv_iload_n hx hb dX1_blocksFrom_16 rfl (lv_at hl 3 rfl) ?_
    refine lv_icmp_lt (tgt := 23) hx hb dX1_blocksFrom_17 (by decide) (fun c_17 => ?_) (fun c_17 => ?_)
    · refine lv_iinc (v := nI (j + 1)) (lv' := [(3, .int (nI (j + 1))), (2, .int (nI (sumN (fun z => bN (b ≤ nums z)) j))), (0, .ref a), (1, .int b)]) hx hb dX1_blocksFrom_23 hl (k := 0) rfl (nI_add j 1) (by decide) rfl (fun ls hl => ?_)
      refine lv_goto (tgt := 4) hx hb dX1_blocksFrom_26 (by decide) ?_
      rw [sumB_f (Q := fun z => b ≤ nums z) (Int32.not_le.mpr c_17)] at hl
      have hl : lv_has ls 4 [(3, .int (nI (j + 1))), (2, .int (nI (sumN (fun z => bN (b ≤ nums z)) (j + 1)))), (0, .ref a), (1, .int b)] := lv_sub hl [0, 1, 2, 3] rfl
      exact ih_4 (j + 1) _ (by show 101 - (j + 1) < 101 - j; omega) ⟨(by (try dsimp only); omega), hl⟩
    · refine lv_iinc (v := nI (sumN (fun z => bN (b ≤ nums z)) j + 1)) (lv' := [(2, .int (nI (sumN (fun z => bN (b ≤ nums z)) j + 1))), (3, .int (nI j)), (0, .ref a), (1, .int b)]) hx hb dX1_blocksFrom_20 hl (k := 1) rfl (nI_add (sumN (fun z => bN (b ≤ nums z)) j) 1) (by decide) rfl (fun ls hl => ?_)
      refine lv_iinc (v := nI (j + 1)) (lv' := [(3, .int (nI (j + 1))), (2, .int (nI (sumN (fun z => bN (b ≤ nums z)) j + 1))), (0, .ref a), (1, .int b)]) hx hb dX1_blocksFrom_23 hl (k := 1) rfl (nI_add j 1) (by decide) rfl (fun ls hl => ?_)
      refine lv_goto (tgt := 4) hx hb dX1_blocksFrom_26 (by decide) ?_
      rw [sumB_t (Q := fun z => b ≤ nums z) (Int32.not_lt.mp c_17)] at hl
      have hl : lv_has ls 4 [(3, .int (nI (j + 1))), (2, .int (nI (sumN (fun z => bN (b ≤ nums z)) (j + 1)))), (0, .ref a), (1, .int b)] := lv_sub hl [0, 1, 2, 3] rfl
      exact ih_4 (j + 1) _ (by show 101 - (j + 1) < 101 - j; omega) ⟨(by (try dsimp only); omega), hl⟩

set_option maxHeartbeats 4000000 in
set_option maxRecDepth 100000 in
theorem c_X1_blocks (l : Launch) (G : xG) (a : Nat) (va : Nat) (na : Nat) (room : Nat) (vals : Nat → Int32) (nums : Nat → Int32) (len : Nat)  : Met l yX1_blocks wsX1_blocks ({ frames := 1, cells := 0, slots := 0, locals := 23 } : Room) (xPc G [.ref a] (fun H => va_P G.1 vwCl [(a, .inr (1, [.ref va, .ref na, .int (nI len)])), (va, .inl (xcI G, room, .inl vals)), (na, .inl (xcI G, 101, .inl nums))] H)) (k2_QcV (.int (nI (sumN (fun z => bN (nI 0 ≤ nums z)) 101)))) 0 0 (fun _ => False) := by
  refine xMet (cc := cX1_blocks) (nL := 1) (ret := (some (.int))) (by decide) rfl (Nat.le_of_ble_eq_true rfl) ?_
  intro p e s m below meth c S hr hlk_ hnm hE hP ls hl
  obtain ⟨hx, hb, hml, hown, hts⟩ := id S
  have hown : s.vm.findClass RX1 = some m.cls := hown
  have hK := hE.1
  have hS : va_S (fun _ : Nat => False) s.heap s.heap [] := va_S.rf
  have hA : ∀ q, (fun _ : Nat => False) q → xB0 G ≤ q := fun _ h => h.elim
  have hP : va_P G.1 vwCl [(a, .inr (1, [.ref va, .ref na, .int (nI len)])), (va, .inl (xcI G, room, .inl vals)), (na, .inl (xcI G, 101, .inl nums))] s.heap := hP
  have hl : lv_has ls 1 [(0, .ref a)] := hl
  refine lv_aload_n hx hb dX1_blocks_0 rfl (lv_at hl 0 rfl) ?_
  refine lv_iconst (v := nI 0) hx hb dX1_blocks_1 rfl ?_
  refine xrd (xrunV (As := [.int (nI 0)]) (rest := []) S (c_X1_blocksFrom l G a va na room vals nums len (nI 0) ) (cwV 1 hts gX1_blocks_X1_blocksFrom rfl rfl rfl (by decide +kernel) ⟨Nat.le_of_ble_eq_true rfl, Nat.le_of_ble_eq_true rfl⟩) hE hS hA 0 1 hP rfl rfl rfl hP rfl rfl hl.1 (Nat.le_of_ble_eq_true rfl) dX1_blocks_2 ⟨Nat.le_of_ble_eq_true rfl, Nat.le_of_ble_eq_true rfl⟩) ?_
  exact xret_i hx hb hr hlk_ dX1_blocks_5 rfl

theorem hw_X1_has_f24 : Cond.fieldLink RX1 24 "TailVectors$Row" "numbers" "[I" ∈ wsX1_has := by decide +kernel
theorem hi_X1_has_RX1 : ∀ w ∈ u_ws RX1 TX1 3, w ∈ wsX1_has := by decide +kernel
set_option maxHeartbeats 4000000 in
set_option maxRecDepth 100000 in
theorem c_X1_has (l : Launch) (G : xG) (a : Nat) (va : Nat) (na : Nat) (room : Nat) (vals : Nat → Int32) (nums : Nat → Int32) (len : Nat) (j : Nat) (x : Int32) (hj : j < 101) : Met l yX1_has wsX1_has ({ frames := 0, cells := 0, slots := 0, locals := 0 } : Room) (xPc G [.ref a, .int (nI j), .int x] (fun H => va_P G.1 vwCl [(a, .inr (1, [.ref va, .ref na, .int (nI len)])), (va, .inl (xcI G, room, .inl vals)), (na, .inl (xcI G, 101, .inl nums))] H)) (k2_QcV (.int (bI (0 ≤ x ∧ nums j = x)))) 0 0 (fun _ => False) := by
  refine xMet (cc := cX1_has) (nL := 3) (ret := (some (.boolean))) (by decide) rfl (Nat.le_of_ble_eq_true rfl) ?_
  intro p e s m below meth c S hr hlk_ hnm hE hP ls hl
  obtain ⟨hx, hb, hml, hown, hts⟩ := id S
  have hown : s.vm.findClass RX1 = some m.cls := hown
  have hK := hE.1
  have hS : va_S (fun _ : Nat => False) s.heap s.heap [] := va_S.rf
  have hA : ∀ q, (fun _ : Nat => False) q → xB0 G ≤ q := fun _ h => h.elim
  have hP : va_P G.1 vwCl [(a, .inr (1, [.ref va, .ref na, .int (nI len)])), (va, .inl (xcI G, room, .inl vals)), (na, .inl (xcI G, 101, .inl nums))] s.heap := hP
  have hl : lv_has ls 3 [(0, .ref a), (1, .int (nI j)), (2, .int x)] := hl
  refine lv_iload_n hx hb dX1_has_0 rfl (lv_at hl 1 rfl) ?_
  refine n_if_lt (tgt := 28) hx hb (by omega) dX1_has_1 (by decide) (fun c_1 => ?_) (fun c_1 => ?_)
  · exact absurd c_1 (by omega)
  · refine lv_iload_n hx hb dX1_has_4 rfl (lv_at hl 1 rfl) ?_
    refine lv_bipush (v := nI 101) hx hb dX1_has_5 (by decide) ?_
    refine n_icmp_ge (tgt := 28) hx hb (by omega) (by omega) dX1_has_7 (by decide) (fun c_7 => ?_) (fun c_7 => ?_)
    · exact absurd c_7 (by omega)
    · refine lv_iload_n hx hb dX1_has_10 rfl (lv_at hl 2 rfl) ?_
      refine lv_if_lt (tgt := 28) hx hb dX1_has_11 (by decide) (fun c_11 => ?_) (fun c_11 => ?_)
      · refine lv_iconst (v := nI 0) hx hb dX1_has_28 rfl ?_
        exact xret_z hx hb hr hlk_ dX1_has_29 (by first | exact Or.inl rfl | exact Or.inr rfl) (xb0 (fun z => le_ge32 c_11 z.1))
      · refine lv_aload_n hx hb dX1_has_14 rfl (lv_at hl 0 rfl) ?_
        refine va_get (D := G.1) (ci := 1) (v := .ref na) (C := RX1) (T := TX1) (N := 3) hx hb hts hi_X1_has_RX1 hown hK hP 0 rfl rfl 1 (by decide) (hts _ hw_X1_has_f24) (fun _ h9 => h9) rfl dX1_has_15 ?_
        refine lv_iload_n hx hb dX1_has_18 rfl (lv_at hl 1 rfl) ?_
        refine i_iald hx hb hK hP 2 0 rfl rfl (by omega) (by decide) dX1_has_19 ?_
        refine lv_iload_n hx hb dX1_has_20 rfl (lv_at hl 2 rfl) ?_
        refine lv_icmp_ne (tgt := 28) hx hb dX1_has_21 (by decide) (fun c_21 => ?_) (fun c_21 => ?_)
        · refine lv_iconst (v := nI 0) hx hb dX1_has_28 rfl ?_
          exact xret_z hx hb hr hlk_ dX1_has_29 (by first | exact Or.inl rfl | exact Or.inr rfl) (xb0 (fun z => c_21 z.2))
        · refine lv_iconst (v := nI 1) hx hb dX1_has_24 rfl ?_
          refine lv_goto (tgt := 29) hx hb dX1_has_25 (by decide) ?_
          exact xret_z hx hb hr hlk_ dX1_has_29 (by first | exact Or.inl rfl | exact Or.inr rfl) (xb1 ⟨Int32.not_lt.mp c_11, c_21⟩)

theorem hw_X1_sharedWith_f24 : Cond.fieldLink RX1 24 "TailVectors$Row" "numbers" "[I" ∈ wsX1_sharedWith := by decide +kernel
theorem hi_X1_sharedWith_RX1 : ∀ w ∈ u_ws RX1 TX1 3, w ∈ wsX1_sharedWith := by decide +kernel
set_option maxHeartbeats 4000000 in
set_option maxRecDepth 100000 in
theorem c_X1_sharedWith (l : Launch) (G : xG) (a : Nat) (va : Nat) (na : Nat) (room : Nat) (vals : Nat → Int32) (nums : Nat → Int32) (len : Nat) (a2 : Nat) (va2 : Nat) (na2 : Nat) (room2 : Nat) (vals2 : Nat → Int32) (nums2 : Nat → Int32) (len2 : Nat)  : Met l yX1_sharedWith wsX1_sharedWith ({ frames := 1, cells := 0, slots := 0, locals := 22 } : Room) (xPc G [.ref a, .ref a2] (fun H => va_P G.1 vwCl [(a, .inr (1, [.ref va, .ref na, .int (nI len)])), (va, .inl (xcI G, room, .inl vals)), (na, .inl (xcI G, 101, .inl nums)), (a2, .inr (1, [.ref va2, .ref na2, .int (nI len2)])), (va2, .inl (xcI G, room2, .inl vals2)), (na2, .inl (xcI G, 101, .inl nums2))] H)) (k2_QcV (.int (nI (sumN (fun z => bN (0 ≤ nums z ∧ nums2 z = nums z)) 101)))) 0 0 (fun _ => False) := by
  refine xMet (cc := cX1_sharedWith) (nL := 4) (ret := (some (.int))) (by decide) rfl (Nat.le_of_ble_eq_true rfl) ?_
  intro p e s m below meth c S hr hlk_ hnm hE hP ls hl
  obtain ⟨hx, hb, hml, hown, hts⟩ := id S
  have hown : s.vm.findClass RX1 = some m.cls := hown
  have hK := hE.1
  have hS : va_S (fun _ : Nat => False) s.heap s.heap [] := va_S.rf
  have hA : ∀ q, (fun _ : Nat => False) q → xB0 G ≤ q := fun _ h => h.elim
  have hP : va_P G.1 vwCl [(a, .inr (1, [.ref va, .ref na, .int (nI len)])), (va, .inl (xcI G, room, .inl vals)), (na, .inl (xcI G, 101, .inl nums)), (a2, .inr (1, [.ref va2, .ref na2, .int (nI len2)])), (va2, .inl (xcI G, room2, .inl vals2)), (na2, .inl (xcI G, 101, .inl nums2))] s.heap := hP
  have hl : lv_has ls 4 [(0, .ref a), (1, .ref a2)] := hl
  refine lv_iconst (v := nI 0) hx hb dX1_sharedWith_0 rfl ?_
  refine lv_istore_n (lv' := [(2, .int (nI 0)), (0, .ref a), (1, .ref a2)]) hx hb dX1_sharedWith_1 rfl hl (by decide) rfl (fun ls hl => ?_)
  refine lv_iconst (v := nI 0) hx hb dX1_sharedWith_2 rfl ?_
  refine lv_istore_n (lv' := [(3, .int (nI 0)), (2, .int (nI 0)), (0, .ref a), (1, .ref a2)]) hx hb dX1_sharedWith_3 rfl hl (by decide) rfl (fun ls hl => ?_)
  have hl : lv_has ls 4 [(3, .int (nI 0)), (2, .int (nI (sumN (fun z => bN (0 ≤ nums z ∧ nums2 z = nums z)) 0))), (0, .ref a), (1, .ref a2)] := lv_sub hl [0, 1, 2, 3] rfl
  refine xloopR (σ := Nat) (C := (fun (x_ : Nat) ls => (x_ ≤ 101) ∧ lv_has ls 4 [(3, .int (nI x_)), (2, .int (nI (sumN (fun z => bN (0 ≤ nums z ∧ nums2 z = nums z)) x_))), (0, .ref a), (1, .ref a2)])) (μ := (fun (x_ : Nat) => 101 - x_)) (W' := fun ls => W p l e _ s m _ below meth c _ _ _ _ _ (F0 m 4 ls [])) ?_ 0 _ ⟨(by (try dsimp only); omega), hl⟩
  intro x_ ls hC ih_4
  obtain ⟨j, rfl⟩ : ∃ z, z = x_ := ⟨x_, rfl⟩
  obtain ⟨hj, hl⟩ := hC
  replace hj : j ≤ 101 := hj
  replace hl : lv_has ls 4 [(3, .int (nI j)), (2, .int (nI (sumN (fun z => bN (0 ≤ nums z ∧ nums2 z = nums z)) j))), (0, .ref a), (1, .ref a2)] := hl
  refine id ?_
  refine lv_iload_n hx hb dX1_sharedWith_4 rfl (lv_at hl 0 rfl) ?_
  refine lv_bipush (v := nI 101) hx hb dX1_sharedWith_5 (by decide) ?_
  refine n_icmp_ge (tgt := 33) hx hb (by omega) (by omega) dX1_sharedWith_7 (by decide) (fun c_7 => ?_) (fun c_7 => ?_)
  · refine lv_iload_n hx hb dX1_sharedWith_33 rfl (lv_at hl 1 rfl) ?_
    exact xret_i hx hb hr hlk_ dX1_sharedWith_34 (by rw [show j = 101 by omega])
  · refine lv_aload_n hx hb dX1_sharedWith_10 rfl (lv_at hl 3 rfl) ?_
    refine lv_iload_n hx hb dX1_sharedWith_11 rfl (lv_at hl 0 rfl) ?_
    refine lv_aload_n hx hb dX1_sharedWith_12 rfl (lv_at hl 2 rfl) ?_
    refine va_get (D := G.1) (ci := 1) (v := .ref na) (C := RX1) (T := TX1) (N := 3) hx hb hts hi_X1_sharedWith_RX1 hown hK hP 0 rfl rfl 1 (by decide) (hts _ hw_X1_sharedWith_f24) (fun _ h9 => h9) rfl dX1_sharedWith_13 ?_
    refine lv_iload_n hx hb dX1_sharedWith_16 rfl (lv_at hl 0 rfl) ?_
    refine i_iald hx hb hK hP 2 0 rfl rfl (by omega) (by decide) dX1_sharedWith_17 ?_
    refine xrd (xrunV (As := [.int (nI j), .int (nums j)]) (rest := []) S (c_X1_has l G a2 va2 na2 room2 vals2 nums2 len2 j (nums j) (by omega)) (cwV 2 hts gX1_sharedWith_X1_has rfl rfl rfl (by decide +kernel) ⟨Nat.le_of_ble_eq_true rfl, Nat.le_of_ble_eq_true rfl⟩) hE hS hA 3 1 hP rfl rfl rfl (hP.sub [3, 4, 5] rfl) rfl rfl hl.1 (Nat.le_of_ble_eq_true rfl) dX1_sharedWith_18 ⟨Nat.le_of_ble_eq_true rfl, Nat.le_of_ble_eq_true rfl⟩) ?_
    refine b_if_eq (tgt := 27) hx hb dX1_sharedWith_21 (by decide) (fun c_21 => ?_) (fun c_21 => ?_)
    · refine lv_iinc (v := nI (j + 1)) (lv' := [(3, .int (nI (j + 1))), (2, .int (nI (sumN (fun z => bN (0 ≤ nums z ∧ nums2 z = nums z)) j))), (0, .ref a), (1, .ref a2)]) hx hb dX1_sharedWith_27 hl (k := 0) rfl (nI_add j 1) (by decide) rfl (fun ls hl => ?_)
      refine lv_goto (tgt := 4) hx hb dX1_sharedWith_30 (by decide) ?_
      rw [sumB_f (Q := fun z => 0 ≤ nums z ∧ nums2 z = nums z) c_21] at hl
      have hl : lv_has ls 4 [(3, .int (nI (j + 1))), (2, .int (nI (sumN (fun z => bN (0 ≤ nums z ∧ nums2 z = nums z)) (j + 1)))), (0, .ref a), (1, .ref a2)] := lv_sub hl [0, 1, 2, 3] rfl
      exact ih_4 (j + 1) _ (by show 101 - (j + 1) < 101 - j; omega) ⟨(by (try dsimp only); omega), hl⟩
    · refine lv_iinc (v := nI (sumN (fun z => bN (0 ≤ nums z ∧ nums2 z = nums z)) j + 1)) (lv' := [(2, .int (nI (sumN (fun z => bN (0 ≤ nums z ∧ nums2 z = nums z)) j + 1))), (3, .int (nI j)), (0, .ref a), (1, .ref a2)]) hx hb dX1_sharedWith_24 hl (k := 1) rfl (nI_add (sumN (fun z => bN (0 ≤ nums z ∧ nums2 z = nums z)) j) 1) (by decide) rfl (fun ls hl => ?_)
      refine lv_iinc (v := nI (j + 1)) (lv' := [(3, .int (nI (j + 1))), (2, .int (nI (sumN (fun z => bN (0 ≤ nums z ∧ nums2 z = nums z)) j + 1))), (0, .ref a), (1, .ref a2)]) hx hb dX1_sharedWith_27 hl (k := 1) rfl (nI_add j 1) (by decide) rfl (fun ls hl => ?_)
      refine lv_goto (tgt := 4) hx hb dX1_sharedWith_30 (by decide) ?_
      rw [sumB_t (Q := fun z => 0 ≤ nums z ∧ nums2 z = nums z) c_21] at hl
      have hl : lv_has ls 4 [(3, .int (nI (j + 1))), (2, .int (nI (sumN (fun z => bN (0 ≤ nums z ∧ nums2 z = nums z)) (j + 1)))), (0, .ref a), (1, .ref a2)] := lv_sub hl [0, 1, 2, 3] rfl
      exact ih_4 (j + 1) _ (by show 101 - (j + 1) < 101 - j; omega) ⟨(by (try dsimp only); omega), hl⟩
