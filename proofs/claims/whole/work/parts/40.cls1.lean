theorem le_ge32 {a b : Int32} (h : a < b) : ¬ b ≤ a := Int32.not_le.mpr h
def cRI (n : Nat) : Int32 := if n = 0 then -5 else nI (rRt n)
def cRX (x : Int32) : Int32 := if x ≤ 0 then -5 else nI (rRt x.toNatClampNeg)
theorem cRX_n {n : Nat} (h : n < 2 ^ 31) : cRX (nI n) = cRI n := by
  unfold cRX cRI
  by_cases h0 : n = 0
  · subst h0; rw [if_pos rfl, if_pos (by decide)]
  · rw [if_neg h0, if_neg (nI_nle (by omega) h), nI_clamp h]
theorem rRt_end {n k : Nat} (h1 : 1 ≤ k) (h2 : k ≤ rRt n) (h3 : 4 ≤ k ∨ n ≤ 4 ^ k) (hn : n ≤ 256) : k = rRt n := by
  rcases h3 with h | h
  · have := rRt_le n; omega
  · exact rRt_pow hn h1 h2 h
theorem lvN_w {k l : Nat} (hk : k ≤ 4) (hl : l ≤ 73) : l / 4 ^ k < lvN (k + 1) - lvN k := by
  rcases (show k = 0 ∨ k = 1 ∨ k = 2 ∨ k = 3 ∨ k = 4 by omega) with rfl | rfl | rfl | rfl | rfl <;> simp [lvN] <;> omega
theorem lvN_le (k : Nat) : lvN k ≤ 101 := by unfold lvN; split <;> omega
theorem lvN_mono {k : Nat} (hk : k ≤ 4) : lvN k ≤ lvN (k + 1) := by
  rcases (show k = 0 ∨ k = 1 ∨ k = 2 ∨ k = 3 ∨ k = 4 by omega) with rfl | rfl | rfl | rfl | rfl <;> simp [lvN]
theorem lvN_b {k l : Nat} (hk : k ≤ 4) (hl : l ≤ 73) : lvN k + l / 4 ^ k < 101 := by
  rcases (show k = 0 ∨ k = 1 ∨ k = 2 ∨ k = 3 ∨ k = 4 by omega) with rfl | rfl | rfl | rfl | rfl <;> simp [lvN] <;> omega
theorem pow2_4 (k : Nat) : 2 ^ (2 * k) = 4 ^ k := Nat.pow_mul 2 2 k
def slI (a b : Int32) : Int32 := if a < 0 ∨ nI 4 < a ∨ b < 0 then -1 else if b < nI (lvN (a.toNatClampNeg + 1)) - nI (lvN a.toNatClampNeg) then nI (lvN a.toNatClampNeg) + b else -1
def nuI (nums : Nat → Int32) (a b : Int32) : Int32 := if slI a b < 0 then -5 else nums (slI a b).toNatClampNeg

set_option maxHeartbeats 4000000 in
set_option maxRecDepth 100000 in
theorem c_X5_isValue (l : Launch) (G : xG) (x : Int32)  : Met l yX5_isValue wsX5_isValue ({ frames := 0, cells := 0, slots := 0, locals := 0 } : Room) (xPc G [.int x] (fun _ => True)) (k2_QcV (.int (bI (rVl x)))) 0 0 (fun _ => False) := by
  refine xMet (cc := cX5_isValue) (nL := 1) (ret := (some (.boolean))) (by decide) rfl (Nat.le_of_ble_eq_true rfl) ?_
  intro p e s m below meth c S hr hlk_ hnm hE hP ls hl
  obtain ⟨hx, hb, hml, hown, hts⟩ := id S
  have hown : s.vm.findClass RX5 = some m.cls := hown
  have hK := hE.1
  have hS : va_S (fun _ : Nat => False) s.heap s.heap [] := va_S.rf
  have hA : ∀ q, (fun _ : Nat => False) q → xB0 G ≤ q := fun _ h => h.elim
  have hl : lv_has ls 1 [(0, .int x)] := hl
  refine lv_iload_n hx hb dX5_isValue_0 rfl (lv_at hl 0 rfl) ?_
  refine lv_if_lt (tgt := 15) hx hb dX5_isValue_1 (by decide) (fun c_1 => ?_) (fun c_1 => ?_)
  · refine lv_iconst (v := nI 0) hx hb dX5_isValue_15 rfl ?_
    exact xret_z hx hb hr hlk_ dX5_isValue_16 (by first | exact Or.inl rfl | exact Or.inr rfl) (xb0 (fun z => le_ge32 c_1 z.1))
  · refine lv_iload_n hx hb dX5_isValue_4 rfl (lv_at hl 0 rfl) ?_
    refine lv_sipush (v := nI 999) hx hb dX5_isValue_5 (by decide) ?_
    refine lv_icmp_gt (tgt := 15) hx hb dX5_isValue_8 (by decide) (fun c_8 => ?_) (fun c_8 => ?_)
    · refine lv_iconst (v := nI 0) hx hb dX5_isValue_15 rfl ?_
      exact xret_z hx hb hr hlk_ dX5_isValue_16 (by first | exact Or.inl rfl | exact Or.inr rfl) (xb0 (fun z => le_ge32 c_8 z.2))
    · refine lv_iconst (v := nI 1) hx hb dX5_isValue_11 rfl ?_
      refine lv_goto (tgt := 16) hx hb dX5_isValue_12 (by decide) ?_
      exact xret_z hx hb hr hlk_ dX5_isValue_16 (by first | exact Or.inl rfl | exact Or.inr rfl) (xb1 ⟨Int32.not_lt.mp c_1, Int32.not_lt.mp c_8⟩)

set_option maxHeartbeats 4000000 in
set_option maxRecDepth 100000 in
theorem c_X5_rootLevel (l : Launch) (G : xG) (x : Int32) (hx256 : x ≤ nI 256) : Met l yX5_rootLevel wsX5_rootLevel ({ frames := 0, cells := 0, slots := 0, locals := 0 } : Room) (xPc G [.int x] (fun _ => True)) (k2_QcV (.int (cRX x))) 0 0 (fun _ => False) := by
  refine xMet (cc := cX5_rootLevel) (nL := 2) (ret := (some (.int))) (by decide) rfl (Nat.le_of_ble_eq_true rfl) ?_
  intro p e s m below meth c S hr hlk_ hnm hE hP ls hl
  obtain ⟨hx, hb, hml, hown, hts⟩ := id S
  have hown : s.vm.findClass RX5 = some m.cls := hown
  have hK := hE.1
  have hS : va_S (fun _ : Nat => False) s.heap s.heap [] := va_S.rf
  have hA : ∀ q, (fun _ : Nat => False) q → xB0 G ≤ q := fun _ h => h.elim
  have hl : lv_has ls 2 [(0, .int x)] := hl
  refine lv_iload_n hx hb dX5_rootLevel_0 rfl (lv_at hl 0 rfl) ?_
  refine lv_if_gt (tgt := 7) hx hb dX5_rootLevel_1 (by decide) (fun c_1 => ?_) (fun c_1 => ?_)
  · have c_1b := c_1
    obtain ⟨n, hn31, rfl⟩ := nI_of (show ¬ x < 0 from fun z => absurd (Int32.lt_trans c_1 z) (by decide))
    have hn256 : n ≤ 256 := (nI_leI hn31 (by decide)).mp hx256
    refine lv_iconst (v := nI 1) hx hb dX5_rootLevel_7 rfl ?_
    refine lv_istore_n (lv' := [(1, .int (nI 1)), (0, .int (nI n))]) hx hb dX5_rootLevel_8 rfl hl (by decide) rfl (fun ls hl => ?_)
    have hl : lv_has ls 2 [(1, .int (nI 1)), (0, .int (nI n))] := lv_sub hl [0, 1] rfl
    refine xloopR (σ := Nat) (C := (fun (x_ : Nat) ls => (1 ≤ x_) ∧ (x_ ≤ rRt n) ∧ lv_has ls 2 [(1, .int (nI x_)), (0, .int (nI n))])) (μ := (fun (x_ : Nat) => 5 - x_)) (W' := fun ls => W p l e _ s m _ below meth c _ _ _ _ _ (F0 m 9 ls [])) ?_ 1 _ ⟨(by omega), (rRt_ge n), hl⟩
    intro x_ ls hC ih_9
    obtain ⟨k, rfl⟩ : ∃ z, z = x_ := ⟨x_, rfl⟩
    obtain ⟨hk1, hk2, hl⟩ := hC
    replace hk1 : 1 ≤ k := hk1
    replace hk2 : k ≤ rRt n := hk2
    replace hl : lv_has ls 2 [(1, .int (nI k)), (0, .int (nI n))] := hl
    refine id ?_
    have hr4 := rRt_le n
    refine lv_iload_n hx hb dX5_rootLevel_9 rfl (lv_at hl 0 rfl) ?_
    refine lv_iconst (v := nI 4) hx hb dX5_rootLevel_10 rfl ?_
    refine n_icmp_ge (tgt := 29) hx hb (by omega) (by omega) dX5_rootLevel_11 (by decide) (fun c_11 => ?_) (fun c_11 => ?_)
    · refine lv_iload_n hx hb dX5_rootLevel_29 rfl (lv_at hl 0 rfl) ?_
      exact xret_i hx hb hr hlk_ dX5_rootLevel_30 (by rw [cRX, if_neg (fun z => absurd (Int32.lt_of_lt_of_le c_1b z) (by decide)), nI_clamp hn31, ← rRt_end hk1 hk2 (Or.inl c_11) hn256])
    · refine lv_iconst (v := nI 1) hx hb dX5_rootLevel_14 rfl ?_
      refine lv_iconst (v := nI 2) hx hb dX5_rootLevel_15 rfl ?_
      refine lv_iload_n hx hb dX5_rootLevel_16 rfl (lv_at hl 0 rfl) ?_
      refine n_imul hx hb dX5_rootLevel_17 ?_
      refine n_ishl hx hb (by omega) (xpow_lt2 (by omega)) dX5_rootLevel_18 ?_
      refine n_top (y := nI (4 ^ k)) (by rw [xpow]) ?_
      refine lv_iload_n hx hb dX5_rootLevel_19 rfl (lv_at hl 1 rfl) ?_
      refine n_icmp_ge (tgt := 29) hx hb (by have := xpow_lt (k := k) (by omega); omega) (by omega) dX5_rootLevel_20 (by decide) (fun c_20 => ?_) (fun c_20 => ?_)
      · refine lv_iload_n hx hb dX5_rootLevel_29 rfl (lv_at hl 0 rfl) ?_
        exact xret_i hx hb hr hlk_ dX5_rootLevel_30 (by rw [cRX, if_neg (fun z => absurd (Int32.lt_of_lt_of_le c_1b z) (by decide)), nI_clamp hn31, ← rRt_end hk1 hk2 (Or.inr c_20) hn256])
      · refine lv_iinc (v := nI (k + 1)) (lv' := [(1, .int (nI (k + 1))), (0, .int (nI n))]) hx hb dX5_rootLevel_23 hl (k := 0) rfl (nI_add k 1) (by decide) rfl (fun ls hl => ?_)
        refine lv_goto (tgt := 9) hx hb dX5_rootLevel_26 (by decide) ?_
        have hl : lv_has ls 2 [(1, .int (nI (k + 1))), (0, .int (nI n))] := lv_sub hl [0, 1] rfl
        exact ih_9 (k + 1) _ (by show 5 - (k + 1) < 5 - k; omega) ⟨(by omega), (rRt_step (by omega) hk1 hk2 c_20), hl⟩
  · refine lv_bipush (v := (-5)) hx hb dX5_rootLevel_4 (by decide) ?_
    exact xret_i hx hb hr hlk_ dX5_rootLevel_6 (by rw [cRX, if_pos (Int32.not_lt.mp c_1)])

theorem c_X5_rootLevel_n (l : Launch) (G : xG) (n : Nat) (hn : n ≤ 256) : Met l yX5_rootLevel wsX5_rootLevel ({ frames := 0, cells := 0, slots := 0, locals := 0 } : Room) (xPc G [.int (nI n)] (fun _ => True)) (k2_QcV (.int (cRI n))) 0 0 (fun _ => False) := by
  have h := c_X5_rootLevel l G (nI n) (nI_le hn (by decide))
  rwa [cRX_n (by omega)] at h
set_option maxHeartbeats 4000000 in
set_option maxRecDepth 100000 in
theorem c_X1_slotOf (l : Launch) (G : xG) (a : Int32) (b : Int32)  : Met l yX1_slotOf wsX1_slotOf ({ frames := 0, cells := 0, slots := 0, locals := 0 } : Room) (xPc G [.int a, .int b] (fun _ => True)) (k2_QcV (.int (slI a b))) 0 0 (fun _ => False) := by
  refine xMet (cc := cX1_slotOf) (nL := 3) (ret := (some (.int))) (by decide) rfl (Nat.le_of_ble_eq_true rfl) ?_
  intro p e s m below meth c S hr hlk_ hnm hE hP ls hl
  obtain ⟨hx, hb, hml, hown, hts⟩ := id S
  have hown : s.vm.findClass RX1 = some m.cls := hown
  have hK := hE.1
  have hS : va_S (fun _ : Nat => False) s.heap s.heap [] := va_S.rf
  have hA : ∀ q, (fun _ : Nat => False) q → xB0 G ≤ q := fun _ h => h.elim
  have hl : lv_has ls 3 [(0, .int a), (1, .int b)] := hl
  refine lv_iload_n hx hb dX1_slotOf_0 rfl (lv_at hl 0 rfl) ?_
  refine lv_if_lt (tgt := 13) hx hb dX1_slotOf_1 (by decide) (fun c_1 => ?_) (fun c_1 => ?_)
  · refine lv_iconst (v := (-1)) hx hb dX1_slotOf_13 rfl ?_
    exact xret_i hx hb hr hlk_ dX1_slotOf_14 (by rw [slI, if_pos (Or.inl c_1)])
  · refine lv_iload_n hx hb dX1_slotOf_4 rfl (lv_at hl 0 rfl) ?_
    refine lv_iconst (v := nI 4) hx hb dX1_slotOf_5 rfl ?_
    refine lv_icmp_gt (tgt := 13) hx hb dX1_slotOf_6 (by decide) (fun c_6 => ?_) (fun c_6 => ?_)
    · refine lv_iconst (v := (-1)) hx hb dX1_slotOf_13 rfl ?_
      exact xret_i hx hb hr hlk_ dX1_slotOf_14 (by rw [slI, if_pos (Or.inr (Or.inl c_6))])
    · refine lv_iload_n hx hb dX1_slotOf_9 rfl (lv_at hl 1 rfl) ?_
      refine lv_if_ge (tgt := 15) hx hb dX1_slotOf_10 (by decide) (fun c_10 => ?_) (fun c_10 => ?_)
      · obtain ⟨k, hk31, rfl⟩ := nI_of c_1
        have hk4 : k ≤ 4 := Nat.not_lt.mp (fun z => c_6 ((nI_ltI (by decide) hk31).mpr z))
        refine va_getsN (C := "TailVectors") (n := "LEVEL_STARTS") (d := "[I") (ref := "TailVectors") (host := "TailVectors") hx hb hE.2.1 va_S.rf hown (va_Nw.use rfl hE.2.2.2.2.1.1) (fun _ h9 => h9) dX1_slotOf_15 ?_
        refine lv_iload_n hx hb dX1_slotOf_18 rfl (lv_at hl 0 rfl) ?_
        refine va_ti (v := .int (nI (lvN k))) hx hb hE.2.2.1 va_S.rf (vp_in_nI (by omega) (by decide)) (by rw [nI_clamp (by omega)]; rfl) dX1_slotOf_19 ?_
        refine lv_istore_n (lv' := [(2, .int (nI (lvN k))), (0, .int (nI k)), (1, .int b)]) hx hb dX1_slotOf_20 rfl hl (by decide) rfl (fun ls hl => ?_)
        refine lv_iload_n hx hb dX1_slotOf_21 rfl (lv_at hl 2 rfl) ?_
        refine va_getsN (C := "TailVectors") (n := "LEVEL_STARTS") (d := "[I") (ref := "TailVectors") (host := "TailVectors") hx hb hE.2.1 va_S.rf hown (va_Nw.use rfl hE.2.2.2.2.1.1) (fun _ h9 => h9) dX1_slotOf_22 ?_
        refine lv_iload_n hx hb dX1_slotOf_25 rfl (lv_at hl 1 rfl) ?_
        refine lv_iconst (v := nI 1) hx hb dX1_slotOf_26 rfl ?_
        refine n_iadd hx hb dX1_slotOf_27 ?_
        refine va_ti (v := .int (nI (lvN (k + 1)))) hx hb hE.2.2.1 va_S.rf (vp_in_nI (by omega) (by decide)) (by rw [nI_clamp (by omega)]; rfl) dX1_slotOf_28 ?_
        refine lv_iload_n hx hb dX1_slotOf_29 rfl (lv_at hl 0 rfl) ?_
        refine lv_isub hx hb dX1_slotOf_30 ?_
        refine lv_icmp_ge (tgt := 40) hx hb dX1_slotOf_31 (by decide) (fun c_31 => ?_) (fun c_31 => ?_)
        · refine lv_iconst (v := (-1)) hx hb dX1_slotOf_40 rfl ?_
          exact xret_i hx hb hr hlk_ dX1_slotOf_41 (by rw [slI, if_neg (fun z => z.elim (fun y => absurd y c_1) (fun z => z.elim (fun y => absurd y (by rw [nI_ltI (by decide) (by omega)]; omega)) (fun y => le_ge32 y c_10))), nI_clamp (by omega), if_neg (Int32.not_lt.mpr c_31)])
        · refine lv_iload_n hx hb dX1_slotOf_34 rfl (lv_at hl 0 rfl) ?_
          refine lv_iload_n hx hb dX1_slotOf_35 rfl (lv_at hl 2 rfl) ?_
          refine lv_iadd hx hb dX1_slotOf_36 ?_
          refine lv_goto (tgt := 41) hx hb dX1_slotOf_37 (by decide) ?_
          exact xret_i hx hb hr hlk_ dX1_slotOf_41 (by rw [slI, if_neg (fun z => z.elim (fun y => absurd y c_1) (fun z => z.elim (fun y => absurd y (by rw [nI_ltI (by decide) (by omega)]; omega)) (fun y => le_ge32 y c_10))), nI_clamp (by omega), if_pos (Int32.not_le.mp c_31)])
      · refine lv_iconst (v := (-1)) hx hb dX1_slotOf_13 rfl ?_
        exact xret_i hx hb hr hlk_ dX1_slotOf_14 (by rw [slI, if_pos (Or.inr (Or.inr (Int32.not_le.mp c_10)))])

theorem slI_n {k q : Nat} (hk : k ≤ 4) (hq : q < lvN (k + 1) - lvN k) : slI (nI k) (nI q) = nI (lvN k + q) := by
  have h1 := lvN_le (k + 1)
  have h2 := lvN_le k
  rw [slI, if_neg, nI_clamp (by omega), if_pos, nI_add]
  · rw [nI_sub (by omega), nI_ltI (by omega) (by omega)]; exact hq
  · rintro (z | z | z)
    · exact nI_pos (by omega) z
    · rw [nI_ltI (by decide) (by omega)] at z; omega
    · exact nI_pos (by omega) z
theorem slI_lt {a b : Int32} {j : Nat} (h : slI a b = nI j) (hj : j < 2 ^ 31) : j < 101 := by
  unfold slI at h
  split at h
  · have := congrArg Int32.toInt h; rw [nI_toInt hj] at this; have e : (-1 : Int32).toInt = -1 := rfl; omega
  · rename_i h1
    have h2 : ¬ b < 0 := fun z => h1 (Or.inr (Or.inr z))
    obtain ⟨q, hq, rfl⟩ := nI_of h2
    split at h
    · rename_i h3
      have h4 := lvN_le (a.toNatClampNeg + 1)
      have h5 := lvN_le a.toNatClampNeg
      rw [nI_add] at h
      rw [Int32.lt_iff_toInt_lt, nI_toInt hq, pk_sub_toInt (by omega) (by omega)] at h3
      have := (nI_eq (by omega) hj).mp h
      omega
    · have := congrArg Int32.toInt h; rw [nI_toInt hj] at this; have e : (-1 : Int32).toInt = -1 := rfl; omega
theorem c_X1_slotOf_n (l : Launch) (G : xG) (k q : Nat) (hk4 : k ≤ 4) (hq : q < lvN (k + 1) - lvN k) : Met l yX1_slotOf wsX1_slotOf ({ frames := 0, cells := 0, slots := 0, locals := 0 } : Room) (xPc G [.int (nI k), .int (nI q)] (fun _ => True)) (k2_QcV (.int (nI (lvN k + q)))) 0 0 (fun _ => False) := by
  have h := c_X1_slotOf l G (nI k) (nI q)
  rwa [slI_n hk4 hq] at h
theorem hw_X1_leaves_f33 : Cond.fieldLink RX1 33 "TailVectors$Row" "length" "I" ∈ wsX1_leaves := by decide +kernel
theorem hi_X1_leaves_RX1 : ∀ w ∈ u_ws RX1 TX1 3, w ∈ wsX1_leaves := by decide +kernel
set_option maxHeartbeats 4000000 in
set_option maxRecDepth 100000 in
theorem c_X1_leaves (l : Launch) (G : xG) (a : Nat) (va : Nat) (na : Nat) (room : Nat) (vals : Nat → Int32) (nums : Nat → Int32) (len : Nat) (hl3 : len ≤ 300) : Met l yX1_leaves wsX1_leaves ({ frames := 0, cells := 0, slots := 0, locals := 0 } : Room) (xPc G [.ref a] (fun H => va_P G.1 vwCl [(a, .inr (1, [.ref va, .ref na, .int (nI len)])), (va, .inl (xcI G, room, .inl vals)), (na, .inl (xcI G, 101, .inl nums))] H)) (k2_QcV (.int (nI (rLv len)))) 0 0 (fun _ => False) := by
  refine xMet (cc := cX1_leaves) (nL := 1) (ret := (some (.int))) (by decide) rfl (Nat.le_of_ble_eq_true rfl) ?_
  intro p e s m below meth c S hr hlk_ hnm hE hP ls hl
  obtain ⟨hx, hb, hml, hown, hts⟩ := id S
  have hown : s.vm.findClass RX1 = some m.cls := hown
  have hK := hE.1
  have hS : va_S (fun _ : Nat => False) s.heap s.heap [] := va_S.rf
  have hA : ∀ q, (fun _ : Nat => False) q → xB0 G ≤ q := fun _ h => h.elim
  have hP : va_P G.1 vwCl [(a, .inr (1, [.ref va, .ref na, .int (nI len)])), (va, .inl (xcI G, room, .inl vals)), (na, .inl (xcI G, 101, .inl nums))] s.heap := hP
  have hl : lv_has ls 1 [(0, .ref a)] := hl
  refine lv_aload_n hx hb dX1_leaves_0 rfl (lv_at hl 0 rfl) ?_
  refine va_get (D := G.1) (ci := 1) (v := .int (nI len)) (C := RX1) (T := TX1) (N := 3) hx hb hts hi_X1_leaves_RX1 hown hK hP 0 rfl rfl 2 (by decide) (hts _ hw_X1_leaves_f33) (fun _ h9 => h9) rfl dX1_leaves_1 ?_
  refine n_if_ne (tgt := 11) hx hb (by omega) dX1_leaves_4 (by decide) (fun c_4 => ?_) (fun c_4 => ?_)
  · refine lv_aload_n hx hb dX1_leaves_11 rfl (lv_at hl 0 rfl) ?_
    refine va_get (D := G.1) (ci := 1) (v := .int (nI len)) (C := RX1) (T := TX1) (N := 3) hx hb hts hi_X1_leaves_RX1 hown hK hP 0 rfl rfl 2 (by decide) (hts _ hw_X1_leaves_f33) (fun _ h9 => h9) rfl dX1_leaves_12 ?_
    refine lv_iconst (v := nI 1) hx hb dX1_leaves_15 rfl ?_
    refine n_isub hx hb (by omega) dX1_leaves_16 ?_
    refine lv_iconst (v := nI 4) hx hb dX1_leaves_17 rfl ?_
    refine n_idiv hx hb (by omega) (by omega) (by omega) dX1_leaves_18 ?_
    exact xret_i hx hb hr hlk_ dX1_leaves_19 (by rw [rLv, if_neg c_4])
  · refine lv_iconst (v := nI 0) hx hb dX1_leaves_7 rfl ?_
    refine lv_goto (tgt := 19) hx hb dX1_leaves_8 (by decide) ?_
    exact xret_i hx hb hr hlk_ dX1_leaves_19 (by rw [rLv, if_pos c_4])

theorem hw_X1_tail_f33 : Cond.fieldLink RX1 33 "TailVectors$Row" "length" "I" ∈ wsX1_tail := by decide +kernel
theorem hi_X1_tail_RX1 : ∀ w ∈ u_ws RX1 TX1 3, w ∈ wsX1_tail := by decide +kernel
set_option maxHeartbeats 4000000 in
set_option maxRecDepth 100000 in
theorem c_X1_tail (l : Launch) (G : xG) (a : Nat) (va : Nat) (na : Nat) (room : Nat) (vals : Nat → Int32) (nums : Nat → Int32) (len : Nat) (hl3 : len ≤ 300) : Met l yX1_tail wsX1_tail ({ frames := 1, cells := 0, slots := 0, locals := 20 } : Room) (xPc G [.ref a] (fun H => va_P G.1 vwCl [(a, .inr (1, [.ref va, .ref na, .int (nI len)])), (va, .inl (xcI G, room, .inl vals)), (na, .inl (xcI G, 101, .inl nums))] H)) (k2_QcV (.int (nI (len - rLv len * 4)))) 0 0 (fun _ => False) := by
  refine xMet (cc := cX1_tail) (nL := 1) (ret := (some (.int))) (by decide) rfl (Nat.le_of_ble_eq_true rfl) ?_
  intro p e s m below meth c S hr hlk_ hnm hE hP ls hl
  obtain ⟨hx, hb, hml, hown, hts⟩ := id S
  have hown : s.vm.findClass RX1 = some m.cls := hown
  have hK := hE.1
  have hS : va_S (fun _ : Nat => False) s.heap s.heap [] := va_S.rf
  have hA : ∀ q, (fun _ : Nat => False) q → xB0 G ≤ q := fun _ h => h.elim
  have hP : va_P G.1 vwCl [(a, .inr (1, [.ref va, .ref na, .int (nI len)])), (va, .inl (xcI G, room, .inl vals)), (na, .inl (xcI G, 101, .inl nums))] s.heap := hP
  have hl : lv_has ls 1 [(0, .ref a)] := hl
  refine lv_aload_n hx hb dX1_tail_0 rfl (lv_at hl 0 rfl) ?_
  refine va_get (D := G.1) (ci := 1) (v := .int (nI len)) (C := RX1) (T := TX1) (N := 3) hx hb hts hi_X1_tail_RX1 hown hK hP 0 rfl rfl 2 (by decide) (hts _ hw_X1_tail_f33) (fun _ h9 => h9) rfl dX1_tail_1 ?_
  refine lv_aload_n hx hb dX1_tail_4 rfl (lv_at hl 0 rfl) ?_
  refine xrd (xrunV (As := []) (rest := [.int (nI len)]) S (c_X1_leaves l G a va na room vals nums len hl3) (cwV 0 hts gX1_tail_X1_leaves rfl rfl rfl (by decide +kernel) ⟨Nat.le_of_ble_eq_true rfl, Nat.le_of_ble_eq_true rfl⟩) hE hS hA 0 1 hP rfl rfl rfl hP rfl rfl hl.1 (Nat.le_of_ble_eq_true rfl) dX1_tail_5 ⟨Nat.le_of_ble_eq_true rfl, Nat.le_of_ble_eq_true rfl⟩) ?_
  refine lv_iconst (v := nI 4) hx hb dX1_tail_8 rfl ?_
  refine n_imul hx hb dX1_tail_9 ?_
  refine n_isub hx hb (by unfold rLv; split <;> omega) dX1_tail_10 ?_
  exact xret_i hx hb hr hlk_ dX1_tail_11 rfl

theorem hw_X1_numberAt_f24 : Cond.fieldLink RX1 24 "TailVectors$Row" "numbers" "[I" ∈ wsX1_numberAt := by decide +kernel
theorem hi_X1_numberAt_RX1 : ∀ w ∈ u_ws RX1 TX1 3, w ∈ wsX1_numberAt := by decide +kernel
set_option maxHeartbeats 4000000 in
set_option maxRecDepth 100000 in
theorem c_X1_numberAt (l : Launch) (G : xG) (a : Nat) (va : Nat) (na : Nat) (room : Nat) (vals : Nat → Int32) (nums : Nat → Int32) (len : Nat) (b : Int32) (d : Int32)  : Met l yX1_numberAt wsX1_numberAt ({ frames := 1, cells := 0, slots := 0, locals := 22 } : Room) (xPc G [.ref a, .int b, .int d] (fun H => va_P G.1 vwCl [(a, .inr (1, [.ref va, .ref na, .int (nI len)])), (va, .inl (xcI G, room, .inl vals)), (na, .inl (xcI G, 101, .inl nums))] H)) (k2_QcV (.int (nuI nums b d))) 0 0 (fun _ => False) := by
  refine xMet (cc := cX1_numberAt) (nL := 4) (ret := (some (.int))) (by decide) rfl (Nat.le_of_ble_eq_true rfl) ?_
  intro p e s m below meth c S hr hlk_ hnm hE hP ls hl
  obtain ⟨hx, hb, hml, hown, hts⟩ := id S
  have hown : s.vm.findClass RX1 = some m.cls := hown
  have hK := hE.1
  have hS : va_S (fun _ : Nat => False) s.heap s.heap [] := va_S.rf
  have hA : ∀ q, (fun _ : Nat => False) q → xB0 G ≤ q := fun _ h => h.elim
  have hP : va_P G.1 vwCl [(a, .inr (1, [.ref va, .ref na, .int (nI len)])), (va, .inl (xcI G, room, .inl vals)), (na, .inl (xcI G, 101, .inl nums))] s.heap := hP
  have hl : lv_has ls 4 [(0, .ref a), (1, .int b), (2, .int d)] := hl
  refine lv_iload_n hx hb dX1_numberAt_0 rfl (lv_at hl 1 rfl) ?_
  refine lv_iload_n hx hb dX1_numberAt_1 rfl (lv_at hl 2 rfl) ?_
  refine xrd (xrunS (As := [.int b, .int d]) (rest := []) S (c_X1_slotOf l G b d ) (va_cwS 2 hts gX1_numberAt_X1_slotOf rfl rfl rfl (by decide +kernel) ⟨Nat.le_of_ble_eq_true rfl, Nat.le_of_ble_eq_true rfl⟩) hE hS hA trivial rfl rfl hl.1 (Nat.le_of_ble_eq_true rfl) dX1_numberAt_2 ⟨Nat.le_of_ble_eq_true rfl, Nat.le_of_ble_eq_true rfl⟩) ?_
  refine lv_istore_n (lv' := [(3, .int (slI b d)), (0, .ref a), (1, .int b), (2, .int d)]) hx hb dX1_numberAt_5 rfl hl (by decide) rfl (fun ls hl => ?_)
  refine lv_iload_n hx hb dX1_numberAt_6 rfl (lv_at hl 0 rfl) ?_
  refine lv_if_ge (tgt := 15) hx hb dX1_numberAt_7 (by decide) (fun c_7 => ?_) (fun c_7 => ?_)
  · obtain ⟨j, hj31, hj⟩ := nI_of (Int32.not_lt.mpr c_7)
    have hj101 := slI_lt hj hj31
    rw [hj] at hl
    refine lv_aload_n hx hb dX1_numberAt_15 rfl (lv_at hl 1 rfl) ?_
    refine va_get (D := G.1) (ci := 1) (v := .ref na) (C := RX1) (T := TX1) (N := 3) hx hb hts hi_X1_numberAt_RX1 hown hK hP 0 rfl rfl 1 (by decide) (hts _ hw_X1_numberAt_f24) (fun _ h9 => h9) rfl dX1_numberAt_16 ?_
    refine lv_iload_n hx hb dX1_numberAt_19 rfl (lv_at hl 0 rfl) ?_
    refine i_iald hx hb hK hP 2 0 rfl rfl (by omega) (by decide) dX1_numberAt_20 ?_
    exact xret_i hx hb hr hlk_ dX1_numberAt_21 (by rw [nuI, if_neg (fun z => le_ge32 z c_7), hj, nI_clamp (by omega)])
  · refine lv_bipush (v := (-5)) hx hb dX1_numberAt_10 (by decide) ?_
    refine lv_goto (tgt := 21) hx hb dX1_numberAt_12 (by decide) ?_
    exact xret_i hx hb hr hlk_ dX1_numberAt_21 (by rw [nuI, if_pos (Int32.not_le.mp c_7)])

def mbN (nums : Nat → Int32) (j num : Nat) (fo : Int32) : Nat → Int32 := if fo ≤ nums j then nums else upd nums j (nI num)
def mbC (nums : Nat → Int32) (j : Nat) (fo : Int32) : Nat := if fo ≤ nums j then 0 else 1
def mpP (nums : Nat → Int32) (leaf next : Nat) (fo : Int32) : Nat → (Nat → Int32) × Nat
  | 0 => (nums, 0)
  | k + 1 => (mbN (mpP nums leaf next fo k).1 (lvN k + leaf / 4 ^ k) (next + (mpP nums leaf next fo k).2) fo, (mpP nums leaf next fo k).2 + mbC (mpP nums leaf next fo k).1 (lvN k + leaf / 4 ^ k) fo)
theorem cRI_pos {n : Nat} (h : n ≠ 0) : cRI n = nI (rRt n) := if_neg h
def wrN (nums : Nat → Int32) (len q next : Nat) (fo : Int32) : (Nat → Int32) × Nat :=
  if q = len then (if len - rLv len * 4 = 4 then mpP nums (rLv len) next fo (rRt (rLv len + 1) + 1) else (nums, 0))
  else if q / 4 < rLv len then mpP nums (q / 4) next fo (rRt (rLv len) + 1) else (nums, 0)
def tlP (nums : Nat → Int32) (last next : Nat) (fo : Int32) : Nat → (Nat → Int32) × Nat
  | 0 => (nums, 0)
  | k + 1 => if (last = 0 ∨ rRt last < k) ∨ last % 4 ^ k = 0 then (upd (tlP nums last next fo k).1 (lvN k + last / 4 ^ k) (-5), (tlP nums last next fo k).2)
    else (mbN (tlP nums last next fo k).1 (lvN k + last / 4 ^ k) (next + (tlP nums last next fo k).2) fo, (tlP nums last next fo k).2 + mbC (tlP nums last next fo k).1 (lvN k + last / 4 ^ k) fo)
def rmN (nums : Nat → Int32) (len next : Nat) (fo : Int32) : (Nat → Int32) × Nat := if len - rLv len * 4 = 1 ∧ rLv len ≠ 0 then tlP nums (rLv len - 1) next fo (rRt (rLv len) + 1) else (nums, 0)
theorem nI_and_mask {l k : Nat} (hl : l < 2 ^ 31) (hk : k ≤ 4) : nI l &&& nI (1 * 2 ^ (2 * k) - 1) = nI (l % 4 ^ k) := by
  rw [Nat.one_mul, ← pow2_4 k]
  refine pk_andN (by omega) (2 * k) ?_
  rw [pk_tn]
  rcases (show k = 0 ∨ k = 1 ∨ k = 2 ∨ k = 3 ∨ k = 4 by omega) with rfl | rfl | rfl | rfl | rfl <;> decide

theorem hw_X1_makeBlock_f24 : Cond.fieldLink RX1 24 "TailVectors$Row" "numbers" "[I" ∈ wsX1_makeBlock := by decide +kernel
theorem hi_X1_makeBlock_RX1 : ∀ w ∈ u_ws RX1 TX1 3, w ∈ wsX1_makeBlock := by decide +kernel
set_option maxHeartbeats 4000000 in
set_option maxRecDepth 100000 in
theorem c_X1_makeBlock (l : Launch) (G : xG) (a : Nat) (va : Nat) (na : Nat) (room : Nat) (vals : Nat → Int32) (nums : Nat → Int32) (len : Nat) (j : Nat) (num : Nat) (fo : Int32) (hdis : xDis (xB0 G) [a, va, na]) (hj : j < 101) : Met l yX1_makeBlock wsX1_makeBlock ({ frames := 0, cells := 0, slots := 0, locals := 0 } : Room) (xPc G [.ref a, .int (nI j), .int (nI num), .int fo] (fun H => va_P G.1 vwCl [(a, .inr (1, [.ref va, .ref na, .int (nI len)])), (va, .inl (xcI G, room, .inl vals)), (na, .inl (xcI G, 101, .inl nums))] H)) (xQ (σ := Unit) (fun _ => some (.int (nI (mbC nums j fo)))) (fun _ H => va_P G.1 vwCl [(a, .inr (1, [.ref va, .ref na, .int (nI len)])), (va, .inl (xcI G, room, .inl vals)), (na, .inl (xcI G, 101, .inl (mbN nums j num fo)))] H) (fun q => q ∈ [a, va, na])) 0 0 (fun q => q ∈ [a, va, na]) := by
  refine xMet (cc := cX1_makeBlock) (nL := 4) (ret := (some (.int))) (by decide) rfl (Nat.le_of_ble_eq_true rfl) ?_
  intro p e s m below meth c S hr hlk_ hnm hE hP ls hl
  obtain ⟨hx, hb, hml, hown, hts⟩ := id S
  have hown : s.vm.findClass RX1 = some m.cls := hown
  have hK := hE.1
  have hS : va_S (fun q => q ∈ [a, va, na]) s.heap s.heap [] := va_S.rf
  have hA : ∀ q, (fun q => q ∈ [a, va, na]) q → xB0 G ≤ q := hdis.2
  have hP : va_P G.1 vwCl [(a, .inr (1, [.ref va, .ref na, .int (nI len)])), (va, .inl (xcI G, room, .inl vals)), (na, .inl (xcI G, 101, .inl nums))] s.heap := hP
  have hD : va_D (fun q => q ∈ [a, va, na]) [(a, .inr (1, [.ref va, .ref na, .int (nI len)])), (va, .inl (xcI G, room, .inl vals)), (na, .inl (xcI G, 101, .inl nums))] := (hdis.to rfl)
  have hl : lv_has ls 4 [(0, .ref a), (1, .int (nI j)), (2, .int (nI num)), (3, .int fo)] := hl
  refine lv_iload_n hx hb dX1_makeBlock_0 rfl (lv_at hl 1 rfl) ?_
  refine n_if_lt (tgt := 20) hx hb (by omega) dX1_makeBlock_1 (by decide) (fun c_1 => ?_) (fun c_1 => ?_)
  · exact absurd c_1 (by omega)
  · refine lv_iload_n hx hb dX1_makeBlock_4 rfl (lv_at hl 1 rfl) ?_
    refine lv_bipush (v := nI 101) hx hb dX1_makeBlock_5 (by decide) ?_
    refine n_icmp_ge (tgt := 20) hx hb (by omega) (by omega) dX1_makeBlock_7 (by decide) (fun c_7 => ?_) (fun c_7 => ?_)
    · exact absurd c_7 (by omega)
    · refine lv_aload_n hx hb dX1_makeBlock_10 rfl (lv_at hl 0 rfl) ?_
      refine va_get (D := G.1) (ci := 1) (v := .ref na) (C := RX1) (T := TX1) (N := 3) hx hb hts hi_X1_makeBlock_RX1 hown hK hP 0 rfl rfl 1 (by decide) (hts _ hw_X1_makeBlock_f24) (fun _ h9 => h9) rfl dX1_makeBlock_11 ?_
      refine lv_iload_n hx hb dX1_makeBlock_14 rfl (lv_at hl 1 rfl) ?_
      refine i_iald hx hb hK hP 2 0 rfl rfl (by omega) (by decide) dX1_makeBlock_15 ?_
      refine lv_iload_n hx hb dX1_makeBlock_16 rfl (lv_at hl 3 rfl) ?_
      refine lv_icmp_lt (tgt := 22) hx hb dX1_makeBlock_17 (by decide) (fun c_17 => ?_) (fun c_17 => ?_)
      · have c_17 := Int32.not_le.mpr c_17
        refine lv_aload_n hx hb dX1_makeBlock_22 rfl (lv_at hl 0 rfl) ?_
        refine va_get (D := G.1) (ci := 1) (v := .ref na) (C := RX1) (T := TX1) (N := 3) hx hb hts hi_X1_makeBlock_RX1 hown hK hP 0 rfl rfl 1 (by decide) (hts _ hw_X1_makeBlock_f24) (fun _ h9 => h9) rfl dX1_makeBlock_23 ?_
        refine lv_iload_n hx hb dX1_makeBlock_26 rfl (lv_at hl 1 rfl) ?_
        refine lv_iload_n hx hb dX1_makeBlock_27 rfl (lv_at hl 2 rfl) ?_
        refine i_iast hx hb hK hP hD hS 2 0 rfl rfl (by omega) (by decide) dX1_makeBlock_28 (fun H locs hP hD hS => ?_)
        have hP : va_P G.1 vwCl [(a, .inr (1, [.ref va, .ref na, .int (nI len)])), (va, .inl (xcI G, room, .inl vals)), (na, .inl (xcI G, 101, .inl (upd nums j (nI num))))] H := hP
        have hD : va_D (fun q => q ∈ [a, va, na]) [(a, .inr (1, [.ref va, .ref na, .int (nI len)])), (va, .inl (xcI G, room, .inl vals)), (na, .inl (xcI G, 101, .inl (upd nums j (nI num))))] := hD
        refine lv_iconst (v := nI 1) hx hb dX1_makeBlock_29 rfl ?_
        exact xend_i () hx hb hr hlk_ hS (fun _ h => h) dX1_makeBlock_30 (by rw [mbC, if_neg c_17]) (by rw [mbN, if_neg c_17]; exact hP) (Nat.le_refl _) (Nat.le_refl _)
      · have c_17 := Int32.not_lt.mp c_17
        refine lv_iconst (v := nI 0) hx hb dX1_makeBlock_20 rfl ?_
        exact xend_i () hx hb hr hlk_ hS (fun _ h => h) dX1_makeBlock_21 (by rw [mbC, if_pos c_17]) (by rw [mbN, if_pos c_17]; exact hP) (Nat.le_refl _) (Nat.le_refl _)

theorem hw_X1_removeBlock_f24 : Cond.fieldLink RX1 24 "TailVectors$Row" "numbers" "[I" ∈ wsX1_removeBlock := by decide +kernel
theorem hi_X1_removeBlock_RX1 : ∀ w ∈ u_ws RX1 TX1 3, w ∈ wsX1_removeBlock := by decide +kernel
set_option maxHeartbeats 4000000 in
set_option maxRecDepth 100000 in
theorem c_X1_removeBlock (l : Launch) (G : xG) (a : Nat) (va : Nat) (na : Nat) (room : Nat) (vals : Nat → Int32) (nums : Nat → Int32) (len : Nat) (j : Nat) (hdis : xDis (xB0 G) [a, va, na]) (hj : j < 101) : Met l yX1_removeBlock wsX1_removeBlock ({ frames := 0, cells := 0, slots := 0, locals := 0 } : Room) (xPc G [.ref a, .int (nI j)] (fun H => va_P G.1 vwCl [(a, .inr (1, [.ref va, .ref na, .int (nI len)])), (va, .inl (xcI G, room, .inl vals)), (na, .inl (xcI G, 101, .inl nums))] H)) (xQ (σ := Unit) (fun _ => none) (fun _ H => va_P G.1 vwCl [(a, .inr (1, [.ref va, .ref na, .int (nI len)])), (va, .inl (xcI G, room, .inl vals)), (na, .inl (xcI G, 101, .inl (upd nums j (-5))))] H) (fun q => q ∈ [a, va, na])) 0 0 (fun q => q ∈ [a, va, na]) := by
  refine xMet (cc := cX1_removeBlock) (nL := 2) (ret := none) (by decide) rfl (Nat.le_of_ble_eq_true rfl) ?_
  intro p e s m below meth c S hr hlk_ hnm hE hP ls hl
  obtain ⟨hx, hb, hml, hown, hts⟩ := id S
  have hown : s.vm.findClass RX1 = some m.cls := hown
  have hK := hE.1
  have hS : va_S (fun q => q ∈ [a, va, na]) s.heap s.heap [] := va_S.rf
  have hA : ∀ q, (fun q => q ∈ [a, va, na]) q → xB0 G ≤ q := hdis.2
  have hP : va_P G.1 vwCl [(a, .inr (1, [.ref va, .ref na, .int (nI len)])), (va, .inl (xcI G, room, .inl vals)), (na, .inl (xcI G, 101, .inl nums))] s.heap := hP
  have hD : va_D (fun q => q ∈ [a, va, na]) [(a, .inr (1, [.ref va, .ref na, .int (nI len)])), (va, .inl (xcI G, room, .inl vals)), (na, .inl (xcI G, 101, .inl nums))] := (hdis.to rfl)
  have hl : lv_has ls 2 [(0, .ref a), (1, .int (nI j))] := hl
  refine lv_iload_n hx hb dX1_removeBlock_0 rfl (lv_at hl 1 rfl) ?_
  refine n_if_lt (tgt := 18) hx hb (by omega) dX1_removeBlock_1 (by decide) (fun c_1 => ?_) (fun c_1 => ?_)
  · exact absurd c_1 (by omega)
  · refine lv_iload_n hx hb dX1_removeBlock_4 rfl (lv_at hl 1 rfl) ?_
    refine lv_bipush (v := nI 101) hx hb dX1_removeBlock_5 (by decide) ?_
    refine n_icmp_ge (tgt := 18) hx hb (by omega) (by omega) dX1_removeBlock_7 (by decide) (fun c_7 => ?_) (fun c_7 => ?_)
    · exact absurd c_7 (by omega)
    · refine lv_aload_n hx hb dX1_removeBlock_10 rfl (lv_at hl 0 rfl) ?_
      refine va_get (D := G.1) (ci := 1) (v := .ref na) (C := RX1) (T := TX1) (N := 3) hx hb hts hi_X1_removeBlock_RX1 hown hK hP 0 rfl rfl 1 (by decide) (hts _ hw_X1_removeBlock_f24) (fun _ h9 => h9) rfl dX1_removeBlock_11 ?_
      refine lv_iload_n hx hb dX1_removeBlock_14 rfl (lv_at hl 1 rfl) ?_
      refine lv_bipush (v := (-5)) hx hb dX1_removeBlock_15 (by decide) ?_
      refine i_iast hx hb hK hP hD hS 2 0 rfl rfl (by omega) (by decide) dX1_removeBlock_17 (fun H locs hP hD hS => ?_)
      have hP : va_P G.1 vwCl [(a, .inr (1, [.ref va, .ref na, .int (nI len)])), (va, .inl (xcI G, room, .inl vals)), (na, .inl (xcI G, 101, .inl (upd nums j (-5))))] H := hP
      have hD : va_D (fun q => q ∈ [a, va, na]) [(a, .inr (1, [.ref va, .ref na, .int (nI len)])), (va, .inl (xcI G, room, .inl vals)), (na, .inl (xcI G, 101, .inl (upd nums j (-5))))] := hD
      exact xend_v () hx hb hr hlk_ hS (fun _ h => h) dX1_removeBlock_18 rfl hP (Nat.le_refl _) (Nat.le_refl _)

set_option maxHeartbeats 4000000 in
set_option maxRecDepth 100000 in
theorem c_X1_isFirstLeafOfBlock (l : Launch) (G : xG) (n : Nat) (k : Nat) (hn : n < 2 ^ 24) (hk4 : k ≤ 4) : Met l yX1_isFirstLeafOfBlock wsX1_isFirstLeafOfBlock ({ frames := 0, cells := 0, slots := 0, locals := 0 } : Room) (xPc G [.int (nI n), .int (nI k)] (fun _ => True)) (k2_QcV (.int (bI (n % 4 ^ k = 0)))) 0 0 (fun _ => False) := by
  refine xMet (cc := cX1_isFirstLeafOfBlock) (nL := 2) (ret := (some (.boolean))) (by decide) rfl (Nat.le_of_ble_eq_true rfl) ?_
  intro p e s m below meth c S hr hlk_ hnm hE hP ls hl
  obtain ⟨hx, hb, hml, hown, hts⟩ := id S
  have hown : s.vm.findClass RX1 = some m.cls := hown
  have hK := hE.1
  have hS : va_S (fun _ : Nat => False) s.heap s.heap [] := va_S.rf
  have hA : ∀ q, (fun _ : Nat => False) q → xB0 G ≤ q := fun _ h => h.elim
  have hl : lv_has ls 2 [(0, .int (nI n)), (1, .int (nI k))] := hl
  refine lv_iload_n hx hb dX1_isFirstLeafOfBlock_0 rfl (lv_at hl 0 rfl) ?_
  refine lv_iconst (v := nI 1) hx hb dX1_isFirstLeafOfBlock_1 rfl ?_
  refine lv_iconst (v := nI 2) hx hb dX1_isFirstLeafOfBlock_2 rfl ?_
  refine lv_iload_n hx hb dX1_isFirstLeafOfBlock_3 rfl (lv_at hl 1 rfl) ?_
  refine n_imul hx hb dX1_isFirstLeafOfBlock_4 ?_
  refine n_ishl hx hb (by omega) (xpow_lt2 (by omega)) dX1_isFirstLeafOfBlock_5 ?_
  refine lv_iconst (v := nI 1) hx hb dX1_isFirstLeafOfBlock_6 rfl ?_
  refine n_isub hx hb (by rw [Nat.one_mul]; exact Nat.pow_pos (by decide)) dX1_isFirstLeafOfBlock_7 ?_
  refine lv_iand hx hb dX1_isFirstLeafOfBlock_8 ?_
  refine n_top (y := nI (n % 4 ^ k)) (nI_and_mask (by omega) hk4) ?_
  refine n_if_ne (tgt := 16) hx hb (Nat.lt_of_le_of_lt (Nat.mod_le _ _) (by omega)) dX1_isFirstLeafOfBlock_9 (by decide) (fun c_9 => ?_) (fun c_9 => ?_)
  · refine lv_iconst (v := nI 0) hx hb dX1_isFirstLeafOfBlock_16 rfl ?_
    exact xret_z hx hb hr hlk_ dX1_isFirstLeafOfBlock_17 (by first | exact Or.inl rfl | exact Or.inr rfl) (xb0 (by omega))
  · refine lv_iconst (v := nI 1) hx hb dX1_isFirstLeafOfBlock_12 rfl ?_
    refine lv_goto (tgt := 17) hx hb dX1_isFirstLeafOfBlock_13 (by decide) ?_
    exact xret_z hx hb hr hlk_ dX1_isFirstLeafOfBlock_17 (by first | exact Or.inl rfl | exact Or.inr rfl) (xb1 (by omega))

set_option maxHeartbeats 4000000 in
set_option maxRecDepth 100000 in
theorem c_X1_makePath (l : Launch) (G : xG) (a : Nat) (va : Nat) (na : Nat) (room : Nat) (vals : Nat → Int32) (nums : Nat → Int32) (len : Nat) (leaf : Nat) (root : Nat) (next : Nat) (fo : Int32) (hdis : xDis (xB0 G) [a, va, na]) (hleaf : leaf ≤ 73) (hroot : root ≤ 4) : Met l yX1_makePath wsX1_makePath ({ frames := 1, cells := 0, slots := 0, locals := 23 } : Room) (xPc G [.ref a, .int (nI leaf), .int (nI root), .int (nI next), .int fo] (fun H => va_P G.1 vwCl [(a, .inr (1, [.ref va, .ref na, .int (nI len)])), (va, .inl (xcI G, room, .inl vals)), (na, .inl (xcI G, 101, .inl nums))] H)) (xQ (σ := Unit) (fun _ => some (.int (nI ((mpP nums leaf next fo (root + 1)).2)))) (fun _ H => va_P G.1 vwCl [(a, .inr (1, [.ref va, .ref na, .int (nI len)])), (va, .inl (xcI G, room, .inl vals)), (na, .inl (xcI G, 101, .inl ((mpP nums leaf next fo (root + 1)).1)))] H) (fun q => q ∈ [a, va, na])) 0 0 (fun q => q ∈ [a, va, na]) := by
  refine xMet (cc := cX1_makePath) (nL := 7) (ret := (some (.int))) (by decide) rfl (Nat.le_of_ble_eq_true rfl) ?_
  intro p e s m below meth c S hr hlk_ hnm hE hP ls hl
  obtain ⟨hx, hb, hml, hown, hts⟩ := id S
  have hown : s.vm.findClass RX1 = some m.cls := hown
  have hK := hE.1
  have hS : va_S (fun q => q ∈ [a, va, na]) s.heap s.heap [] := va_S.rf
  have hA : ∀ q, (fun q => q ∈ [a, va, na]) q → xB0 G ≤ q := hdis.2
  have hP : va_P G.1 vwCl [(a, .inr (1, [.ref va, .ref na, .int (nI len)])), (va, .inl (xcI G, room, .inl vals)), (na, .inl (xcI G, 101, .inl nums))] s.heap := hP
  have hD : va_D (fun q => q ∈ [a, va, na]) [(a, .inr (1, [.ref va, .ref na, .int (nI len)])), (va, .inl (xcI G, room, .inl vals)), (na, .inl (xcI G, 101, .inl nums))] := (hdis.to rfl)
  have hl : lv_has ls 7 [(0, .ref a), (1, .int (nI leaf)), (2, .int (nI root)), (3, .int (nI next)), (4, .int fo)] := hl
  refine lv_iconst (v := nI 0) hx hb dX1_makePath_0 rfl ?_
  refine lv_istore (lv' := [(5, .int (nI 0)), (0, .ref a), (1, .int (nI leaf)), (2, .int (nI root)), (3, .int (nI next)), (4, .int fo)]) hx hb dX1_makePath_1 hl (by decide) rfl (fun ls hl => ?_)
  refine lv_iconst (v := nI 0) hx hb dX1_makePath_3 rfl ?_
  refine lv_istore (lv' := [(6, .int (nI 0)), (5, .int (nI 0)), (0, .ref a), (1, .int (nI leaf)), (2, .int (nI root)), (3, .int (nI next)), (4, .int fo)]) hx hb dX1_makePath_4 hl (by decide) rfl (fun ls hl => ?_)
  have hP : va_P G.1 vwCl [(a, .inr (1, [.ref va, .ref na, .int (nI len)])), (va, .inl (xcI G, room, .inl vals)), (na, .inl (xcI G, 101, .inl ((mpP nums leaf next fo 0).1)))] s.heap := hP
  have hl : lv_has ls 7 [(6, .int (nI 0)), (5, .int (nI ((mpP nums leaf next fo 0).2))), (0, .ref a), (1, .int (nI leaf)), (2, .int (nI root)), (3, .int (nI next)), (4, .int fo)] := lv_sub hl [0, 1, 2, 3, 4, 5, 6] rfl
  refine xloop (σ := Nat) (C := (fun (x_ : Nat) H locs ls => (x_ ≤ root + 1) ∧ va_P G.1 vwCl [(a, .inr (1, [.ref va, .ref na, .int (nI len)])), (va, .inl (xcI G, room, .inl vals)), (na, .inl (xcI G, 101, .inl ((mpP nums leaf next fo x_).1)))] H ∧ va_S (fun q => q ∈ [a, va, na]) s.heap H locs ∧ lv_has ls 7 [(6, .int (nI x_)), (5, .int (nI ((mpP nums leaf next fo x_).2))), (0, .ref a), (1, .int (nI leaf)), (2, .int (nI root)), (3, .int (nI next)), (4, .int fo)])) (μ := (fun (x_ : Nat) => root + 1 - x_)) (W' := fun H locs ls => W p l e _ s m _ below meth c H locs _ _ _ (F0 m 6 ls [])) ?_ 0 _ _ _ ⟨(Nat.zero_le _), hP, hS, hl⟩
  intro x_ H locs ls hC ih_6
  obtain ⟨k, rfl⟩ : ∃ z, z = x_ := ⟨x_, rfl⟩
  obtain ⟨hkr, hP, hS, hl⟩ := hC
  replace hkr : k ≤ root + 1 := hkr
  replace hP : va_P G.1 vwCl [(a, .inr (1, [.ref va, .ref na, .int (nI len)])), (va, .inl (xcI G, room, .inl vals)), (na, .inl (xcI G, 101, .inl ((mpP nums leaf next fo k).1)))] H := hP
  have hD : va_D (fun q => q ∈ [a, va, na]) [(a, .inr (1, [.ref va, .ref na, .int (nI len)])), (va, .inl (xcI G, room, .inl vals)), (na, .inl (xcI G, 101, .inl ((mpP nums leaf next fo k).1)))] := (hdis.to rfl)
  replace hl : lv_has ls 7 [(6, .int (nI k)), (5, .int (nI ((mpP nums leaf next fo k).2))), (0, .ref a), (1, .int (nI leaf)), (2, .int (nI root)), (3, .int (nI next)), (4, .int fo)] := hl
  refine id ?_
  refine lv_iload hx hb dX1_makePath_6 (lv_at hl 0 rfl) ?_
  refine lv_iload_n hx hb dX1_makePath_8 rfl (lv_at hl 4 rfl) ?_
  refine n_icmp_gt (tgt := 44) hx hb (by omega) (by omega) dX1_makePath_9 (by decide) (fun c_9 => ?_) (fun c_9 => ?_)
  · refine lv_iload hx hb dX1_makePath_44 (lv_at hl 1 rfl) ?_
    have hk9 : k = root + 1 := by omega
    subst hk9
    exact xend_i () hx hb hr hlk_ hS (fun _ h => h) dX1_makePath_46 rfl hP (Nat.le_refl _) (Nat.le_refl _)
  · refine lv_iload hx hb dX1_makePath_12 (lv_at hl 1 rfl) ?_
    refine lv_aload_n hx hb dX1_makePath_14 rfl (lv_at hl 2 rfl) ?_
    refine lv_iload hx hb dX1_makePath_15 (lv_at hl 0 rfl) ?_
    refine lv_iload_n hx hb dX1_makePath_17 rfl (lv_at hl 3 rfl) ?_
    refine lv_iconst (v := nI 2) hx hb dX1_makePath_18 rfl ?_
    refine lv_iload hx hb dX1_makePath_19 (lv_at hl 0 rfl) ?_
    refine n_imul hx hb dX1_makePath_21 ?_
    refine n_ishr hx hb (by omega) (by omega) dX1_makePath_22 ?_
    refine n_top (y := nI (leaf / 4 ^ k)) (by rw [pow2_4]) ?_
    refine xrd (xrunS (As := [.int (nI k), .int (nI (leaf / 4 ^ k))]) (rest := [.ref a, .int (nI ((mpP nums leaf next fo k).2))]) S (c_X1_slotOf_n l G k (leaf / 4 ^ k) (by omega) (lvN_w (by omega) hleaf)) (va_cwS 2 hts gX1_makePath_X1_slotOf rfl rfl rfl (by decide +kernel) ⟨Nat.le_of_ble_eq_true rfl, Nat.le_of_ble_eq_true rfl⟩) hE hS hA trivial rfl rfl hl.1 (Nat.le_of_ble_eq_true rfl) dX1_makePath_23 ⟨Nat.le_of_ble_eq_true rfl, Nat.le_of_ble_eq_true rfl⟩) ?_
    refine lv_iload_n hx hb dX1_makePath_26 rfl (lv_at hl 5 rfl) ?_
    refine lv_iload hx hb dX1_makePath_27 (lv_at hl 1 rfl) ?_
    refine n_iadd hx hb dX1_makePath_29 ?_
    refine lv_iload hx hb dX1_makePath_30 (lv_at hl 6 rfl) ?_
    refine xwr (xrunV (As := [.int (nI (lvN k + (leaf / 4 ^ k))), .int (nI (next + ((mpP nums leaf next fo k).2))), .int fo]) (rest := [.int (nI ((mpP nums leaf next fo k).2))]) S (c_X1_makeBlock l G a va na room vals ((mpP nums leaf next fo k).1) len (lvN k + (leaf / 4 ^ k)) (next + ((mpP nums leaf next fo k).2)) fo hdis (lvN_b (by omega) hleaf)) (cwV 3 hts gX1_makePath_X1_makeBlock rfl rfl rfl (by decide +kernel) ⟨Nat.le_of_ble_eq_true rfl, Nat.le_of_ble_eq_true rfl⟩) hE hS hA 0 1 hP rfl rfl rfl hP rfl rfl hl.1 (Nat.le_of_ble_eq_true rfl) dX1_makePath_32 ⟨Nat.le_of_ble_eq_true rfl, Nat.le_of_ble_eq_true rfl⟩) hS (fun _ h => h) (fun _ h => h) (fun uw_ H locs hΨ hz hkp hS => ?_)
    have hP : va_P G.1 vwCl [(a, .inr (1, [.ref va, .ref na, .int (nI len)])), (va, .inl (xcI G, room, .inl vals)), (na, .inl (xcI G, 101, .inl (mbN ((mpP nums leaf next fo k).1) (lvN k + (leaf / 4 ^ k)) (next + ((mpP nums leaf next fo k).2)) fo)))] H := hΨ
    have hD : va_D (fun q => q ∈ [a, va, na]) [(a, .inr (1, [.ref va, .ref na, .int (nI len)])), (va, .inl (xcI G, room, .inl vals)), (na, .inl (xcI G, 101, .inl (mbN ((mpP nums leaf next fo k).1) (lvN k + (leaf / 4 ^ k)) (next + ((mpP nums leaf next fo k).2)) fo)))] := (hdis.to rfl)
    refine W.eq (g2 := F0 m 35 ls [.int (nI (mbC ((mpP nums leaf next fo k).1) (lvN k + (leaf / 4 ^ k)) fo)), .int (nI ((mpP nums leaf next fo k).2))]) rfl ?_
    refine n_iadd hx hb dX1_makePath_35 ?_
    refine lv_istore (lv' := [(5, .int (nI (((mpP nums leaf next fo k).2) + (mbC ((mpP nums leaf next fo k).1) (lvN k + (leaf / 4 ^ k)) fo)))), (6, .int (nI k)), (0, .ref a), (1, .int (nI leaf)), (2, .int (nI root)), (3, .int (nI next)), (4, .int fo)]) hx hb dX1_makePath_36 hl (by decide) rfl (fun ls hl => ?_)
    refine lv_iinc (v := nI (k + 1)) (lv' := [(6, .int (nI (k + 1))), (5, .int (nI (((mpP nums leaf next fo k).2) + (mbC ((mpP nums leaf next fo k).1) (lvN k + (leaf / 4 ^ k)) fo)))), (0, .ref a), (1, .int (nI leaf)), (2, .int (nI root)), (3, .int (nI next)), (4, .int fo)]) hx hb dX1_makePath_38 hl (k := 1) rfl (nI_add k 1) (by decide) rfl (fun ls hl => ?_)
    refine lv_goto (tgt := 6) hx hb dX1_makePath_41 (by decide) ?_
    have hl : lv_has ls 7 [(6, .int (nI (k + 1))), (5, .int (nI ((mpP nums leaf next fo (k + 1)).2))), (0, .ref a), (1, .int (nI leaf)), (2, .int (nI root)), (3, .int (nI next)), (4, .int fo)] := lv_sub hl [0, 1, 2, 3, 4, 5, 6] rfl
    have hP : va_P G.1 vwCl [(a, .inr (1, [.ref va, .ref na, .int (nI len)])), (va, .inl (xcI G, room, .inl vals)), (na, .inl (xcI G, 101, .inl ((mpP nums leaf next fo (k + 1)).1)))] H := hP
    exact ih_6 (k + 1) _ _ _ (by show root + 1 - (k + 1) < root + 1 - k; omega) ⟨(by (try dsimp only); omega), hP, hS, hl⟩

theorem hw_X1_hangTail_iX5_rootLevel : Cond.initialized RX5 ∈ wsX1_hangTail := by decide +kernel
theorem hw_X1_hangTail_sX5_rootLevel : Cond.static yX5_rootLevel ∈ wsX1_hangTail := by decide +kernel
set_option maxHeartbeats 4000000 in
set_option maxRecDepth 100000 in
theorem c_X1_hangTail (l : Launch) (G : xG) (a : Nat) (va : Nat) (na : Nat) (room : Nat) (vals : Nat → Int32) (nums : Nat → Int32) (len : Nat) (next : Nat) (fo : Int32) (hdis : xDis (xB0 G) [a, va, na]) (hl73 : rLv len ≤ 73) (hl3 : len ≤ 300) : Met l yX1_hangTail wsX1_hangTail ({ frames := 2, cells := 0, slots := 0, locals := 49 } : Room) (xPc G [.ref a, .int (nI next), .int fo] (fun H => va_P G.1 vwCl [(a, .inr (1, [.ref va, .ref na, .int (nI len)])), (va, .inl (xcI G, room, .inl vals)), (na, .inl (xcI G, 101, .inl nums))] H)) (xQ (σ := Unit) (fun _ => some (.int (nI ((mpP nums (rLv len) next fo (rRt (rLv len + 1) + 1)).2)))) (fun _ H => va_P G.1 vwCl [(a, .inr (1, [.ref va, .ref na, .int (nI len)])), (va, .inl (xcI G, room, .inl vals)), (na, .inl (xcI G, 101, .inl ((mpP nums (rLv len) next fo (rRt (rLv len + 1) + 1)).1)))] H) (fun q => q ∈ [a, va, na])) 0 0 (fun q => q ∈ [a, va, na]) := by
  refine xMet (cc := cX1_hangTail) (nL := 4) (ret := (some (.int))) (by decide) rfl (Nat.le_of_ble_eq_true rfl) ?_
  intro p e s m below meth c S hr hlk_ hnm hE hP ls hl
  obtain ⟨hx, hb, hml, hown, hts⟩ := id S
  have hown : s.vm.findClass RX1 = some m.cls := hown
  have hK := hE.1
  have hS : va_S (fun q => q ∈ [a, va, na]) s.heap s.heap [] := va_S.rf
  have hA : ∀ q, (fun q => q ∈ [a, va, na]) q → xB0 G ≤ q := hdis.2
  have hP : va_P G.1 vwCl [(a, .inr (1, [.ref va, .ref na, .int (nI len)])), (va, .inl (xcI G, room, .inl vals)), (na, .inl (xcI G, 101, .inl nums))] s.heap := hP
  have hD : va_D (fun q => q ∈ [a, va, na]) [(a, .inr (1, [.ref va, .ref na, .int (nI len)])), (va, .inl (xcI G, room, .inl vals)), (na, .inl (xcI G, 101, .inl nums))] := (hdis.to rfl)
  have hl : lv_has ls 4 [(0, .ref a), (1, .int (nI next)), (2, .int fo)] := hl
  refine lv_aload_n hx hb dX1_hangTail_0 rfl (lv_at hl 0 rfl) ?_
  refine xrd (xrunV (As := []) (rest := []) S (c_X1_leaves l G a va na room vals nums len hl3) (cwV 0 hts gX1_hangTail_X1_leaves rfl rfl rfl (by decide +kernel) ⟨Nat.le_of_ble_eq_true rfl, Nat.le_of_ble_eq_true rfl⟩) hE hS hA 0 1 hP rfl rfl rfl hP rfl rfl hl.1 (Nat.le_of_ble_eq_true rfl) dX1_hangTail_1 ⟨Nat.le_of_ble_eq_true rfl, Nat.le_of_ble_eq_true rfl⟩) ?_
  refine lv_istore_n (lv' := [(3, .int (nI (rLv len))), (0, .ref a), (1, .int (nI next)), (2, .int fo)]) hx hb dX1_hangTail_4 rfl hl (by decide) rfl (fun ls hl => ?_)
  refine lv_aload_n hx hb dX1_hangTail_5 rfl (lv_at hl 1 rfl) ?_
  refine lv_iload_n hx hb dX1_hangTail_6 rfl (lv_at hl 0 rfl) ?_
  refine lv_iload_n hx hb dX1_hangTail_7 rfl (lv_at hl 0 rfl) ?_
  refine lv_iconst (v := nI 1) hx hb dX1_hangTail_8 rfl ?_
  refine n_iadd hx hb dX1_hangTail_9 ?_
  refine xrd (xrunSN (As := [.int (nI ((rLv len) + 1))]) (rest := [.int (nI (rLv len)), .ref a]) S (c_X5_rootLevel_n l G ((rLv len) + 1) (by omega)) ⟨va_cnB 1 hts gX1_hangTail_X5_rootLevel_n60 rfl rfl rfl hE.2.2.2.2.2 (hts _ hw_X1_hangTail_iX5_rootLevel) (by decide +kernel) ⟨Nat.le_of_ble_eq_true rfl, Nat.le_of_ble_eq_true rfl⟩, (hts _ hw_X1_hangTail_sX5_rootLevel), trivial⟩ hE hS hA trivial rfl rfl hl.1 (Nat.le_of_ble_eq_true rfl) dX1_hangTail_10 ⟨Nat.le_of_ble_eq_true rfl, Nat.le_of_ble_eq_true rfl⟩) ?_
  refine n_top (y := nI (rRt (rLv len + 1))) (cRI_pos (by omega)) ?_
  refine lv_iload_n hx hb dX1_hangTail_13 rfl (lv_at hl 2 rfl) ?_
  refine lv_iload_n hx hb dX1_hangTail_14 rfl (lv_at hl 3 rfl) ?_
  refine xwr (xrunV (As := [.int (nI (rLv len)), .int (nI (rRt (rLv len + 1))), .int (nI next), .int fo]) (rest := []) S (c_X1_makePath l G a va na room vals nums len (rLv len) (rRt (rLv len + 1)) next fo hdis hl73 (rRt_le _)) (cwV 4 hts gX1_hangTail_X1_makePath rfl rfl rfl (by decide +kernel) ⟨Nat.le_of_ble_eq_true rfl, Nat.le_of_ble_eq_true rfl⟩) hE hS hA 0 1 hP rfl rfl rfl hP rfl rfl hl.1 (Nat.le_of_ble_eq_true rfl) dX1_hangTail_15 ⟨Nat.le_of_ble_eq_true rfl, Nat.le_of_ble_eq_true rfl⟩) hS (fun _ h => h) (fun _ h => h) (fun uw_ H locs hΨ hz hkp hS => ?_)
  have hP : va_P G.1 vwCl [(a, .inr (1, [.ref va, .ref na, .int (nI len)])), (va, .inl (xcI G, room, .inl vals)), (na, .inl (xcI G, 101, .inl ((mpP nums (rLv len) next fo ((rRt (rLv len + 1)) + 1)).1)))] H := hΨ
  have hD : va_D (fun q => q ∈ [a, va, na]) [(a, .inr (1, [.ref va, .ref na, .int (nI len)])), (va, .inl (xcI G, room, .inl vals)), (na, .inl (xcI G, 101, .inl ((mpP nums (rLv len) next fo ((rRt (rLv len + 1)) + 1)).1)))] := (hdis.to rfl)
  refine W.eq (g2 := F0 m 18 ls [.int (nI ((mpP nums (rLv len) next fo ((rRt (rLv len + 1)) + 1)).2))]) rfl ?_
  exact xend_i () hx hb hr hlk_ hS (fun _ h => h) dX1_hangTail_18 rfl hP (Nat.le_refl _) (Nat.le_refl _)

theorem hw_X1_write_f33 : Cond.fieldLink RX1 33 "TailVectors$Row" "length" "I" ∈ wsX1_write := by decide +kernel
theorem hi_X1_write_RX1 : ∀ w ∈ u_ws RX1 TX1 3, w ∈ wsX1_write := by decide +kernel
theorem hw_X1_write_f18 : Cond.fieldLink RX1 18 "TailVectors$Row" "values" "[I" ∈ wsX1_write := by decide +kernel
theorem hw_X1_write_iX5_rootLevel : Cond.initialized RX5 ∈ wsX1_write := by decide +kernel
theorem hw_X1_write_sX5_rootLevel : Cond.static yX5_rootLevel ∈ wsX1_write := by decide +kernel
set_option maxHeartbeats 4000000 in
set_option maxRecDepth 100000 in
theorem c_X1_write (l : Launch) (G : xG) (a : Nat) (va : Nat) (na : Nat) (room : Nat) (vals : Nat → Int32) (nums : Nat → Int32) (len : Nat) (q : Nat) (x : Int32) (next : Nat) (fo : Int32) (hdis : xDis (xB0 G) [a, va, na]) (hql : q ≤ len) (hqr : q < room) (hr3 : room ≤ 300) (hl3 : len ≤ 300) : Met l yX1_write wsX1_write ({ frames := 3, cells := 0, slots := 0, locals := 72 } : Room) (xPc G [.ref a, .int (nI q), .int x, .int (nI next), .int fo] (fun H => va_P G.1 vwCl [(a, .inr (1, [.ref va, .ref na, .int (nI len)])), (va, .inl (xcI G, room, .inl vals)), (na, .inl (xcI G, 101, .inl nums))] H)) (xQ (σ := Unit) (fun _ => some (.int (nI ((wrN nums len q next fo).2)))) (fun _ H => va_P G.1 vwCl [(a, .inr (1, [.ref va, .ref na, .int (nI (if q = len then len + 1 else len))])), (va, .inl (xcI G, room, .inl (upd vals q x))), (na, .inl (xcI G, 101, .inl ((wrN nums len q next fo).1)))] H) (fun q => q ∈ [a, va, na])) 0 0 (fun q => q ∈ [a, va, na]) := by
  refine xMet (cc := cX1_write) (nL := 6) (ret := (some (.int))) (by decide) rfl (Nat.le_of_ble_eq_true rfl) ?_
  intro p e s m below meth c S hr hlk_ hnm hE hP ls hl
  obtain ⟨hx, hb, hml, hown, hts⟩ := id S
  have hown : s.vm.findClass RX1 = some m.cls := hown
  have hK := hE.1
  have hS : va_S (fun q => q ∈ [a, va, na]) s.heap s.heap [] := va_S.rf
  have hA : ∀ q, (fun q => q ∈ [a, va, na]) q → xB0 G ≤ q := hdis.2
  have hP : va_P G.1 vwCl [(a, .inr (1, [.ref va, .ref na, .int (nI len)])), (va, .inl (xcI G, room, .inl vals)), (na, .inl (xcI G, 101, .inl nums))] s.heap := hP
  have hD : va_D (fun q => q ∈ [a, va, na]) [(a, .inr (1, [.ref va, .ref na, .int (nI len)])), (va, .inl (xcI G, room, .inl vals)), (na, .inl (xcI G, 101, .inl nums))] := (hdis.to rfl)
  have hl : lv_has ls 6 [(0, .ref a), (1, .int (nI q)), (2, .int x), (3, .int (nI next)), (4, .int fo)] := hl
  refine lv_iload_n hx hb dX1_write_0 rfl (lv_at hl 1 rfl) ?_
  refine n_if_lt (tgt := 21) hx hb (by omega) dX1_write_1 (by decide) (fun c_1 => ?_) (fun c_1 => ?_)
  · exact absurd c_1 (by omega)
  · refine lv_iload_n hx hb dX1_write_4 rfl (lv_at hl 1 rfl) ?_
    refine lv_aload_n hx hb dX1_write_5 rfl (lv_at hl 0 rfl) ?_
    refine va_get (D := G.1) (ci := 1) (v := .int (nI len)) (C := RX1) (T := TX1) (N := 3) hx hb hts hi_X1_write_RX1 hown hK hP 0 rfl rfl 2 (by decide) (hts _ hw_X1_write_f33) (fun _ h9 => h9) rfl dX1_write_6 ?_
    refine n_icmp_gt (tgt := 21) hx hb (by omega) (by omega) dX1_write_9 (by decide) (fun c_9 => ?_) (fun c_9 => ?_)
    · exact absurd c_9 (by omega)
    · refine lv_iload_n hx hb dX1_write_12 rfl (lv_at hl 1 rfl) ?_
      refine lv_aload_n hx hb dX1_write_13 rfl (lv_at hl 0 rfl) ?_
      refine va_get (D := G.1) (ci := 1) (v := .ref va) (C := RX1) (T := TX1) (N := 3) hx hb hts hi_X1_write_RX1 hown hK hP 0 rfl rfl 0 (by decide) (hts _ hw_X1_write_f18) (fun _ h9 => h9) rfl dX1_write_14 ?_
      refine va_alen (v := nI room) hx hb hK hP 1 0 rfl rfl rfl dX1_write_17 ?_
      refine n_icmp_lt (tgt := 23) hx hb (by omega) (by omega) dX1_write_18 (by decide) (fun c_18 => ?_) (fun c_18 => ?_)
      · refine lv_iconst (v := nI 0) hx hb dX1_write_23 rfl ?_
        refine lv_istore (lv' := [(5, .int (nI 0)), (0, .ref a), (1, .int (nI q)), (2, .int x), (3, .int (nI next)), (4, .int fo)]) hx hb dX1_write_24 hl (by decide) rfl (fun ls hl => ?_)
        refine lv_iload_n hx hb dX1_write_26 rfl (lv_at hl 2 rfl) ?_
        refine lv_aload_n hx hb dX1_write_27 rfl (lv_at hl 1 rfl) ?_
        refine va_get (D := G.1) (ci := 1) (v := .int (nI len)) (C := RX1) (T := TX1) (N := 3) hx hb hts hi_X1_write_RX1 hown hK hP 0 rfl rfl 2 (by decide) (hts _ hw_X1_write_f33) (fun _ h9 => h9) rfl dX1_write_28 ?_
        refine n_icmp_ne (tgt := 68) hx hb (by omega) (by omega) dX1_write_31 (by decide) (fun c_31 => ?_) (fun c_31 => ?_)
        · refine lv_iload_n hx hb dX1_write_68 rfl (lv_at hl 2 rfl) ?_
          refine lv_iconst (v := nI 4) hx hb dX1_write_69 rfl ?_
          refine n_idiv hx hb (by omega) (by omega) (by omega) dX1_write_70 ?_
          refine lv_aload_n hx hb dX1_write_71 rfl (lv_at hl 1 rfl) ?_
          refine xrd (xrunV (As := []) (rest := [.int (nI (q / 4))]) S (c_X1_leaves l G a va na room vals nums len hl3) (cwV 0 hts gX1_write_X1_leaves rfl rfl rfl (by decide +kernel) ⟨Nat.le_of_ble_eq_true rfl, Nat.le_of_ble_eq_true rfl⟩) hE hS hA 0 1 hP rfl rfl rfl hP rfl rfl hl.1 (Nat.le_of_ble_eq_true rfl) dX1_write_72 ⟨Nat.le_of_ble_eq_true rfl, Nat.le_of_ble_eq_true rfl⟩) ?_
          refine n_icmp_ge (tgt := 97) hx hb (by omega) (by have := rLv_le hl3; omega) dX1_write_75 (by decide) (fun c_75 => ?_) (fun c_75 => ?_)
          · refine lv_aload_n hx hb dX1_write_97 rfl (lv_at hl 1 rfl) ?_
            refine va_get (D := G.1) (ci := 1) (v := .ref va) (C := RX1) (T := TX1) (N := 3) hx hb hts hi_X1_write_RX1 hown hK hP 0 rfl rfl 0 (by decide) (hts _ hw_X1_write_f18) (fun _ h9 => h9) rfl dX1_write_98 ?_
            refine lv_iload_n hx hb dX1_write_101 rfl (lv_at hl 2 rfl) ?_
            refine lv_iload_n hx hb dX1_write_102 rfl (lv_at hl 3 rfl) ?_
            refine i_iast hx hb hK hP hD hS 1 0 rfl rfl (by omega) (by omega) dX1_write_103 (fun H locs hP hD hS => ?_)
            have hP : va_P G.1 vwCl [(a, .inr (1, [.ref va, .ref na, .int (nI len)])), (va, .inl (xcI G, room, .inl (upd vals q x))), (na, .inl (xcI G, 101, .inl nums))] H := hP
            have hD : va_D (fun q => q ∈ [a, va, na]) [(a, .inr (1, [.ref va, .ref na, .int (nI len)])), (va, .inl (xcI G, room, .inl (upd vals q x))), (na, .inl (xcI G, 101, .inl nums))] := hD
            refine lv_iload hx hb dX1_write_104 (lv_at hl 0 rfl) ?_
            have eW : wrN nums len q next fo = (nums, 0) := by rw [wrN, if_neg c_31, if_neg (Nat.not_lt.mpr c_75)]
            exact xend_i () hx hb hr hlk_ hS (fun _ h => h) dX1_write_106 (by rw [eW]) (by rw [eW, if_neg c_31]; exact hP) (Nat.le_refl _) (Nat.le_refl _)
          · refine lv_aload_n hx hb dX1_write_78 rfl (lv_at hl 1 rfl) ?_
            refine lv_iload_n hx hb dX1_write_79 rfl (lv_at hl 2 rfl) ?_
            refine lv_iconst (v := nI 4) hx hb dX1_write_80 rfl ?_
            refine n_idiv hx hb (by omega) (by omega) (by omega) dX1_write_81 ?_
            refine lv_aload_n hx hb dX1_write_82 rfl (lv_at hl 1 rfl) ?_
            refine xrd (xrunV (As := []) (rest := [.int (nI (q / 4)), .ref a]) S (c_X1_leaves l G a va na room vals nums len hl3) (cwV 0 hts gX1_write_X1_leaves rfl rfl rfl (by decide +kernel) ⟨Nat.le_of_ble_eq_true rfl, Nat.le_of_ble_eq_true rfl⟩) hE hS hA 0 1 hP rfl rfl rfl hP rfl rfl hl.1 (Nat.le_of_ble_eq_true rfl) dX1_write_83 ⟨Nat.le_of_ble_eq_true rfl, Nat.le_of_ble_eq_true rfl⟩) ?_
            refine xrd (xrunSN (As := [.int (nI (rLv len))]) (rest := [.int (nI (q / 4)), .ref a]) S (c_X5_rootLevel_n l G (rLv len) (by have := rLv_le hl3; omega)) ⟨va_cnB 1 hts gX1_write_X5_rootLevel_n60 rfl rfl rfl hE.2.2.2.2.2 (hts _ hw_X1_write_iX5_rootLevel) (by decide +kernel) ⟨Nat.le_of_ble_eq_true rfl, Nat.le_of_ble_eq_true rfl⟩, (hts _ hw_X1_write_sX5_rootLevel), trivial⟩ hE hS hA trivial rfl rfl hl.1 (Nat.le_of_ble_eq_true rfl) dX1_write_86 ⟨Nat.le_of_ble_eq_true rfl, Nat.le_of_ble_eq_true rfl⟩) ?_
            refine n_top (y := nI (rRt (rLv len))) (cRI_pos (by omega)) ?_
            refine lv_iload_n hx hb dX1_write_89 rfl (lv_at hl 4 rfl) ?_
            refine lv_iload hx hb dX1_write_90 (lv_at hl 5 rfl) ?_
            refine xwr (xrunV (As := [.int (nI (q / 4)), .int (nI (rRt (rLv len))), .int (nI next), .int fo]) (rest := []) S (c_X1_makePath l G a va na room vals nums len (q / 4) (rRt (rLv len)) next fo hdis (by have := rLv_le hl3; omega) (rRt_le _)) (cwV 4 hts gX1_write_X1_makePath rfl rfl rfl (by decide +kernel) ⟨Nat.le_of_ble_eq_true rfl, Nat.le_of_ble_eq_true rfl⟩) hE hS hA 0 1 hP rfl rfl rfl hP rfl rfl hl.1 (Nat.le_of_ble_eq_true rfl) dX1_write_92 ⟨Nat.le_of_ble_eq_true rfl, Nat.le_of_ble_eq_true rfl⟩) hS (fun _ h => h) (fun _ h => h) (fun uw_ H locs hΨ hz hkp hS => ?_)
            have hP : va_P G.1 vwCl [(a, .inr (1, [.ref va, .ref na, .int (nI len)])), (va, .inl (xcI G, room, .inl vals)), (na, .inl (xcI G, 101, .inl ((mpP nums (q / 4) next fo ((rRt (rLv len)) + 1)).1)))] H := hΨ
            have hD : va_D (fun q => q ∈ [a, va, na]) [(a, .inr (1, [.ref va, .ref na, .int (nI len)])), (va, .inl (xcI G, room, .inl vals)), (na, .inl (xcI G, 101, .inl ((mpP nums (q / 4) next fo ((rRt (rLv len)) + 1)).1)))] := (hdis.to rfl)
            refine W.eq (g2 := F0 m 95 ls [.int (nI ((mpP nums (q / 4) next fo ((rRt (rLv len)) + 1)).2))]) rfl ?_
            refine lv_istore (lv' := [(5, .int (nI ((mpP nums (q / 4) next fo ((rRt (rLv len)) + 1)).2))), (0, .ref a), (1, .int (nI q)), (2, .int x), (3, .int (nI next)), (4, .int fo)]) hx hb dX1_write_95 hl (by decide) rfl (fun ls hl => ?_)
            refine lv_aload_n hx hb dX1_write_97 rfl (lv_at hl 1 rfl) ?_
            refine va_get (D := G.1) (ci := 1) (v := .ref va) (C := RX1) (T := TX1) (N := 3) hx hb hts hi_X1_write_RX1 hown hK hP 0 rfl rfl 0 (by decide) (hts _ hw_X1_write_f18) (fun _ h9 => h9) rfl dX1_write_98 ?_
            refine lv_iload_n hx hb dX1_write_101 rfl (lv_at hl 2 rfl) ?_
            refine lv_iload_n hx hb dX1_write_102 rfl (lv_at hl 3 rfl) ?_
            refine i_iast hx hb hK hP hD hS 1 0 rfl rfl (by omega) (by omega) dX1_write_103 (fun H locs hP hD hS => ?_)
            have hP : va_P G.1 vwCl [(a, .inr (1, [.ref va, .ref na, .int (nI len)])), (va, .inl (xcI G, room, .inl (upd vals q x))), (na, .inl (xcI G, 101, .inl ((mpP nums (q / 4) next fo ((rRt (rLv len)) + 1)).1)))] H := hP
            have hD : va_D (fun q => q ∈ [a, va, na]) [(a, .inr (1, [.ref va, .ref na, .int (nI len)])), (va, .inl (xcI G, room, .inl (upd vals q x))), (na, .inl (xcI G, 101, .inl ((mpP nums (q / 4) next fo ((rRt (rLv len)) + 1)).1)))] := hD
            refine lv_iload hx hb dX1_write_104 (lv_at hl 0 rfl) ?_
            have eW : wrN nums len q next fo = ((mpP nums (q / 4) next fo ((rRt (rLv len)) + 1)).1, (mpP nums (q / 4) next fo ((rRt (rLv len)) + 1)).2) := by rw [wrN, if_neg c_31, if_pos c_75]
            exact xend_i () hx hb hr hlk_ hS (fun _ h => h) dX1_write_106 (by rw [eW]) (by rw [eW, if_neg c_31]; exact hP) (Nat.le_refl _) (Nat.le_refl _)
        · refine lv_aload_n hx hb dX1_write_34 rfl (lv_at hl 1 rfl) ?_
          refine xrd (xrunV (As := []) (rest := []) S (c_X1_tail l G a va na room vals nums len hl3) (cwV 0 hts gX1_write_X1_tail rfl rfl rfl (by decide +kernel) ⟨Nat.le_of_ble_eq_true rfl, Nat.le_of_ble_eq_true rfl⟩) hE hS hA 0 1 hP rfl rfl rfl hP rfl rfl hl.1 (Nat.le_of_ble_eq_true rfl) dX1_write_35 ⟨Nat.le_of_ble_eq_true rfl, Nat.le_of_ble_eq_true rfl⟩) ?_
          refine lv_iconst (v := nI 4) hx hb dX1_write_38 rfl ?_
          refine n_icmp_ne (tgt := 52) hx hb (by omega) (by omega) dX1_write_39 (by decide) (fun c_39 => ?_) (fun c_39 => ?_)
          · refine lv_iconst (v := nI 0) hx hb dX1_write_52 rfl ?_
            refine lv_istore (lv' := [(5, .int (nI 0)), (0, .ref a), (1, .int (nI q)), (2, .int x), (3, .int (nI next)), (4, .int fo)]) hx hb dX1_write_53 hl (by decide) rfl (fun ls hl => ?_)
            refine lv_aload_n hx hb dX1_write_55 rfl (lv_at hl 1 rfl) ?_
            refine lv_dup hx hb dX1_write_56 rfl ?_
            refine va_get (D := G.1) (ci := 1) (v := .int (nI len)) (C := RX1) (T := TX1) (N := 3) hx hb hts hi_X1_write_RX1 hown hK hP 0 rfl rfl 2 (by decide) (hts _ hw_X1_write_f33) (fun _ h9 => h9) rfl dX1_write_57 ?_
            refine lv_iconst (v := nI 1) hx hb dX1_write_60 rfl ?_
            refine n_iadd hx hb dX1_write_61 ?_
            refine va_put (D := G.1) (ci := 1) (v := .int (nI (len + 1))) (ty := .int) (C := RX1) (T := TX1) (N := 3) hx hb hts hi_X1_write_RX1 tyX1 tyX1_ok nmX1 hown hK hP hD hS 0 rfl rfl 2 (by decide) (hts _ hw_X1_write_f33) (fun _ h9 => h9) rfl (by decide +kernel) rfl rfl (Nat.le_of_ble_eq_true rfl) dX1_write_62 (fun H locs hP hD hS => ?_)
            have hP : va_P G.1 vwCl [(a, .inr (1, [.ref va, .ref na, .int (nI (len + 1))])), (va, .inl (xcI G, room, .inl vals)), (na, .inl (xcI G, 101, .inl nums))] H := hP
            have hD : va_D (fun q => q ∈ [a, va, na]) [(a, .inr (1, [.ref va, .ref na, .int (nI (len + 1))])), (va, .inl (xcI G, room, .inl vals)), (na, .inl (xcI G, 101, .inl nums))] := hD
            refine lv_goto (tgt := 97) hx hb dX1_write_65 (by decide) ?_
            refine lv_aload_n hx hb dX1_write_97 rfl (lv_at hl 1 rfl) ?_
            refine va_get (D := G.1) (ci := 1) (v := .ref va) (C := RX1) (T := TX1) (N := 3) hx hb hts hi_X1_write_RX1 hown hK hP 0 rfl rfl 0 (by decide) (hts _ hw_X1_write_f18) (fun _ h9 => h9) rfl dX1_write_98 ?_
            refine lv_iload_n hx hb dX1_write_101 rfl (lv_at hl 2 rfl) ?_
            refine lv_iload_n hx hb dX1_write_102 rfl (lv_at hl 3 rfl) ?_
            refine i_iast hx hb hK hP hD hS 1 0 rfl rfl (by omega) (by omega) dX1_write_103 (fun H locs hP hD hS => ?_)
            have hP : va_P G.1 vwCl [(a, .inr (1, [.ref va, .ref na, .int (nI (len + 1))])), (va, .inl (xcI G, room, .inl (upd vals q x))), (na, .inl (xcI G, 101, .inl nums))] H := hP
            have hD : va_D (fun q => q ∈ [a, va, na]) [(a, .inr (1, [.ref va, .ref na, .int (nI (len + 1))])), (va, .inl (xcI G, room, .inl (upd vals q x))), (na, .inl (xcI G, 101, .inl nums))] := hD
            refine lv_iload hx hb dX1_write_104 (lv_at hl 0 rfl) ?_
            have eW : wrN nums len q next fo = (nums, 0) := by rw [wrN, if_pos c_31, if_neg c_39]
            exact xend_i () hx hb hr hlk_ hS (fun _ h => h) dX1_write_106 (by rw [eW]) (by rw [eW, if_pos c_31]; exact hP) (Nat.le_refl _) (Nat.le_refl _)
          · refine lv_aload_n hx hb dX1_write_42 rfl (lv_at hl 1 rfl) ?_
            refine lv_iload_n hx hb dX1_write_43 rfl (lv_at hl 4 rfl) ?_
            refine lv_iload hx hb dX1_write_44 (lv_at hl 5 rfl) ?_
            refine xwr (xrunV (As := [.int (nI next), .int fo]) (rest := []) S (c_X1_hangTail l G a va na room vals nums len next fo hdis (by omega) hl3) (cwV 2 hts gX1_write_X1_hangTail rfl rfl rfl (by decide +kernel) ⟨Nat.le_of_ble_eq_true rfl, Nat.le_of_ble_eq_true rfl⟩) hE hS hA 0 1 hP rfl rfl rfl hP rfl rfl hl.1 (Nat.le_of_ble_eq_true rfl) dX1_write_46 ⟨Nat.le_of_ble_eq_true rfl, Nat.le_of_ble_eq_true rfl⟩) hS (fun _ h => h) (fun _ h => h) (fun uw_ H locs hΨ hz hkp hS => ?_)
            have hP : va_P G.1 vwCl [(a, .inr (1, [.ref va, .ref na, .int (nI len)])), (va, .inl (xcI G, room, .inl vals)), (na, .inl (xcI G, 101, .inl ((mpP nums (rLv len) next fo (rRt (rLv len + 1) + 1)).1)))] H := hΨ
            have hD : va_D (fun q => q ∈ [a, va, na]) [(a, .inr (1, [.ref va, .ref na, .int (nI len)])), (va, .inl (xcI G, room, .inl vals)), (na, .inl (xcI G, 101, .inl ((mpP nums (rLv len) next fo (rRt (rLv len + 1) + 1)).1)))] := (hdis.to rfl)
            refine W.eq (g2 := F0 m 49 ls [.int (nI ((mpP nums (rLv len) next fo (rRt (rLv len + 1) + 1)).2))]) rfl ?_
            refine lv_goto (tgt := 53) hx hb dX1_write_49 (by decide) ?_
            refine lv_istore (lv' := [(5, .int (nI ((mpP nums (rLv len) next fo (rRt (rLv len + 1) + 1)).2))), (0, .ref a), (1, .int (nI q)), (2, .int x), (3, .int (nI next)), (4, .int fo)]) hx hb dX1_write_53 hl (by decide) rfl (fun ls hl => ?_)
            refine lv_aload_n hx hb dX1_write_55 rfl (lv_at hl 1 rfl) ?_
            refine lv_dup hx hb dX1_write_56 rfl ?_
            refine va_get (D := G.1) (ci := 1) (v := .int (nI len)) (C := RX1) (T := TX1) (N := 3) hx hb hts hi_X1_write_RX1 hown hK hP 0 rfl rfl 2 (by decide) (hts _ hw_X1_write_f33) (fun _ h9 => h9) rfl dX1_write_57 ?_
            refine lv_iconst (v := nI 1) hx hb dX1_write_60 rfl ?_
            refine n_iadd hx hb dX1_write_61 ?_
            refine va_put (D := G.1) (ci := 1) (v := .int (nI (len + 1))) (ty := .int) (C := RX1) (T := TX1) (N := 3) hx hb hts hi_X1_write_RX1 tyX1 tyX1_ok nmX1 hown hK hP hD hS 0 rfl rfl 2 (by decide) (hts _ hw_X1_write_f33) (fun _ h9 => h9) rfl (by decide +kernel) rfl rfl (Nat.le_of_ble_eq_true rfl) dX1_write_62 (fun H locs hP hD hS => ?_)
            have hP : va_P G.1 vwCl [(a, .inr (1, [.ref va, .ref na, .int (nI (len + 1))])), (va, .inl (xcI G, room, .inl vals)), (na, .inl (xcI G, 101, .inl ((mpP nums (rLv len) next fo (rRt (rLv len + 1) + 1)).1)))] H := hP
            have hD : va_D (fun q => q ∈ [a, va, na]) [(a, .inr (1, [.ref va, .ref na, .int (nI (len + 1))])), (va, .inl (xcI G, room, .inl vals)), (na, .inl (xcI G, 101, .inl ((mpP nums (rLv len) next fo (rRt (rLv len + 1) + 1)).1)))] := hD
            refine lv_goto (tgt := 97) hx hb dX1_write_65 (by decide) ?_
            refine lv_aload_n hx hb dX1_write_97 rfl (lv_at hl 1 rfl) ?_
            refine va_get (D := G.1) (ci := 1) (v := .ref va) (C := RX1) (T := TX1) (N := 3) hx hb hts hi_X1_write_RX1 hown hK hP 0 rfl rfl 0 (by decide) (hts _ hw_X1_write_f18) (fun _ h9 => h9) rfl dX1_write_98 ?_
            refine lv_iload_n hx hb dX1_write_101 rfl (lv_at hl 2 rfl) ?_
            refine lv_iload_n hx hb dX1_write_102 rfl (lv_at hl 3 rfl) ?_
            refine i_iast hx hb hK hP hD hS 1 0 rfl rfl (by omega) (by omega) dX1_write_103 (fun H locs hP hD hS => ?_)
            have hP : va_P G.1 vwCl [(a, .inr (1, [.ref va, .ref na, .int (nI (len + 1))])), (va, .inl (xcI G, room, .inl (upd vals q x))), (na, .inl (xcI G, 101, .inl ((mpP nums (rLv len) next fo (rRt (rLv len + 1) + 1)).1)))] H := hP
            have hD : va_D (fun q => q ∈ [a, va, na]) [(a, .inr (1, [.ref va, .ref na, .int (nI (len + 1))])), (va, .inl (xcI G, room, .inl (upd vals q x))), (na, .inl (xcI G, 101, .inl ((mpP nums (rLv len) next fo (rRt (rLv len + 1) + 1)).1)))] := hD
            refine lv_iload hx hb dX1_write_104 (lv_at hl 0 rfl) ?_
            have eW : wrN nums len q next fo = ((mpP nums (rLv len) next fo (rRt (rLv len + 1) + 1)).1, (mpP nums (rLv len) next fo (rRt (rLv len + 1) + 1)).2) := by rw [wrN, if_pos c_31, if_pos c_39]
            exact xend_i () hx hb hr hlk_ hS (fun _ h => h) dX1_write_106 (by rw [eW]) (by rw [eW, if_pos c_31]; exact hP) (Nat.le_refl _) (Nat.le_refl _)
      · exact absurd c_18 (by omega)
