def rLv (n : Nat) : Nat := if n = 0 then 0 else (n - 1) / 4
def rRt (l : Nat) : Nat := if l ≤ 4 then 1 else if l ≤ 16 then 2 else if l ≤ 64 then 3 else 4
def rRI (l : Nat) : Int32 := if l = 0 then -1 else nI (rRt l)
def rBg (k : Nat) : Nat := if k = 0 then 0 else if k = 1 then 75 else if k = 2 then 94 else if k = 3 then 99 else 101
def rBl (l k : Nat) : Nat := if l = 0 then 0 else if rRt l < k then 0 else (l + 4 ^ k - 1) / 4 ^ k
theorem xpow (k : Nat) : 1 * 2 ^ (2 * k) = 4 ^ k := by rw [Nat.one_mul, Nat.pow_mul]
theorem xpow_lt {k : Nat} (h : k ≤ 8) : 4 ^ k < 2 ^ 24 := by
  have := Nat.pow_le_pow_right (n := 4) (by decide) h
  exact Nat.lt_of_le_of_lt this (by decide)
theorem xpow_lt2 {k : Nat} (h : k ≤ 8) : 1 * 2 ^ (2 * k) < 2 ^ 32 := by rw [xpow]; exact Nat.lt_trans (xpow_lt h) (by decide)

set_option maxHeartbeats 4000000 in
set_option maxRecDepth 100000 in
theorem c_X6_in (l : Launch) (G : xG) (x : Int32) (a : Int32) (b : Int32)  : Met l yX6_in wsX6_in ({ frames := 0, cells := 0, slots := 0, locals := 0 } : Room) (xPc G [.int x, .int a, .int b] (fun _ => True)) (k2_QcV (.int (bI (a ≤ x ∧ x ≤ b)))) 0 0 (fun _ => False) := by
  refine xMet (cc := cX6_in) (nL := 3) (ret := (some (.boolean))) (by decide) rfl (Nat.le_of_ble_eq_true rfl) ?_
  intro p e s m below meth c S hr hk hnm hE hP ls hl
  obtain ⟨hx, hb, hml, hown, hts⟩ := id S
  have hown : s.vm.findClass RX6 = some m.cls := hown
  have hK := hE.1
  have hS : va_S (fun _ : Nat => False) s.heap s.heap [] := va_S.rf
  have hA : ∀ q, (fun _ : Nat => False) q → xB0 G ≤ q := fun _ h => h.elim
  have hl : lv_has ls 3 [(0, .int x), (1, .int a), (2, .int b)] := hl
  refine lv_iload_n hx hb dX6_in_0 rfl (lv_at hl 0 rfl) ?_
  refine lv_iload_n hx hb dX6_in_1 rfl (lv_at hl 1 rfl) ?_
  refine lv_icmp_lt (tgt := 14) hx hb dX6_in_2 (by decide) (fun c_2 => ?_) (fun c_2 => ?_)
  · refine lv_iconst (v := nI 0) hx hb dX6_in_14 rfl ?_
    exact xret_z hx hb hr hk dX6_in_15 (by first | exact Or.inl rfl | exact Or.inr rfl) (xb0 (by simp only [Int32.lt_iff_toInt_lt, Int32.le_iff_toInt_le] at c_2 ⊢; omega))
  · refine lv_iload_n hx hb dX6_in_5 rfl (lv_at hl 0 rfl) ?_
    refine lv_iload_n hx hb dX6_in_6 rfl (lv_at hl 2 rfl) ?_
    refine lv_icmp_gt (tgt := 14) hx hb dX6_in_7 (by decide) (fun c_7 => ?_) (fun c_7 => ?_)
    · refine lv_iconst (v := nI 0) hx hb dX6_in_14 rfl ?_
      exact xret_z hx hb hr hk dX6_in_15 (by first | exact Or.inl rfl | exact Or.inr rfl) (xb0 (by simp only [Int32.lt_iff_toInt_lt, Int32.le_iff_toInt_le] at c_2 c_7 ⊢; omega))
    · refine lv_iconst (v := nI 1) hx hb dX6_in_10 rfl ?_
      refine lv_goto (tgt := 15) hx hb dX6_in_11 (by decide) ?_
      exact xret_z hx hb hr hk dX6_in_15 (by first | exact Or.inl rfl | exact Or.inr rfl) (xb1 (by simp only [Int32.lt_iff_toInt_lt, Int32.le_iff_toInt_le] at c_2 c_7 ⊢; omega))

set_option maxHeartbeats 4000000 in
set_option maxRecDepth 100000 in
theorem c_X6_leaves (l : Launch) (G : xG) (n : Nat) (hn : n < 2 ^ 24) : Met l yX6_leaves wsX6_leaves ({ frames := 0, cells := 0, slots := 0, locals := 0 } : Room) (xPc G [.int (nI n)] (fun _ => True)) (k2_QcV (.int (nI (rLv n)))) 0 0 (fun _ => False) := by
  refine xMet (cc := cX6_leaves) (nL := 1) (ret := (some (.int))) (by decide) rfl (Nat.le_of_ble_eq_true rfl) ?_
  intro p e s m below meth c S hr hk hnm hE hP ls hl
  obtain ⟨hx, hb, hml, hown, hts⟩ := id S
  have hown : s.vm.findClass RX6 = some m.cls := hown
  have hK := hE.1
  have hS : va_S (fun _ : Nat => False) s.heap s.heap [] := va_S.rf
  have hA : ∀ q, (fun _ : Nat => False) q → xB0 G ≤ q := fun _ h => h.elim
  have hl : lv_has ls 1 [(0, .int (nI n))] := hl
  refine lv_iload_n hx hb dX6_leaves_0 rfl (lv_at hl 0 rfl) ?_
  refine n_if_ne (tgt := 8) hx hb (by omega) dX6_leaves_1 (by decide) (fun c_1 => ?_) (fun c_1 => ?_)
  · refine lv_iload_n hx hb dX6_leaves_8 rfl (lv_at hl 0 rfl) ?_
    refine lv_iconst (v := nI 1) hx hb dX6_leaves_9 rfl ?_
    refine n_isub hx hb (by omega) dX6_leaves_10 ?_
    refine lv_iconst (v := nI 4) hx hb dX6_leaves_11 rfl ?_
    refine n_idiv hx hb (by omega) (by omega) (by omega) dX6_leaves_12 ?_
    exact xret_i hx hb hr hk dX6_leaves_13 (by rw [rLv, if_neg c_1])
  · refine lv_iconst (v := nI 0) hx hb dX6_leaves_4 rfl ?_
    refine lv_goto (tgt := 13) hx hb dX6_leaves_5 (by decide) ?_
    exact xret_i hx hb hr hk dX6_leaves_13 (by rw [rLv, if_pos c_1])

set_option maxHeartbeats 4000000 in
set_option maxRecDepth 100000 in
theorem c_X6_power (l : Launch) (G : xG) (k : Nat) (hk8 : k ≤ 8) : Met l yX6_power wsX6_power ({ frames := 0, cells := 0, slots := 0, locals := 0 } : Room) (xPc G [.int (nI k)] (fun _ => True)) (k2_QcV (.int (nI (4 ^ k)))) 0 0 (fun _ => False) := by
  refine xMet (cc := cX6_power) (nL := 1) (ret := (some (.int))) (by decide) rfl (Nat.le_of_ble_eq_true rfl) ?_
  intro p e s m below meth c S hr hk hnm hE hP ls hl
  obtain ⟨hx, hb, hml, hown, hts⟩ := id S
  have hown : s.vm.findClass RX6 = some m.cls := hown
  have hK := hE.1
  have hS : va_S (fun _ : Nat => False) s.heap s.heap [] := va_S.rf
  have hA : ∀ q, (fun _ : Nat => False) q → xB0 G ≤ q := fun _ h => h.elim
  have hl : lv_has ls 1 [(0, .int (nI k))] := hl
  refine lv_iconst (v := nI 1) hx hb dX6_power_0 rfl ?_
  refine lv_iconst (v := nI 2) hx hb dX6_power_1 rfl ?_
  refine lv_iload_n hx hb dX6_power_2 rfl (lv_at hl 0 rfl) ?_
  refine n_imul hx hb dX6_power_3 ?_
  refine n_ishl hx hb (by omega) (xpow_lt2 hk8) dX6_power_4 ?_
  exact xret_i hx hb hr hk dX6_power_5 (by rw [xpow k])

set_option maxHeartbeats 4000000 in
set_option maxRecDepth 100000 in
theorem c_X6_begins (l : Launch) (G : xG) (k : Nat) (hk8 : k ≤ 8) : Met l yX6_begins wsX6_begins ({ frames := 0, cells := 0, slots := 0, locals := 0 } : Room) (xPc G [.int (nI k)] (fun _ => True)) (k2_QcV (.int (nI (rBg k)))) 0 0 (fun _ => False) := by
  refine xMet (cc := cX6_begins) (nL := 1) (ret := (some (.int))) (by decide) rfl (Nat.le_of_ble_eq_true rfl) ?_
  intro p e s m below meth c S hr hk hnm hE hP ls hl
  obtain ⟨hx, hb, hml, hown, hts⟩ := id S
  have hown : s.vm.findClass RX6 = some m.cls := hown
  have hK := hE.1
  have hS : va_S (fun _ : Nat => False) s.heap s.heap [] := va_S.rf
  have hA : ∀ q, (fun _ : Nat => False) q → xB0 G ≤ q := fun _ h => h.elim
  have hl : lv_has ls 1 [(0, .int (nI k))] := hl
  refine lv_iload_n hx hb dX6_begins_0 rfl (lv_at hl 0 rfl) ?_
  refine n_if_ne (tgt := 8) hx hb (by omega) dX6_begins_1 (by decide) (fun c_1 => ?_) (fun c_1 => ?_)
  · refine lv_iload_n hx hb dX6_begins_8 rfl (lv_at hl 0 rfl) ?_
    refine lv_iconst (v := nI 1) hx hb dX6_begins_9 rfl ?_
    refine n_icmp_ne (tgt := 18) hx hb (by omega) (by omega) dX6_begins_10 (by decide) (fun c_10 => ?_) (fun c_10 => ?_)
    · refine lv_iload_n hx hb dX6_begins_18 rfl (lv_at hl 0 rfl) ?_
      refine lv_iconst (v := nI 2) hx hb dX6_begins_19 rfl ?_
      refine n_icmp_ne (tgt := 28) hx hb (by omega) (by omega) dX6_begins_20 (by decide) (fun c_20 => ?_) (fun c_20 => ?_)
      · refine lv_iload_n hx hb dX6_begins_28 rfl (lv_at hl 0 rfl) ?_
        refine lv_iconst (v := nI 3) hx hb dX6_begins_29 rfl ?_
        refine n_icmp_ne (tgt := 38) hx hb (by omega) (by omega) dX6_begins_30 (by decide) (fun c_30 => ?_) (fun c_30 => ?_)
        · refine lv_bipush (v := nI 101) hx hb dX6_begins_38 (by decide) ?_
          exact xret_i hx hb hr hk dX6_begins_40 (by unfold rBg; split <;> simp_all <;> omega)
        · refine lv_bipush (v := nI 99) hx hb dX6_begins_33 (by decide) ?_
          refine lv_goto (tgt := 40) hx hb dX6_begins_35 (by decide) ?_
          exact xret_i hx hb hr hk dX6_begins_40 (by unfold rBg; split <;> simp_all <;> omega)
      · refine lv_bipush (v := nI 94) hx hb dX6_begins_23 (by decide) ?_
        refine lv_goto (tgt := 40) hx hb dX6_begins_25 (by decide) ?_
        exact xret_i hx hb hr hk dX6_begins_40 (by unfold rBg; split <;> simp_all <;> omega)
    · refine lv_bipush (v := nI 75) hx hb dX6_begins_13 (by decide) ?_
      refine lv_goto (tgt := 40) hx hb dX6_begins_15 (by decide) ?_
      exact xret_i hx hb hr hk dX6_begins_40 (by unfold rBg; split <;> simp_all <;> omega)
  · refine lv_iconst (v := nI 0) hx hb dX6_begins_4 rfl ?_
    refine lv_goto (tgt := 40) hx hb dX6_begins_5 (by decide) ?_
    exact xret_i hx hb hr hk dX6_begins_40 (by unfold rBg; split <;> simp_all <;> omega)

theorem rRt_cs (l : Nat) : (l ≤ 4 ∧ rRt l = 1) ∨ (4 < l ∧ l ≤ 16 ∧ rRt l = 2) ∨ (16 < l ∧ l ≤ 64 ∧ rRt l = 3) ∨ (64 < l ∧ rRt l = 4) := by
  unfold rRt
  by_cases h1 : l ≤ 4
  · rw [if_pos h1]; omega
  · rw [if_neg h1]
    by_cases h2 : l ≤ 16
    · rw [if_pos h2]; omega
    · rw [if_neg h2]
      by_cases h3 : l ≤ 64
      · rw [if_pos h3]; omega
      · rw [if_neg h3]; omega
theorem rRt_le (l : Nat) : rRt l ≤ 4 := by have := rRt_cs l; omega
theorem rRt_ge (l : Nat) : 1 ≤ rRt l := by have := rRt_cs l; omega
theorem rRt_pow {l k : Nat} (hl : l ≤ 256) (h1 : 1 ≤ k) (h2 : k ≤ rRt l) (h3 : l ≤ 4 ^ k) : k = rRt l := by
  have h4 := rRt_le l
  have h5 := rRt_cs l
  have : k = 1 ∨ k = 2 ∨ k = 3 ∨ k = 4 := by omega
  rcases this with rfl | rfl | rfl | rfl <;> simp only [Nat.reducePow] at h3 <;> omega
theorem rRt_step {l k : Nat} (hl : l ≤ 256) (h1 : 1 ≤ k) (h2 : k ≤ rRt l) (h3 : 4 ^ k < l) : k + 1 ≤ rRt l := by
  have h4 := rRt_le l
  have h5 := rRt_cs l
  have : k = 1 ∨ k = 2 ∨ k = 3 ∨ k = 4 := by omega
  rcases this with rfl | rfl | rfl | rfl <;> simp only [Nat.reducePow] at h3 <;> omega

set_option maxHeartbeats 4000000 in
set_option maxRecDepth 100000 in
theorem c_X6_rootLevel (l : Launch) (G : xG) (n : Nat) (hn : n ≤ 256) : Met l yX6_rootLevel wsX6_rootLevel ({ frames := 1, cells := 0, slots := 0, locals := 20 } : Room) (xPc G [.int (nI n)] (fun _ => True)) (k2_QcV (.int (rRI n))) 0 0 (fun _ => False) := by
  refine xMet (cc := cX6_rootLevel) (nL := 2) (ret := (some (.int))) (by decide) rfl (Nat.le_of_ble_eq_true rfl) ?_
  intro p e s m below meth c S hr hk hnm hE hP ls hl
  obtain ⟨hx, hb, hml, hown, hts⟩ := id S
  have hown : s.vm.findClass RX6 = some m.cls := hown
  have hK := hE.1
  have hS : va_S (fun _ : Nat => False) s.heap s.heap [] := va_S.rf
  have hA : ∀ q, (fun _ : Nat => False) q → xB0 G ≤ q := fun _ h => h.elim
  have hl : lv_has ls 2 [(0, .int (nI n))] := hl
  refine lv_iload_n hx hb dX6_rootLevel_0 rfl (lv_at hl 0 rfl) ?_
  refine n_if_ne (tgt := 6) hx hb (by omega) dX6_rootLevel_1 (by decide) (fun c_1 => ?_) (fun c_1 => ?_)
  · refine lv_iconst (v := nI 1) hx hb dX6_rootLevel_6 rfl ?_
    refine lv_istore_n (lv' := [(1, .int (nI 1)), (0, .int (nI n))]) hx hb dX6_rootLevel_7 rfl hl (by decide) rfl (fun ls hl => ?_)
    have hl : lv_has ls 2 [(1, .int (nI 1)), (0, .int (nI n))] := lv_sub hl [0, 1] rfl
    refine xloopR (σ := Nat) (C := (fun (x_ : Nat) ls => 1 ≤ x_ ∧ x_ ≤ rRt n ∧ n ≠ 0 ∧ lv_has ls 2 [(1, .int (nI x_)), (0, .int (nI n))])) (μ := (fun (x_ : Nat) => 5 - x_)) (W' := fun ls => W p l e _ s m _ below meth c _ _ _ _ _ (F0 m 8 ls [])) ?_ 1 _ ⟨(by omega), (rRt_ge n), c_1, hl⟩
    intro x_ ls hC ih_8
    obtain ⟨k, rfl⟩ : ∃ z, z = x_ := ⟨x_, rfl⟩
    obtain ⟨hk1, hk2, hne, hl⟩ := hC
    have hk1 : 1 ≤ k := hk1
    have hk2 : k ≤ rRt n := hk2
    have hne : n ≠ 0 := hne
    have hl : lv_has ls 2 [(1, .int (nI k)), (0, .int (nI n))] := hl
    refine id ?_
    refine lv_iload_n hx hb dX6_rootLevel_8 rfl (lv_at hl 0 rfl) ?_
    refine xrd (xrunS (As := [.int (nI k)]) (rest := []) S (c_X6_power l G k (by have := rRt_le n; omega)) (va_cwS 1 hts gX6_rootLevel_X6_power rfl rfl rfl (by decide +kernel) ⟨Nat.le_of_ble_eq_true rfl, Nat.le_of_ble_eq_true rfl⟩) hE hS hA trivial rfl rfl hl.1 (Nat.le_of_ble_eq_true rfl) dX6_rootLevel_9 ⟨Nat.le_of_ble_eq_true rfl, Nat.le_of_ble_eq_true rfl⟩) ?_
    refine lv_iload_n hx hb dX6_rootLevel_12 rfl (lv_at hl 1 rfl) ?_
    refine n_icmp_ge (tgt := 22) hx hb (Nat.lt_of_lt_of_le (xpow_lt (k := k) (by have := rRt_le n; omega)) (by decide)) (by omega) dX6_rootLevel_13 (by decide) (fun c_13 => ?_) (fun c_13 => ?_)
    · refine lv_iload_n hx hb dX6_rootLevel_22 rfl (lv_at hl 0 rfl) ?_
      exact xret_i hx hb hr hk dX6_rootLevel_23 (by rw [rRI, if_neg hne, ← rRt_pow hn hk1 hk2 c_13])
    · refine lv_iinc (v := nI (k + 1)) (lv' := [(1, .int (nI (k + 1))), (0, .int (nI n))]) hx hb dX6_rootLevel_16 hl (k := 0) rfl (nI_add k 1) (by decide) rfl (fun ls hl => ?_)
      refine lv_goto (tgt := 8) hx hb dX6_rootLevel_19 (by decide) ?_
      have hl : lv_has ls 2 [(1, .int (nI (k + 1))), (0, .int (nI n))] := lv_sub hl [0, 1] rfl
      exact ih_8 (k + 1) _ (by show 5 - (k + 1) < 5 - k; have := rRt_le n; omega) ⟨(by omega), (rRt_step hn hk1 hk2 c_13), hne, hl⟩
  · refine lv_iconst (v := (-1)) hx hb dX6_rootLevel_4 rfl ?_
    exact xret_i hx hb hr hk dX6_rootLevel_5 (by rw [rRI, if_pos c_1])

def sumN (f : Nat → Nat) : Nat → Nat
  | 0 => 0
  | k + 1 => sumN f k + f k
def mxI (f : Nat → Nat) : Nat → Int32
  | 0 => -5
  | k + 1 => if mxI f k < nI (f k) then nI (f k) else mxI f k
def lstN (P : Nat → Bool) : Nat → Nat → Nat
  | 0, k => k
  | n + 1, k => if P k = true then k else lstN P n (k + 1)
theorem lstN_stop {P : Nat → Bool} {n k : Nat} (h : P k = true ∨ n = 0) : lstN P n k = k := by
  cases n with
  | zero => rfl
  | succ n =>
    rcases h with h | h
    · exact if_pos h
    · omega
theorem lstN_go {P : Nat → Bool} {n k : Nat} (h : ¬ P k = true) (hn : 0 < n) : lstN P n k = lstN P (n - 1) (k + 1) := by
  cases n with
  | zero => omega
  | succ n => exact if_neg h
theorem rRI_le {n k : Nat} (hk : k < 2 ^ 24) : nI k ≤ rRI n ↔ n ≠ 0 ∧ k ≤ rRt n := by
  unfold rRI
  by_cases h : n = 0
  · rw [if_pos h, Int32.le_iff_toInt_le, nI_toInt (by omega)]
    constructor
    · intro h2
      have : (-1 : Int32).toInt = -1 := rfl
      omega
    · intro h2; exact absurd h h2.1
  · rw [if_neg h, nI_leI (by omega) (by have := rRt_le n; omega)]
    exact ⟨fun q => ⟨h, q⟩, fun q => q.2⟩
theorem rBl_pos {n k : Nat} (h : n ≠ 0 ∧ k ≤ rRt n) : (n + 4 ^ k - 1) / 4 ^ k = rBl n k := by
  rw [rBl, if_neg h.1, if_neg (Nat.not_lt.mpr h.2)]
theorem rBl_neg {n k : Nat} (h : ¬ (n ≠ 0 ∧ k ≤ rRt n)) : 0 = rBl n k := by
  rw [rBl]
  by_cases h1 : n = 0
  · rw [if_pos h1]
  · rw [if_neg h1, if_pos (Nat.not_le.mp (fun q => h ⟨h1, q⟩))]
theorem rBl_bd {n k q : Nat} (hn : n ≤ 75) (hk : k < 5) (hq : q < rBl n k) : rBg k + q < 102 := by
  unfold rBl at hq
  split at hq
  · omega
  · split at hq
    · omega
    · rcases (show k = 0 ∨ k = 1 ∨ k = 2 ∨ k = 3 ∨ k = 4 by omega) with rfl | rfl | rfl | rfl | rfl <;> simp only [Nat.reducePow] at hq <;> simp [rBg] <;> omega
theorem rBl_lt {n : Nat} (k : Nat) (h : n ≤ 74) : rBl n k ≤ 74 := by
  unfold rBl
  split
  · omega
  · split
    · omega
    · have h1 := Nat.pow_pos (n := k) (show 0 < 4 by decide)
      rw [Nat.div_le_iff_le_mul_add_pred h1]
      have h2 : 74 * 1 ≤ 74 * 4 ^ k := Nat.mul_le_mul_left _ h1
      have h3 : 4 ^ k * 74 = 74 * 4 ^ k := Nat.mul_comm _ _
      omega
theorem rLv_le {n : Nat} (h : n ≤ 300) : rLv n ≤ 74 := by unfold rLv; split <;> omega
abbrev rNo (N : Nat → Nat) (x : Int32) : Prop := ¬ (nI 0 ≤ x ∧ x ≤ nI (N 10171 - 1)) ∨ N (10075 + 4 * x.toNatClampNeg) = 0
theorem xin_of {x : Int32} {n : Nat} (hn : n < 2 ^ 24) (h : nI 0 ≤ x ∧ x ≤ nI n) : ∃ k : Nat, k ≤ n ∧ x = nI k := by
  have h0 : ¬ x < 0 := Int32.not_lt.mpr h.1
  obtain ⟨j, hj, rfl⟩ := nI_of h0
  exact ⟨j, (nI_leI hj (by omega)).mp h.2, rfl⟩
theorem rNo_not {N : Nat → Nat} {x : Int32} (h1 : 1 ≤ N 10171) (h2 : N 10171 ≤ 24) (h : ¬ rNo N x) : ∃ k : Nat, x = nI k ∧ k < N 10171 ∧ N (10075 + 4 * k) ≠ 0 := by
  have ha : nI 0 ≤ x ∧ x ≤ nI (N 10171 - 1) := Classical.byContradiction (fun q => h (Or.inl q))
  obtain ⟨k, hk, rfl⟩ := xin_of (by omega) ha
  refine ⟨k, rfl, by omega, fun q => h (Or.inr ?_)⟩
  rw [nI_clamp (by omega)]
  exact q
def rLen (N : Nat → Nat) (k : Nat) : Nat := if N (10075 + 4 * k + 1) = 1 then N (10075 + 4 * k + 3) else N (403 * k)
def rVal (N : Nat → Nat) (k j : Nat) : Nat := N (403 * k + 1 + N (10075 + 4 * k + 2) + j)
def rId (N : Nat → Nat) (r k j : Nat) : Nat := N (403 * r + 301 + rBg k + j)
theorem rLen_lt {N : Nat → Nat} (hN : ∀ j, N j < 2 ^ 24) (k : Nat) : rLen N k < 2 ^ 24 := by unfold rLen; split <;> exact hN _

set_option maxHeartbeats 4000000 in
set_option maxRecDepth 100000 in
theorem c_X6_blocks (l : Launch) (G : xG) (n : Nat) (k : Nat) (hn : n ≤ 256) (hk8 : k ≤ 8) : Met l yX6_blocks wsX6_blocks ({ frames := 2, cells := 0, slots := 0, locals := 41 } : Room) (xPc G [.int (nI n), .int (nI k)] (fun _ => True)) (k2_QcV (.int (nI (rBl n k)))) 0 0 (fun _ => False) := by
  refine xMet (cc := cX6_blocks) (nL := 2) (ret := (some (.int))) (by decide) rfl (Nat.le_of_ble_eq_true rfl) ?_
  intro p e s m below meth c S hr hk hnm hE hP ls hl
  obtain ⟨hx, hb, hml, hown, hts⟩ := id S
  have hown : s.vm.findClass RX6 = some m.cls := hown
  have hK := hE.1
  have hS : va_S (fun _ : Nat => False) s.heap s.heap [] := va_S.rf
  have hA : ∀ q, (fun _ : Nat => False) q → xB0 G ≤ q := fun _ h => h.elim
  have hl : lv_has ls 2 [(0, .int (nI n)), (1, .int (nI k))] := hl
  refine lv_iload_n hx hb dX6_blocks_0 rfl (lv_at hl 1 rfl) ?_
  refine lv_iload_n hx hb dX6_blocks_1 rfl (lv_at hl 0 rfl) ?_
  refine xrd (xrunS (As := [.int (nI n)]) (rest := [.int (nI k)]) S (c_X6_rootLevel l G n (by omega)) (va_cwS 1 hts gX6_blocks_X6_rootLevel rfl rfl rfl (by decide +kernel) ⟨Nat.le_of_ble_eq_true rfl, Nat.le_of_ble_eq_true rfl⟩) hE hS hA trivial rfl rfl hl.1 (Nat.le_of_ble_eq_true rfl) dX6_blocks_2 ⟨Nat.le_of_ble_eq_true rfl, Nat.le_of_ble_eq_true rfl⟩) ?_
  refine lv_icmp_le (tgt := 12) hx hb dX6_blocks_5 (by decide) (fun c_5 => ?_) (fun c_5 => ?_)
  · have c_5 := (rRI_le (by omega)).mp c_5
    refine lv_iload_n hx hb dX6_blocks_12 rfl (lv_at hl 0 rfl) ?_
    refine lv_iload_n hx hb dX6_blocks_13 rfl (lv_at hl 1 rfl) ?_
    refine xrd (xrunS (As := [.int (nI k)]) (rest := [.int (nI n)]) S (c_X6_power l G k (by omega)) (va_cwS 1 hts gX6_blocks_X6_power rfl rfl rfl (by decide +kernel) ⟨Nat.le_of_ble_eq_true rfl, Nat.le_of_ble_eq_true rfl⟩) hE hS hA trivial rfl rfl hl.1 (Nat.le_of_ble_eq_true rfl) dX6_blocks_14 ⟨Nat.le_of_ble_eq_true rfl, Nat.le_of_ble_eq_true rfl⟩) ?_
    refine n_iadd hx hb dX6_blocks_17 ?_
    refine lv_iconst (v := nI 1) hx hb dX6_blocks_18 rfl ?_
    refine n_isub hx hb (by have := Nat.pow_pos (n := k) (show 0 < 4 by decide); omega) dX6_blocks_19 ?_
    refine lv_iload_n hx hb dX6_blocks_20 rfl (lv_at hl 1 rfl) ?_
    refine xrd (xrunS (As := [.int (nI k)]) (rest := [.int (nI ((n + (4 ^ k)) - 1))]) S (c_X6_power l G k (by omega)) (va_cwS 1 hts gX6_blocks_X6_power rfl rfl rfl (by decide +kernel) ⟨Nat.le_of_ble_eq_true rfl, Nat.le_of_ble_eq_true rfl⟩) hE hS hA trivial rfl rfl hl.1 (Nat.le_of_ble_eq_true rfl) dX6_blocks_21 ⟨Nat.le_of_ble_eq_true rfl, Nat.le_of_ble_eq_true rfl⟩) ?_
    refine n_idiv hx hb (by have := xpow_lt hk8; omega) (Nat.pow_pos (by decide)) (by have := xpow_lt hk8; omega) dX6_blocks_24 ?_
    exact xret_i hx hb hr hk dX6_blocks_25 (by rw [rBl_pos c_5])
  · have c_5 : ¬ (n ≠ 0 ∧ k ≤ rRt n) := fun q => c_5 ((rRI_le (by omega)).mpr q)
    refine lv_iconst (v := nI 0) hx hb dX6_blocks_8 rfl ?_
    refine lv_goto (tgt := 25) hx hb dX6_blocks_9 (by decide) ?_
    exact xret_i hx hb hr hk dX6_blocks_25 (by rw [← rBl_neg c_5])

set_option maxHeartbeats 4000000 in
set_option maxRecDepth 100000 in
theorem c_X6_allBlocks (l : Launch) (G : xG) (n : Nat) (hn : n ≤ 256) : Met l yX6_allBlocks wsX6_allBlocks ({ frames := 3, cells := 0, slots := 0, locals := 62 } : Room) (xPc G [.int (nI n)] (fun _ => True)) (k2_QcV (.int (nI (sumN (rBl n) 5)))) 0 0 (fun _ => False) := by
  refine xMet (cc := cX6_allBlocks) (nL := 3) (ret := (some (.int))) (by decide) rfl (Nat.le_of_ble_eq_true rfl) ?_
  intro p e s m below meth c S hr hk hnm hE hP ls hl
  obtain ⟨hx, hb, hml, hown, hts⟩ := id S
  have hown : s.vm.findClass RX6 = some m.cls := hown
  have hK := hE.1
  have hS : va_S (fun _ : Nat => False) s.heap s.heap [] := va_S.rf
  have hA : ∀ q, (fun _ : Nat => False) q → xB0 G ≤ q := fun _ h => h.elim
  have hl : lv_has ls 3 [(0, .int (nI n))] := hl
  refine lv_iconst (v := nI 0) hx hb dX6_allBlocks_0 rfl ?_
  refine lv_istore_n (lv' := [(1, .int (nI 0)), (0, .int (nI n))]) hx hb dX6_allBlocks_1 rfl hl (by decide) rfl (fun ls hl => ?_)
  refine lv_iconst (v := nI 0) hx hb dX6_allBlocks_2 rfl ?_
  refine lv_istore_n (lv' := [(2, .int (nI 0)), (1, .int (nI 0)), (0, .int (nI n))]) hx hb dX6_allBlocks_3 rfl hl (by decide) rfl (fun ls hl => ?_)
  have hl : lv_has ls 3 [(2, .int (nI 0)), (1, .int (nI (sumN (rBl n) 0))), (0, .int (nI n))] := lv_sub hl [0, 1, 2] rfl
  refine xloopR (σ := Nat) (C := (fun (x_ : Nat) ls => x_ ≤ 5 ∧ lv_has ls 3 [(2, .int (nI x_)), (1, .int (nI (sumN (rBl n) x_))), (0, .int (nI n))])) (μ := (fun (x_ : Nat) => 5 - x_)) (W' := fun ls => W p l e _ s m _ below meth c _ _ _ _ _ (F0 m 4 ls [])) ?_ 0 _ ⟨(by omega), hl⟩
  intro x_ ls hC ih_4
  obtain ⟨k, rfl⟩ : ∃ z, z = x_ := ⟨x_, rfl⟩
  obtain ⟨hk5, hl⟩ := hC
  have hk5 : k ≤ 5 := hk5
  have hl : lv_has ls 3 [(2, .int (nI k)), (1, .int (nI (sumN (rBl n) k))), (0, .int (nI n))] := hl
  refine id ?_
  refine lv_iload_n hx hb dX6_allBlocks_4 rfl (lv_at hl 0 rfl) ?_
  refine lv_iconst (v := nI 5) hx hb dX6_allBlocks_5 rfl ?_
  refine n_icmp_ge (tgt := 23) hx hb (by omega) (by omega) dX6_allBlocks_6 (by decide) (fun c_6 => ?_) (fun c_6 => ?_)
  · refine lv_iload_n hx hb dX6_allBlocks_23 rfl (lv_at hl 1 rfl) ?_
    exact xret_i hx hb hr hk dX6_allBlocks_24 (by rw [show k = 5 by omega])
  · refine lv_iload_n hx hb dX6_allBlocks_9 rfl (lv_at hl 1 rfl) ?_
    refine lv_iload_n hx hb dX6_allBlocks_10 rfl (lv_at hl 2 rfl) ?_
    refine lv_iload_n hx hb dX6_allBlocks_11 rfl (lv_at hl 0 rfl) ?_
    refine xrd (xrunS (As := [.int (nI n), .int (nI k)]) (rest := [.int (nI (sumN (rBl n) k))]) S (c_X6_blocks l G n k hn (by omega)) (va_cwS 2 hts gX6_allBlocks_X6_blocks rfl rfl rfl (by decide +kernel) ⟨Nat.le_of_ble_eq_true rfl, Nat.le_of_ble_eq_true rfl⟩) hE hS hA trivial rfl rfl hl.1 (Nat.le_of_ble_eq_true rfl) dX6_allBlocks_12 ⟨Nat.le_of_ble_eq_true rfl, Nat.le_of_ble_eq_true rfl⟩) ?_
    refine n_iadd hx hb dX6_allBlocks_15 ?_
    refine lv_istore_n (lv' := [(1, .int (nI ((sumN (rBl n) k) + (rBl n k)))), (2, .int (nI k)), (0, .int (nI n))]) hx hb dX6_allBlocks_16 rfl hl (by decide) rfl (fun ls hl => ?_)
    refine lv_iinc (v := nI (k + 1)) (lv' := [(2, .int (nI (k + 1))), (1, .int (nI ((sumN (rBl n) k) + (rBl n k)))), (0, .int (nI n))]) hx hb dX6_allBlocks_17 hl (k := 1) rfl (nI_add k 1) (by decide) rfl (fun ls hl => ?_)
    refine lv_goto (tgt := 4) hx hb dX6_allBlocks_20 (by decide) ?_
    have hl : lv_has ls 3 [(2, .int (nI (k + 1))), (1, .int (nI (sumN (rBl n) (k + 1)))), (0, .int (nI n))] := lv_sub hl [0, 1, 2] rfl
    exact ih_4 (k + 1) _ (by show 5 - (k + 1) < 5 - k; omega) ⟨(by omega), hl⟩

theorem hw_X6_no_f7 : Cond.fieldLink RX6 7 "TailVectorsModel" "now" "[I" ∈ wsX6_no := by decide +kernel
theorem hi_X6_no_RX6 : ∀ w ∈ u_ws RX6 TX6 9, w ∈ wsX6_no := by decide +kernel
set_option maxHeartbeats 4000000 in
set_option maxRecDepth 100000 in
theorem c_X6_no (l : Launch) (G : xG) (m0 : Nat) (aN : Nat) (aH : Nat) (aS : Nat) (aT : Nat) (N : Nat → Nat) (Hs : Nat → Nat) (Sl : Nat → Nat) (tx : Nat → Nat) (kept : Nat) (fil : Nat) (ty : Nat) (at_ : Nat) (nu : Nat) (x : Int32) (hN : ∀ j, N j < 2 ^ 24) (hev : 1 ≤ N 10171) (hev2 : N 10171 ≤ 24) : Met l yX6_no wsX6_no ({ frames := 1, cells := 0, slots := 0, locals := 22 } : Room) (xPc G [.ref m0, .int x] (fun H => va_P G.1 vwCl [(m0, .inr (6, [.ref aN, .ref aH, .int (nI kept), .ref aS, .int (nI fil), .int (nI ty), .ref aT, .int (nI at_), .int (nI nu)])), (aN, .inl (xcI G, 10276, .inl (nf N))), (aH, .inl (xcI G, 41104, .inl (nf Hs))), (aS, .inl (xcI G, 10276, .inl (nf Sl))), (aT, .inl (xcC G, 60, .inl (nf tx)))] H)) (k2_QcV (.int (bI (rNo N x)))) 0 0 (fun _ => False) := by
  refine xMet (cc := cX6_no) (nL := 2) (ret := (some (.boolean))) (by decide) rfl (Nat.le_of_ble_eq_true rfl) ?_
  intro p e s m below meth c S hr hk hnm hE hP ls hl
  obtain ⟨hx, hb, hml, hown, hts⟩ := id S
  have hown : s.vm.findClass RX6 = some m.cls := hown
  have hK := hE.1
  have hS : va_S (fun _ : Nat => False) s.heap s.heap [] := va_S.rf
  have hA : ∀ q, (fun _ : Nat => False) q → xB0 G ≤ q := fun _ h => h.elim
  have hP : va_P G.1 vwCl [(m0, .inr (6, [.ref aN, .ref aH, .int (nI kept), .ref aS, .int (nI fil), .int (nI ty), .ref aT, .int (nI at_), .int (nI nu)])), (aN, .inl (xcI G, 10276, .inl (nf N))), (aH, .inl (xcI G, 41104, .inl (nf Hs))), (aS, .inl (xcI G, 10276, .inl (nf Sl))), (aT, .inl (xcC G, 60, .inl (nf tx)))] s.heap := hP
  have hl : lv_has ls 2 [(0, .ref m0), (1, .int x)] := hl
  refine lv_iload_n hx hb dX6_no_0 rfl (lv_at hl 1 rfl) ?_
  refine lv_iconst (v := nI 0) hx hb dX6_no_1 rfl ?_
  refine lv_aload_n hx hb dX6_no_2 rfl (lv_at hl 0 rfl) ?_
  refine va_get (D := G.1) (ci := 6) (v := .ref aN) (C := RX6) (T := TX6) (N := 9) hx hb hts hi_X6_no_RX6 hown hK hP 0 rfl rfl 0 (by decide) (hts _ hw_X6_no_f7) (fun _ h9 => h9) rfl dX6_no_3 ?_
  refine lv_sipush (v := nI 10171) hx hb dX6_no_6 (by decide) ?_
  refine n_iald hx hb hK hP 1 0 rfl rfl (by omega) (by decide) dX6_no_9 ?_
  refine lv_iconst (v := nI 1) hx hb dX6_no_10 rfl ?_
  refine n_isub hx hb (by have := hN 10171; omega) dX6_no_11 ?_
  refine xrd (xrunS (As := [.int x, .int (nI 0), .int (nI ((N 10171) - 1))]) (rest := []) S (c_X6_in l G x (nI 0) (nI ((N 10171) - 1)) ) (va_cwS 3 hts gX6_no_X6_in rfl rfl rfl (by decide +kernel) ⟨Nat.le_of_ble_eq_true rfl, Nat.le_of_ble_eq_true rfl⟩) hE hS hA trivial rfl rfl hl.1 (Nat.le_of_ble_eq_true rfl) dX6_no_12 ⟨Nat.le_of_ble_eq_true rfl, Nat.le_of_ble_eq_true rfl⟩) ?_
  refine b_if_eq (tgt := 33) hx hb dX6_no_15 (by decide) (fun c_15 => ?_) (fun c_15 => ?_)
  · refine lv_iconst (v := nI 1) hx hb dX6_no_33 rfl ?_
    refine lv_goto (tgt := 38) hx hb dX6_no_34 (by decide) ?_
    exact xret_z hx hb hr hk dX6_no_38 (by first | exact Or.inl rfl | exact Or.inr rfl) (xb1 (Or.inl c_15))
  · have c_15b := c_15
    obtain ⟨k, hk24, rfl⟩ := xin_of (by omega) c_15
    refine lv_aload_n hx hb dX6_no_18 rfl (lv_at hl 0 rfl) ?_
    refine va_get (D := G.1) (ci := 6) (v := .ref aN) (C := RX6) (T := TX6) (N := 9) hx hb hts hi_X6_no_RX6 hown hK hP 0 rfl rfl 0 (by decide) (hts _ hw_X6_no_f7) (fun _ h9 => h9) rfl dX6_no_19 ?_
    refine lv_sipush (v := nI 10075) hx hb dX6_no_22 (by decide) ?_
    refine lv_iconst (v := nI 4) hx hb dX6_no_25 rfl ?_
    refine lv_iload_n hx hb dX6_no_26 rfl (lv_at hl 1 rfl) ?_
    refine n_imul hx hb dX6_no_27 ?_
    refine n_iadd hx hb dX6_no_28 ?_
    refine n_iald hx hb hK hP 1 0 rfl rfl (by omega) (by decide) dX6_no_29 ?_
    refine n_if_ne (tgt := 37) hx hb (by have := hN (10075 + 4 * k); omega) dX6_no_30 (by decide) (fun c_30 => ?_) (fun c_30 => ?_)
    · refine lv_iconst (v := nI 0) hx hb dX6_no_37 rfl ?_
      exact xret_z hx hb hr hk dX6_no_38 (by first | exact Or.inl rfl | exact Or.inr rfl) (xb0 (fun q => q.elim (fun z => z c_15b) (fun z => by rw [nI_clamp (by omega)] at z; exact c_30 z)))
    · refine lv_iconst (v := nI 1) hx hb dX6_no_33 rfl ?_
      refine lv_goto (tgt := 38) hx hb dX6_no_34 (by decide) ?_
      exact xret_z hx hb hr hk dX6_no_38 (by first | exact Or.inl rfl | exact Or.inr rfl) (xb1 (Or.inr (by rw [nI_clamp (by omega)]; exact c_30)))

theorem hw_X6_isWindow_f7 : Cond.fieldLink RX6 7 "TailVectorsModel" "now" "[I" ∈ wsX6_isWindow := by decide +kernel
theorem hi_X6_isWindow_RX6 : ∀ w ∈ u_ws RX6 TX6 9, w ∈ wsX6_isWindow := by decide +kernel
set_option maxHeartbeats 4000000 in
set_option maxRecDepth 100000 in
theorem c_X6_isWindow (l : Launch) (G : xG) (m0 : Nat) (aN : Nat) (aH : Nat) (aS : Nat) (aT : Nat) (N : Nat → Nat) (Hs : Nat → Nat) (Sl : Nat → Nat) (tx : Nat → Nat) (kept : Nat) (fil : Nat) (ty : Nat) (at_ : Nat) (nu : Nat) (k : Nat) (hN : ∀ j, N j < 2 ^ 24) (hk24 : k ≤ 24) : Met l yX6_isWindow wsX6_isWindow ({ frames := 0, cells := 0, slots := 0, locals := 0 } : Room) (xPc G [.ref m0, .int (nI k)] (fun H => va_P G.1 vwCl [(m0, .inr (6, [.ref aN, .ref aH, .int (nI kept), .ref aS, .int (nI fil), .int (nI ty), .ref aT, .int (nI at_), .int (nI nu)])), (aN, .inl (xcI G, 10276, .inl (nf N))), (aH, .inl (xcI G, 41104, .inl (nf Hs))), (aS, .inl (xcI G, 10276, .inl (nf Sl))), (aT, .inl (xcC G, 60, .inl (nf tx)))] H)) (k2_QcV (.int (bI (N (10075 + 4 * k + 1) = 1)))) 0 0 (fun _ => False) := by
  refine xMet (cc := cX6_isWindow) (nL := 2) (ret := (some (.boolean))) (by decide) rfl (Nat.le_of_ble_eq_true rfl) ?_
  intro p e s m below meth c S hr hk hnm hE hP ls hl
  obtain ⟨hx, hb, hml, hown, hts⟩ := id S
  have hown : s.vm.findClass RX6 = some m.cls := hown
  have hK := hE.1
  have hS : va_S (fun _ : Nat => False) s.heap s.heap [] := va_S.rf
  have hA : ∀ q, (fun _ : Nat => False) q → xB0 G ≤ q := fun _ h => h.elim
  have hP : va_P G.1 vwCl [(m0, .inr (6, [.ref aN, .ref aH, .int (nI kept), .ref aS, .int (nI fil), .int (nI ty), .ref aT, .int (nI at_), .int (nI nu)])), (aN, .inl (xcI G, 10276, .inl (nf N))), (aH, .inl (xcI G, 41104, .inl (nf Hs))), (aS, .inl (xcI G, 10276, .inl (nf Sl))), (aT, .inl (xcC G, 60, .inl (nf tx)))] s.heap := hP
  have hl : lv_has ls 2 [(0, .ref m0), (1, .int (nI k))] := hl
  refine lv_aload_n hx hb dX6_isWindow_0 rfl (lv_at hl 0 rfl) ?_
  refine va_get (D := G.1) (ci := 6) (v := .ref aN) (C := RX6) (T := TX6) (N := 9) hx hb hts hi_X6_isWindow_RX6 hown hK hP 0 rfl rfl 0 (by decide) (hts _ hw_X6_isWindow_f7) (fun _ h9 => h9) rfl dX6_isWindow_1 ?_
  refine lv_sipush (v := nI 10075) hx hb dX6_isWindow_4 (by decide) ?_
  refine lv_iconst (v := nI 4) hx hb dX6_isWindow_7 rfl ?_
  refine lv_iload_n hx hb dX6_isWindow_8 rfl (lv_at hl 1 rfl) ?_
  refine n_imul hx hb dX6_isWindow_9 ?_
  refine n_iadd hx hb dX6_isWindow_10 ?_
  refine lv_iconst (v := nI 1) hx hb dX6_isWindow_11 rfl ?_
  refine n_iadd hx hb dX6_isWindow_12 ?_
  refine n_iald hx hb hK hP 1 0 rfl rfl (by omega) (by decide) dX6_isWindow_13 ?_
  refine lv_iconst (v := nI 1) hx hb dX6_isWindow_14 rfl ?_
  refine n_icmp_ne (tgt := 22) hx hb (by have := hN ((10075 + (4 * k)) + 1); omega) (by omega) dX6_isWindow_15 (by decide) (fun c_15 => ?_) (fun c_15 => ?_)
  · refine lv_iconst (v := nI 0) hx hb dX6_isWindow_22 rfl ?_
    exact xret_z hx hb hr hk dX6_isWindow_23 (by first | exact Or.inl rfl | exact Or.inr rfl) (xb0 (by omega))
  · refine lv_iconst (v := nI 1) hx hb dX6_isWindow_18 rfl ?_
    refine lv_goto (tgt := 23) hx hb dX6_isWindow_19 (by decide) ?_
    exact xret_z hx hb hr hk dX6_isWindow_23 (by first | exact Or.inl rfl | exact Or.inr rfl) (xb1 (by omega))

theorem hw_X6_first_f7 : Cond.fieldLink RX6 7 "TailVectorsModel" "now" "[I" ∈ wsX6_first := by decide +kernel
theorem hi_X6_first_RX6 : ∀ w ∈ u_ws RX6 TX6 9, w ∈ wsX6_first := by decide +kernel
set_option maxHeartbeats 4000000 in
set_option maxRecDepth 100000 in
theorem c_X6_first (l : Launch) (G : xG) (m0 : Nat) (aN : Nat) (aH : Nat) (aS : Nat) (aT : Nat) (N : Nat → Nat) (Hs : Nat → Nat) (Sl : Nat → Nat) (tx : Nat → Nat) (kept : Nat) (fil : Nat) (ty : Nat) (at_ : Nat) (nu : Nat) (k : Nat) (hN : ∀ j, N j < 2 ^ 24) (hk24 : k ≤ 24) : Met l yX6_first wsX6_first ({ frames := 0, cells := 0, slots := 0, locals := 0 } : Room) (xPc G [.ref m0, .int (nI k)] (fun H => va_P G.1 vwCl [(m0, .inr (6, [.ref aN, .ref aH, .int (nI kept), .ref aS, .int (nI fil), .int (nI ty), .ref aT, .int (nI at_), .int (nI nu)])), (aN, .inl (xcI G, 10276, .inl (nf N))), (aH, .inl (xcI G, 41104, .inl (nf Hs))), (aS, .inl (xcI G, 10276, .inl (nf Sl))), (aT, .inl (xcC G, 60, .inl (nf tx)))] H)) (k2_QcV (.int (nI (N (10075 + 4 * k + 2))))) 0 0 (fun _ => False) := by
  refine xMet (cc := cX6_first) (nL := 2) (ret := (some (.int))) (by decide) rfl (Nat.le_of_ble_eq_true rfl) ?_
  intro p e s m below meth c S hr hk hnm hE hP ls hl
  obtain ⟨hx, hb, hml, hown, hts⟩ := id S
  have hown : s.vm.findClass RX6 = some m.cls := hown
  have hK := hE.1
  have hS : va_S (fun _ : Nat => False) s.heap s.heap [] := va_S.rf
  have hA : ∀ q, (fun _ : Nat => False) q → xB0 G ≤ q := fun _ h => h.elim
  have hP : va_P G.1 vwCl [(m0, .inr (6, [.ref aN, .ref aH, .int (nI kept), .ref aS, .int (nI fil), .int (nI ty), .ref aT, .int (nI at_), .int (nI nu)])), (aN, .inl (xcI G, 10276, .inl (nf N))), (aH, .inl (xcI G, 41104, .inl (nf Hs))), (aS, .inl (xcI G, 10276, .inl (nf Sl))), (aT, .inl (xcC G, 60, .inl (nf tx)))] s.heap := hP
  have hl : lv_has ls 2 [(0, .ref m0), (1, .int (nI k))] := hl
  refine lv_aload_n hx hb dX6_first_0 rfl (lv_at hl 0 rfl) ?_
  refine va_get (D := G.1) (ci := 6) (v := .ref aN) (C := RX6) (T := TX6) (N := 9) hx hb hts hi_X6_first_RX6 hown hK hP 0 rfl rfl 0 (by decide) (hts _ hw_X6_first_f7) (fun _ h9 => h9) rfl dX6_first_1 ?_
  refine lv_sipush (v := nI 10075) hx hb dX6_first_4 (by decide) ?_
  refine lv_iconst (v := nI 4) hx hb dX6_first_7 rfl ?_
  refine lv_iload_n hx hb dX6_first_8 rfl (lv_at hl 1 rfl) ?_
  refine n_imul hx hb dX6_first_9 ?_
  refine n_iadd hx hb dX6_first_10 ?_
  refine lv_iconst (v := nI 2) hx hb dX6_first_11 rfl ?_
  refine n_iadd hx hb dX6_first_12 ?_
  refine n_iald hx hb hK hP 1 0 rfl rfl (by omega) (by decide) dX6_first_13 ?_
  exact xret_i hx hb hr hk dX6_first_14 rfl

theorem hw_X6_rowLength_f7 : Cond.fieldLink RX6 7 "TailVectorsModel" "now" "[I" ∈ wsX6_rowLength := by decide +kernel
theorem hi_X6_rowLength_RX6 : ∀ w ∈ u_ws RX6 TX6 9, w ∈ wsX6_rowLength := by decide +kernel
set_option maxHeartbeats 4000000 in
set_option maxRecDepth 100000 in
theorem c_X6_rowLength (l : Launch) (G : xG) (m0 : Nat) (aN : Nat) (aH : Nat) (aS : Nat) (aT : Nat) (N : Nat → Nat) (Hs : Nat → Nat) (Sl : Nat → Nat) (tx : Nat → Nat) (kept : Nat) (fil : Nat) (ty : Nat) (at_ : Nat) (nu : Nat) (k : Nat) (hN : ∀ j, N j < 2 ^ 24) (hk24 : k ≤ 24) : Met l yX6_rowLength wsX6_rowLength ({ frames := 0, cells := 0, slots := 0, locals := 0 } : Room) (xPc G [.ref m0, .int (nI k)] (fun H => va_P G.1 vwCl [(m0, .inr (6, [.ref aN, .ref aH, .int (nI kept), .ref aS, .int (nI fil), .int (nI ty), .ref aT, .int (nI at_), .int (nI nu)])), (aN, .inl (xcI G, 10276, .inl (nf N))), (aH, .inl (xcI G, 41104, .inl (nf Hs))), (aS, .inl (xcI G, 10276, .inl (nf Sl))), (aT, .inl (xcC G, 60, .inl (nf tx)))] H)) (k2_QcV (.int (nI (N (403 * k))))) 0 0 (fun _ => False) := by
  refine xMet (cc := cX6_rowLength) (nL := 2) (ret := (some (.int))) (by decide) rfl (Nat.le_of_ble_eq_true rfl) ?_
  intro p e s m below meth c S hr hk hnm hE hP ls hl
  obtain ⟨hx, hb, hml, hown, hts⟩ := id S
  have hown : s.vm.findClass RX6 = some m.cls := hown
  have hK := hE.1
  have hS : va_S (fun _ : Nat => False) s.heap s.heap [] := va_S.rf
  have hA : ∀ q, (fun _ : Nat => False) q → xB0 G ≤ q := fun _ h => h.elim
  have hP : va_P G.1 vwCl [(m0, .inr (6, [.ref aN, .ref aH, .int (nI kept), .ref aS, .int (nI fil), .int (nI ty), .ref aT, .int (nI at_), .int (nI nu)])), (aN, .inl (xcI G, 10276, .inl (nf N))), (aH, .inl (xcI G, 41104, .inl (nf Hs))), (aS, .inl (xcI G, 10276, .inl (nf Sl))), (aT, .inl (xcC G, 60, .inl (nf tx)))] s.heap := hP
  have hl : lv_has ls 2 [(0, .ref m0), (1, .int (nI k))] := hl
  refine lv_aload_n hx hb dX6_rowLength_0 rfl (lv_at hl 0 rfl) ?_
  refine va_get (D := G.1) (ci := 6) (v := .ref aN) (C := RX6) (T := TX6) (N := 9) hx hb hts hi_X6_rowLength_RX6 hown hK hP 0 rfl rfl 0 (by decide) (hts _ hw_X6_rowLength_f7) (fun _ h9 => h9) rfl dX6_rowLength_1 ?_
  refine lv_sipush (v := nI 403) hx hb dX6_rowLength_4 (by decide) ?_
  refine lv_iload_n hx hb dX6_rowLength_7 rfl (lv_at hl 1 rfl) ?_
  refine n_imul hx hb dX6_rowLength_8 ?_
  refine n_iald hx hb hK hP 1 0 rfl rfl (by omega) (by decide) dX6_rowLength_9 ?_
  exact xret_i hx hb hr hk dX6_rowLength_10 rfl

theorem hw_X6_length_f7 : Cond.fieldLink RX6 7 "TailVectorsModel" "now" "[I" ∈ wsX6_length := by decide +kernel
theorem hi_X6_length_RX6 : ∀ w ∈ u_ws RX6 TX6 9, w ∈ wsX6_length := by decide +kernel
set_option maxHeartbeats 4000000 in
set_option maxRecDepth 100000 in
theorem c_X6_length (l : Launch) (G : xG) (m0 : Nat) (aN : Nat) (aH : Nat) (aS : Nat) (aT : Nat) (N : Nat → Nat) (Hs : Nat → Nat) (Sl : Nat → Nat) (tx : Nat → Nat) (kept : Nat) (fil : Nat) (ty : Nat) (at_ : Nat) (nu : Nat) (k : Nat) (hN : ∀ j, N j < 2 ^ 24) (hk24 : k ≤ 24) : Met l yX6_length wsX6_length ({ frames := 1, cells := 0, slots := 0, locals := 21 } : Room) (xPc G [.ref m0, .int (nI k)] (fun H => va_P G.1 vwCl [(m0, .inr (6, [.ref aN, .ref aH, .int (nI kept), .ref aS, .int (nI fil), .int (nI ty), .ref aT, .int (nI at_), .int (nI nu)])), (aN, .inl (xcI G, 10276, .inl (nf N))), (aH, .inl (xcI G, 41104, .inl (nf Hs))), (aS, .inl (xcI G, 10276, .inl (nf Sl))), (aT, .inl (xcC G, 60, .inl (nf tx)))] H)) (k2_QcV (.int (nI (rLen N k)))) 0 0 (fun _ => False) := by
  refine xMet (cc := cX6_length) (nL := 2) (ret := (some (.int))) (by decide) rfl (Nat.le_of_ble_eq_true rfl) ?_
  intro p e s m below meth c S hr hk hnm hE hP ls hl
  obtain ⟨hx, hb, hml, hown, hts⟩ := id S
  have hown : s.vm.findClass RX6 = some m.cls := hown
  have hK := hE.1
  have hS : va_S (fun _ : Nat => False) s.heap s.heap [] := va_S.rf
  have hA : ∀ q, (fun _ : Nat => False) q → xB0 G ≤ q := fun _ h => h.elim
  have hP : va_P G.1 vwCl [(m0, .inr (6, [.ref aN, .ref aH, .int (nI kept), .ref aS, .int (nI fil), .int (nI ty), .ref aT, .int (nI at_), .int (nI nu)])), (aN, .inl (xcI G, 10276, .inl (nf N))), (aH, .inl (xcI G, 41104, .inl (nf Hs))), (aS, .inl (xcI G, 10276, .inl (nf Sl))), (aT, .inl (xcC G, 60, .inl (nf tx)))] s.heap := hP
  have hl : lv_has ls 2 [(0, .ref m0), (1, .int (nI k))] := hl
  refine lv_aload_n hx hb dX6_length_0 rfl (lv_at hl 0 rfl) ?_
  refine lv_iload_n hx hb dX6_length_1 rfl (lv_at hl 1 rfl) ?_
  refine xrd (xrunV (As := [.int (nI k)]) (rest := []) S (c_X6_isWindow l G m0 aN aH aS aT N Hs Sl tx kept fil ty at_ nu k hN (by omega)) (cwV 1 hts gX6_length_X6_isWindow rfl rfl rfl (by decide +kernel) ⟨Nat.le_of_ble_eq_true rfl, Nat.le_of_ble_eq_true rfl⟩) hE hS hA 0 6 hP rfl rfl rfl hP rfl rfl hl.1 (Nat.le_of_ble_eq_true rfl) dX6_length_2 ⟨Nat.le_of_ble_eq_true rfl, Nat.le_of_ble_eq_true rfl⟩) ?_
  refine b_if_eq (tgt := 25) hx hb dX6_length_5 (by decide) (fun c_5 => ?_) (fun c_5 => ?_)
  · refine lv_aload_n hx hb dX6_length_25 rfl (lv_at hl 0 rfl) ?_
    refine lv_iload_n hx hb dX6_length_26 rfl (lv_at hl 1 rfl) ?_
    refine xrd (xrunV (As := [.int (nI k)]) (rest := []) S (c_X6_rowLength l G m0 aN aH aS aT N Hs Sl tx kept fil ty at_ nu k hN (by omega)) (cwV 1 hts gX6_length_X6_rowLength rfl rfl rfl (by decide +kernel) ⟨Nat.le_of_ble_eq_true rfl, Nat.le_of_ble_eq_true rfl⟩) hE hS hA 0 6 hP rfl rfl rfl hP rfl rfl hl.1 (Nat.le_of_ble_eq_true rfl) dX6_length_27 ⟨Nat.le_of_ble_eq_true rfl, Nat.le_of_ble_eq_true rfl⟩) ?_
    exact xret_i hx hb hr hk dX6_length_30 (by rw [rLen, if_neg c_5])
  · refine lv_aload_n hx hb dX6_length_8 rfl (lv_at hl 0 rfl) ?_
    refine va_get (D := G.1) (ci := 6) (v := .ref aN) (C := RX6) (T := TX6) (N := 9) hx hb hts hi_X6_length_RX6 hown hK hP 0 rfl rfl 0 (by decide) (hts _ hw_X6_length_f7) (fun _ h9 => h9) rfl dX6_length_9 ?_
    refine lv_sipush (v := nI 10075) hx hb dX6_length_12 (by decide) ?_
    refine lv_iconst (v := nI 4) hx hb dX6_length_15 rfl ?_
    refine lv_iload_n hx hb dX6_length_16 rfl (lv_at hl 1 rfl) ?_
    refine n_imul hx hb dX6_length_17 ?_
    refine n_iadd hx hb dX6_length_18 ?_
    refine lv_iconst (v := nI 3) hx hb dX6_length_19 rfl ?_
    refine n_iadd hx hb dX6_length_20 ?_
    refine n_iald hx hb hK hP 1 0 rfl rfl (by omega) (by decide) dX6_length_21 ?_
    refine lv_goto (tgt := 30) hx hb dX6_length_22 (by decide) ?_
    exact xret_i hx hb hr hk dX6_length_30 (by rw [rLen, if_pos c_5])

theorem hw_X6_value_f7 : Cond.fieldLink RX6 7 "TailVectorsModel" "now" "[I" ∈ wsX6_value := by decide +kernel
theorem hi_X6_value_RX6 : ∀ w ∈ u_ws RX6 TX6 9, w ∈ wsX6_value := by decide +kernel
set_option maxHeartbeats 4000000 in
set_option maxRecDepth 100000 in
theorem c_X6_value (l : Launch) (G : xG) (m0 : Nat) (aN : Nat) (aH : Nat) (aS : Nat) (aT : Nat) (N : Nat → Nat) (Hs : Nat → Nat) (Sl : Nat → Nat) (tx : Nat → Nat) (kept : Nat) (fil : Nat) (ty : Nat) (at_ : Nat) (nu : Nat) (k : Nat) (j : Nat) (hN : ∀ j, N j < 2 ^ 24) (hk24 : k ≤ 24) (hix : 403 * k + 1 + N (10075 + 4 * k + 2) + j < 10276) : Met l yX6_value wsX6_value ({ frames := 1, cells := 0, slots := 0, locals := 21 } : Room) (xPc G [.ref m0, .int (nI k), .int (nI j)] (fun H => va_P G.1 vwCl [(m0, .inr (6, [.ref aN, .ref aH, .int (nI kept), .ref aS, .int (nI fil), .int (nI ty), .ref aT, .int (nI at_), .int (nI nu)])), (aN, .inl (xcI G, 10276, .inl (nf N))), (aH, .inl (xcI G, 41104, .inl (nf Hs))), (aS, .inl (xcI G, 10276, .inl (nf Sl))), (aT, .inl (xcC G, 60, .inl (nf tx)))] H)) (k2_QcV (.int (nI (rVal N k j)))) 0 0 (fun _ => False) := by
  refine xMet (cc := cX6_value) (nL := 3) (ret := (some (.int))) (by decide) rfl (Nat.le_of_ble_eq_true rfl) ?_
  intro p e s m below meth c S hr hk hnm hE hP ls hl
  obtain ⟨hx, hb, hml, hown, hts⟩ := id S
  have hown : s.vm.findClass RX6 = some m.cls := hown
  have hK := hE.1
  have hS : va_S (fun _ : Nat => False) s.heap s.heap [] := va_S.rf
  have hA : ∀ q, (fun _ : Nat => False) q → xB0 G ≤ q := fun _ h => h.elim
  have hP : va_P G.1 vwCl [(m0, .inr (6, [.ref aN, .ref aH, .int (nI kept), .ref aS, .int (nI fil), .int (nI ty), .ref aT, .int (nI at_), .int (nI nu)])), (aN, .inl (xcI G, 10276, .inl (nf N))), (aH, .inl (xcI G, 41104, .inl (nf Hs))), (aS, .inl (xcI G, 10276, .inl (nf Sl))), (aT, .inl (xcC G, 60, .inl (nf tx)))] s.heap := hP
  have hl : lv_has ls 3 [(0, .ref m0), (1, .int (nI k)), (2, .int (nI j))] := hl
  refine lv_aload_n hx hb dX6_value_0 rfl (lv_at hl 0 rfl) ?_
  refine va_get (D := G.1) (ci := 6) (v := .ref aN) (C := RX6) (T := TX6) (N := 9) hx hb hts hi_X6_value_RX6 hown hK hP 0 rfl rfl 0 (by decide) (hts _ hw_X6_value_f7) (fun _ h9 => h9) rfl dX6_value_1 ?_
  refine lv_sipush (v := nI 403) hx hb dX6_value_4 (by decide) ?_
  refine lv_iload_n hx hb dX6_value_7 rfl (lv_at hl 1 rfl) ?_
  refine n_imul hx hb dX6_value_8 ?_
  refine lv_iconst (v := nI 1) hx hb dX6_value_9 rfl ?_
  refine n_iadd hx hb dX6_value_10 ?_
  refine lv_aload_n hx hb dX6_value_11 rfl (lv_at hl 0 rfl) ?_
  refine lv_iload_n hx hb dX6_value_12 rfl (lv_at hl 1 rfl) ?_
  refine xrd (xrunV (As := [.int (nI k)]) (rest := [.int (nI ((403 * k) + 1)), .ref aN]) S (c_X6_first l G m0 aN aH aS aT N Hs Sl tx kept fil ty at_ nu k hN (by omega)) (cwV 1 hts gX6_value_X6_first rfl rfl rfl (by decide +kernel) ⟨Nat.le_of_ble_eq_true rfl, Nat.le_of_ble_eq_true rfl⟩) hE hS hA 0 6 hP rfl rfl rfl hP rfl rfl hl.1 (Nat.le_of_ble_eq_true rfl) dX6_value_13 ⟨Nat.le_of_ble_eq_true rfl, Nat.le_of_ble_eq_true rfl⟩) ?_
  refine n_iadd hx hb dX6_value_16 ?_
  refine lv_iload_n hx hb dX6_value_17 rfl (lv_at hl 2 rfl) ?_
  refine n_iadd hx hb dX6_value_18 ?_
  refine n_iald hx hb hK hP 1 0 rfl rfl hix (by decide) dX6_value_19 ?_
  exact xret_i hx hb hr hk dX6_value_20 rfl

theorem hw_X6_id_f7 : Cond.fieldLink RX6 7 "TailVectorsModel" "now" "[I" ∈ wsX6_id := by decide +kernel
theorem hi_X6_id_RX6 : ∀ w ∈ u_ws RX6 TX6 9, w ∈ wsX6_id := by decide +kernel
set_option maxHeartbeats 4000000 in
set_option maxRecDepth 100000 in
theorem c_X6_id (l : Launch) (G : xG) (m0 : Nat) (aN : Nat) (aH : Nat) (aS : Nat) (aT : Nat) (N : Nat → Nat) (Hs : Nat → Nat) (Sl : Nat → Nat) (tx : Nat → Nat) (kept : Nat) (fil : Nat) (ty : Nat) (at_ : Nat) (nu : Nat) (r : Nat) (k : Nat) (j : Nat) (hN : ∀ j, N j < 2 ^ 24) (hk8 : k ≤ 8) (hix : 403 * r + 301 + rBg k + j < 10276) : Met l yX6_id wsX6_id ({ frames := 1, cells := 0, slots := 0, locals := 20 } : Room) (xPc G [.ref m0, .int (nI r), .int (nI k), .int (nI j)] (fun H => va_P G.1 vwCl [(m0, .inr (6, [.ref aN, .ref aH, .int (nI kept), .ref aS, .int (nI fil), .int (nI ty), .ref aT, .int (nI at_), .int (nI nu)])), (aN, .inl (xcI G, 10276, .inl (nf N))), (aH, .inl (xcI G, 41104, .inl (nf Hs))), (aS, .inl (xcI G, 10276, .inl (nf Sl))), (aT, .inl (xcC G, 60, .inl (nf tx)))] H)) (k2_QcV (.int (nI (rId N r k j)))) 0 0 (fun _ => False) := by
  refine xMet (cc := cX6_id) (nL := 4) (ret := (some (.int))) (by decide) rfl (Nat.le_of_ble_eq_true rfl) ?_
  intro p e s m below meth c S hr hk hnm hE hP ls hl
  obtain ⟨hx, hb, hml, hown, hts⟩ := id S
  have hown : s.vm.findClass RX6 = some m.cls := hown
  have hK := hE.1
  have hS : va_S (fun _ : Nat => False) s.heap s.heap [] := va_S.rf
  have hA : ∀ q, (fun _ : Nat => False) q → xB0 G ≤ q := fun _ h => h.elim
  have hP : va_P G.1 vwCl [(m0, .inr (6, [.ref aN, .ref aH, .int (nI kept), .ref aS, .int (nI fil), .int (nI ty), .ref aT, .int (nI at_), .int (nI nu)])), (aN, .inl (xcI G, 10276, .inl (nf N))), (aH, .inl (xcI G, 41104, .inl (nf Hs))), (aS, .inl (xcI G, 10276, .inl (nf Sl))), (aT, .inl (xcC G, 60, .inl (nf tx)))] s.heap := hP
  have hl : lv_has ls 4 [(0, .ref m0), (1, .int (nI r)), (2, .int (nI k)), (3, .int (nI j))] := hl
  refine lv_aload_n hx hb dX6_id_0 rfl (lv_at hl 0 rfl) ?_
  refine va_get (D := G.1) (ci := 6) (v := .ref aN) (C := RX6) (T := TX6) (N := 9) hx hb hts hi_X6_id_RX6 hown hK hP 0 rfl rfl 0 (by decide) (hts _ hw_X6_id_f7) (fun _ h9 => h9) rfl dX6_id_1 ?_
  refine lv_sipush (v := nI 403) hx hb dX6_id_4 (by decide) ?_
  refine lv_iload_n hx hb dX6_id_7 rfl (lv_at hl 1 rfl) ?_
  refine n_imul hx hb dX6_id_8 ?_
  refine lv_sipush (v := nI 301) hx hb dX6_id_9 (by decide) ?_
  refine n_iadd hx hb dX6_id_12 ?_
  refine lv_iload_n hx hb dX6_id_13 rfl (lv_at hl 2 rfl) ?_
  refine xrd (xrunS (As := [.int (nI k)]) (rest := [.int (nI ((403 * r) + 301)), .ref aN]) S (c_X6_begins l G k (by omega)) (va_cwS 1 hts gX6_id_X6_begins rfl rfl rfl (by decide +kernel) ⟨Nat.le_of_ble_eq_true rfl, Nat.le_of_ble_eq_true rfl⟩) hE hS hA trivial rfl rfl hl.1 (Nat.le_of_ble_eq_true rfl) dX6_id_14 ⟨Nat.le_of_ble_eq_true rfl, Nat.le_of_ble_eq_true rfl⟩) ?_
  refine n_iadd hx hb dX6_id_17 ?_
  refine lv_iload_n hx hb dX6_id_18 rfl (lv_at hl 3 rfl) ?_
  refine n_iadd hx hb dX6_id_19 ?_
  refine n_iald hx hb hK hP 1 0 rfl rfl hix (by decide) dX6_id_20 ?_
  exact xret_i hx hb hr hk dX6_id_21 rfl

theorem hw_X6_isFull_f7 : Cond.fieldLink RX6 7 "TailVectorsModel" "now" "[I" ∈ wsX6_isFull := by decide +kernel
theorem hi_X6_isFull_RX6 : ∀ w ∈ u_ws RX6 TX6 9, w ∈ wsX6_isFull := by decide +kernel
set_option maxHeartbeats 4000000 in
set_option maxRecDepth 100000 in
theorem c_X6_isFull (l : Launch) (G : xG) (m0 : Nat) (aN : Nat) (aH : Nat) (aS : Nat) (aT : Nat) (N : Nat → Nat) (Hs : Nat → Nat) (Sl : Nat → Nat) (tx : Nat → Nat) (kept : Nat) (fil : Nat) (ty : Nat) (at_ : Nat) (nu : Nat) (hN : ∀ j, N j < 2 ^ 24) : Met l yX6_isFull wsX6_isFull ({ frames := 0, cells := 0, slots := 0, locals := 0 } : Room) (xPc G [.ref m0] (fun H => va_P G.1 vwCl [(m0, .inr (6, [.ref aN, .ref aH, .int (nI kept), .ref aS, .int (nI fil), .int (nI ty), .ref aT, .int (nI at_), .int (nI nu)])), (aN, .inl (xcI G, 10276, .inl (nf N))), (aH, .inl (xcI G, 41104, .inl (nf Hs))), (aS, .inl (xcI G, 10276, .inl (nf Sl))), (aT, .inl (xcC G, 60, .inl (nf tx)))] H)) (k2_QcV (.int (bI (N 10171 = 24)))) 0 0 (fun _ => False) := by
  refine xMet (cc := cX6_isFull) (nL := 1) (ret := (some (.boolean))) (by decide) rfl (Nat.le_of_ble_eq_true rfl) ?_
  intro p e s m below meth c S hr hk hnm hE hP ls hl
  obtain ⟨hx, hb, hml, hown, hts⟩ := id S
  have hown : s.vm.findClass RX6 = some m.cls := hown
  have hK := hE.1
  have hS : va_S (fun _ : Nat => False) s.heap s.heap [] := va_S.rf
  have hA : ∀ q, (fun _ : Nat => False) q → xB0 G ≤ q := fun _ h => h.elim
  have hP : va_P G.1 vwCl [(m0, .inr (6, [.ref aN, .ref aH, .int (nI kept), .ref aS, .int (nI fil), .int (nI ty), .ref aT, .int (nI at_), .int (nI nu)])), (aN, .inl (xcI G, 10276, .inl (nf N))), (aH, .inl (xcI G, 41104, .inl (nf Hs))), (aS, .inl (xcI G, 10276, .inl (nf Sl))), (aT, .inl (xcC G, 60, .inl (nf tx)))] s.heap := hP
  have hl : lv_has ls 1 [(0, .ref m0)] := hl
  refine lv_aload_n hx hb dX6_isFull_0 rfl (lv_at hl 0 rfl) ?_
  refine va_get (D := G.1) (ci := 6) (v := .ref aN) (C := RX6) (T := TX6) (N := 9) hx hb hts hi_X6_isFull_RX6 hown hK hP 0 rfl rfl 0 (by decide) (hts _ hw_X6_isFull_f7) (fun _ h9 => h9) rfl dX6_isFull_1 ?_
  refine lv_sipush (v := nI 10171) hx hb dX6_isFull_4 (by decide) ?_
  refine n_iald hx hb hK hP 1 0 rfl rfl (by omega) (by decide) dX6_isFull_7 ?_
  refine lv_bipush (v := nI 24) hx hb dX6_isFull_8 (by decide) ?_
  refine n_icmp_ne (tgt := 17) hx hb (by have := hN 10171; omega) (by omega) dX6_isFull_10 (by decide) (fun c_10 => ?_) (fun c_10 => ?_)
  · refine lv_iconst (v := nI 0) hx hb dX6_isFull_17 rfl ?_
    exact xret_z hx hb hr hk dX6_isFull_18 (by first | exact Or.inl rfl | exact Or.inr rfl) (xb0 (by omega))
  · refine lv_iconst (v := nI 1) hx hb dX6_isFull_13 rfl ?_
    refine lv_goto (tgt := 18) hx hb dX6_isFull_14 (by decide) ?_
    exact xret_z hx hb hr hk dX6_isFull_18 (by first | exact Or.inl rfl | exact Or.inr rfl) (xb1 (by omega))

theorem hw_X6_noEdit_f7 : Cond.fieldLink RX6 7 "TailVectorsModel" "now" "[I" ∈ wsX6_noEdit := by decide +kernel
theorem hi_X6_noEdit_RX6 : ∀ w ∈ u_ws RX6 TX6 9, w ∈ wsX6_noEdit := by decide +kernel
set_option maxHeartbeats 4000000 in
set_option maxRecDepth 100000 in
theorem c_X6_noEdit (l : Launch) (G : xG) (m0 : Nat) (aN : Nat) (aH : Nat) (aS : Nat) (aT : Nat) (N : Nat → Nat) (Hs : Nat → Nat) (Sl : Nat → Nat) (tx : Nat → Nat) (kept : Nat) (fil : Nat) (ty : Nat) (at_ : Nat) (nu : Nat) (hN : ∀ j, N j < 2 ^ 24) : Met l yX6_noEdit wsX6_noEdit ({ frames := 0, cells := 0, slots := 0, locals := 0 } : Room) (xPc G [.ref m0] (fun H => va_P G.1 vwCl [(m0, .inr (6, [.ref aN, .ref aH, .int (nI kept), .ref aS, .int (nI fil), .int (nI ty), .ref aT, .int (nI at_), .int (nI nu)])), (aN, .inl (xcI G, 10276, .inl (nf N))), (aH, .inl (xcI G, 41104, .inl (nf Hs))), (aS, .inl (xcI G, 10276, .inl (nf Sl))), (aT, .inl (xcC G, 60, .inl (nf tx)))] H)) (k2_QcV (.int (bI (N 10173 = 0)))) 0 0 (fun _ => False) := by
  refine xMet (cc := cX6_noEdit) (nL := 1) (ret := (some (.boolean))) (by decide) rfl (Nat.le_of_ble_eq_true rfl) ?_
  intro p e s m below meth c S hr hk hnm hE hP ls hl
  obtain ⟨hx, hb, hml, hown, hts⟩ := id S
  have hown : s.vm.findClass RX6 = some m.cls := hown
  have hK := hE.1
  have hS : va_S (fun _ : Nat => False) s.heap s.heap [] := va_S.rf
  have hA : ∀ q, (fun _ : Nat => False) q → xB0 G ≤ q := fun _ h => h.elim
  have hP : va_P G.1 vwCl [(m0, .inr (6, [.ref aN, .ref aH, .int (nI kept), .ref aS, .int (nI fil), .int (nI ty), .ref aT, .int (nI at_), .int (nI nu)])), (aN, .inl (xcI G, 10276, .inl (nf N))), (aH, .inl (xcI G, 41104, .inl (nf Hs))), (aS, .inl (xcI G, 10276, .inl (nf Sl))), (aT, .inl (xcC G, 60, .inl (nf tx)))] s.heap := hP
  have hl : lv_has ls 1 [(0, .ref m0)] := hl
  refine lv_aload_n hx hb dX6_noEdit_0 rfl (lv_at hl 0 rfl) ?_
  refine va_get (D := G.1) (ci := 6) (v := .ref aN) (C := RX6) (T := TX6) (N := 9) hx hb hts hi_X6_noEdit_RX6 hown hK hP 0 rfl rfl 0 (by decide) (hts _ hw_X6_noEdit_f7) (fun _ h9 => h9) rfl dX6_noEdit_1 ?_
  refine lv_sipush (v := nI 10173) hx hb dX6_noEdit_4 (by decide) ?_
  refine n_iald hx hb hK hP 1 0 rfl rfl (by omega) (by decide) dX6_noEdit_7 ?_
  refine n_if_ne (tgt := 15) hx hb (by have := hN 10173; omega) dX6_noEdit_8 (by decide) (fun c_8 => ?_) (fun c_8 => ?_)
  · refine lv_iconst (v := nI 0) hx hb dX6_noEdit_15 rfl ?_
    exact xret_z hx hb hr hk dX6_noEdit_16 (by first | exact Or.inl rfl | exact Or.inr rfl) (xb0 (by omega))
  · refine lv_iconst (v := nI 1) hx hb dX6_noEdit_11 rfl ?_
    refine lv_goto (tgt := 16) hx hb dX6_noEdit_12 (by decide) ?_
    exact xret_z hx hb hr hk dX6_noEdit_16 (by first | exact Or.inl rfl | exact Or.inr rfl) (xb1 (by omega))
