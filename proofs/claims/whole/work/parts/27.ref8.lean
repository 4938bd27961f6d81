def rmGet (N : Nat → Nat) (v q : Int32) : Int32 := if rNo N v ∨ ¬ (nI 0 ≤ q ∧ q ≤ nI (rLen N v.toNatClampNeg) - nI 1) then -1 else nI (rVal N v.toNatClampNeg q.toNatClampNeg)
noncomputable def rmVecK (N : Nat → Nat) (k : Nat) (w : Int32) : Int32 :=
  if w = 0 then nI (rLen N k) else if w = 1 then bI (N (10075 + 4 * k + 1) = 1) else if w = 2 then nI (N (10075 + 4 * k + 2)) else if w = 3 then nI (N (403 * k)) else if w = 4 then nI (rLv (N (403 * k)))
  else if w = 5 then nI (sumN (rBl (rLv (N (403 * k)))) 5) else if w = 6 then (if rLv (N (403 * k)) = 0 then -5 else nI (rRt (rLv (N (403 * k))))) else if w = 7 then nI (N (403 * k) - 4 * rLv (N (403 * k)))
  else if w = 8 then nI (sumN (rVal N k) (rLen N k)) else if w = 9 then mxI (rVal N k) (rLen N k) else -2
noncomputable def rmVec (N : Nat → Nat) (v w : Int32) : Int32 := if rNo N v then -1 else rmVecK N v.toNatClampNeg w
theorem rmVecK_d {N : Nat → Nat} {k : Nat} {w : Int32} (h : ¬ (0 ≤ w.toInt ∧ w.toInt ≤ 9)) : rmVecK N k w = -2 := by
  unfold rmVecK
  repeat' rw [if_neg (fun q => h (by rw [q]; decide))]
def rmBloK (N : Nat → Nat) (k a b : Nat) : Int32 := if a < 5 ∧ b < rBl (rLv (N (403 * k))) a then nI (rId N k a b) else -5
def rmBlo (N : Nat → Nat) (v a b : Int32) : Int32 := if rNo N v then -1 else if a < 0 ∨ b < 0 then -2 else rmBloK N v.toNatClampNeg a.toNatClampNeg b.toNatClampNeg
noncomputable def rmSha (N : Nat → Nat) (v w : Int32) : Int32 := if rNo N v ∨ rNo N w then -1 else nI (sumN (rSh N v.toNatClampNeg (fun z => rHas N w.toNatClampNeg z)) 5)
def difP (f g : Nat → Nat) (n m : Nat) : Nat → Bool := fun k => !(decide (k < n) && decide (k < m) && decide (f k = g k))
theorem difP_iff {f g : Nat → Nat} {n m k : Nat} : difP f g n m k = true ↔ ¬ (k < n ∧ k < m ∧ f k = g k) := by
  unfold difP
  simp only [Bool.not_eq_true', Bool.and_eq_false_iff, decide_eq_false_iff_not]
  omega
def difR (f g : Nat → Nat) (n m : Nat) : Int32 := if lstN (difP f g n m) n 0 = n ∧ lstN (difP f g n m) n 0 = m then -5 else nI (lstN (difP f g n m) n 0)
def rmDif (N : Nat → Nat) (v w : Int32) : Int32 := if rNo N v ∨ rNo N w then -1 else difR (rVal N v.toNatClampNeg) (rVal N w.toNatClampNeg) (rLen N v.toNatClampNeg) (rLen N w.toNatClampNeg)
def fndP (f : Nat → Nat) (x : Int32) : Nat → Bool := fun k => decide (nI (f k) = x)
def fndR (f : Nat → Nat) (n : Nat) (x : Int32) (a : Nat) : Int32 := if lstN (fndP f x) (n - a) a < n then nI (lstN (fndP f x) (n - a) a) else -5
def rmFnd (N : Nat → Nat) (v x a : Int32) : Int32 := if rNo N v then -1 else if a < 0 then -2 else fndR (rVal N v.toNatClampNeg) (rLen N v.toNatClampNeg) x a.toNatClampNeg
def rWo (t l : Nat) : Nat → Nat := fun k => if t / 4 ^ (k + 1) < rBl t (k + 1) then 1 else 0
theorem rWo_e1 {t l j : Nat} (h : ¬ (t ≠ 0 ∧ j + 1 ≤ rRt t)) (hj : j ≤ rCt t) (hjl : j = 0 ∨ t < l) : sumN (rWo t 0) j = if t < l then sumN (rWo t 0) (rCt t) else 0 := by
  by_cases htl : t < l
  · rw [if_pos htl, ← rCt_end h hj]
  · rw [if_neg htl]
    rcases hjl with q | q
    · subst q; rfl
    · omega
theorem rWo_e2 {t l j : Nat} (h : l ≤ t) (hjl : j = 0 ∨ t < l) : sumN (rWo t 0) j = if t < l then sumN (rWo t 0) (rCt t) else 0 := by
  rw [if_neg (by omega)]
  rcases hjl with q | q
  · subst q; rfl
  · omega
def rmWouK (N : Nat → Nat) (k : Nat) (w : Int32) : Int32 :=
  if N (10075 + 4 * k + 1) = 1 ∨ (if w = 0 then N (403 * k) = 300 else N (403 * k) = 0) then -4
  else if w = 0 then (if 0 < N (403 * k) ∧ N (403 * k) % 4 = 0 then nI (1 + rRt (rLv (N (403 * k)) + 1)) else 0)
  else if w = nI 2 then (if rLv (N (403 * k)) = 0 then 0 else nI (1 + rRt (rLv (N (403 * k)))))
  else nI (if rLv (N (403 * k) - 1) < rLv (N (403 * k)) then sumN (rWo (rLv (N (403 * k) - 1)) 0) (rCt (rLv (N (403 * k) - 1))) else 0)
def rmWou (N : Nat → Nat) (v w : Int32) : Int32 := if rNo N v then -1 else if ¬ (nI 0 ≤ w ∧ w ≤ nI 2) then -2 else rmWouK N v.toNatClampNeg w
noncomputable def rmEdiK (N : Nat → Nat) (w : Int32) : Int32 :=
  if w = 0 then nI (N (403 * 24)) else if w = 1 then nI (sumN (rOwn N) 5) else if w = 2 then nI (sumN (rBl (rLv (N (403 * 24)))) 5) else if w = 3 then nI (sumN (rSh N 24 (fun z => rIsOf N z)) 5)
  else (if rLv (N (403 * 24)) = 0 then -5 else nI (rId N 24 (rRt (rLv (N (403 * 24)))) 0))
theorem rmEdiK_d {N : Nat → Nat} {w : Int32} (h : ¬ (0 ≤ w.toInt ∧ w.toInt ≤ 3)) : rmEdiK N w = (if rLv (N (403 * 24)) = 0 then -5 else nI (rId N 24 (rRt (rLv (N (403 * 24)))) 0)) := by
  unfold rmEdiK
  repeat' rw [if_neg (fun q => h (by rw [q]; decide))]
theorem rBg_le (k : Nat) : rBg k ≤ 101 := by
  unfold rBg
  split
  · omega
  · split
    · omega
    · split
      · omega
      · split <;> omega
noncomputable def rmEdi (N : Nat → Nat) (w : Int32) : Int32 := if ¬ (nI 0 ≤ w ∧ w ≤ nI 4) then -2 else if N 10173 = 0 then -4 else rmEdiK N w
noncomputable def rmCou (N : Nat → Nat) (kept ty : Nat) (w : Int32) : Int32 :=
  if w = 0 then nI (N 10171) else if w = 1 then nI (sumN (fun z => N (10075 + 4 * z)) (N 10171)) else if w = 2 then nI (N 10172) else if w = 3 then nI (sumN (fun z => bN (rUs N z)) (N 10172))
  else if w = 4 then nI (N 10172) - nI (sumN (fun z => bN (rUs N z)) (N 10172)) else if w = 5 then nI (N 10173) else if w = 6 then nI (sumN (rLs N) (N 10171)) else if w = 7 then nI kept else if w = 8 then nI ty else -2
theorem rmCou_d {N : Nat → Nat} {kept ty : Nat} {w : Int32} (h : ¬ (0 ≤ w.toInt ∧ w.toInt ≤ 8)) : rmCou N kept ty w = -2 := by
  unfold rmCou
  repeat' rw [if_neg (fun q => h (by rw [q]; decide))]

set_option maxHeartbeats 4000000 in
set_option maxRecDepth 100000 in
theorem c_X6_get (l : Launch) (G : xG) (m0 : Nat) (aN : Nat) (aH : Nat) (aS : Nat) (aT : Nat) (N : Nat → Nat) (Hs : Nat → Nat) (Sl : Nat → Nat) (tx : Nat → Nat) (kept : Nat) (fil : Nat) (ty : Nat) (at_ : Nat) (nu : Nat) (v : Int32) (q : Int32) (hN : ∀ j, N j < 2 ^ 24) (hev : 1 ≤ N 10171) (hev2 : N 10171 ≤ 24) (hrows : ∀ v, v ≤ 24 → N (403 * v) ≤ 300) (hwin : ∀ v, v < N 10171 → N (10075 + 4 * v + 2) + rLen N v ≤ N (403 * v)) : Met l yX6_get wsX6_get ({ frames := 2, cells := 0, slots := 0, locals := 43 } : Room) (xPc G [.ref m0, .int v, .int q] (fun H => va_P G.1 vwCl [(m0, .inr (6, [.ref aN, .ref aH, .int (nI kept), .ref aS, .int (nI fil), .int (nI ty), .ref aT, .int (nI at_), .int (nI nu)])), (aN, .inl (xcI G, 10276, .inl (nf N))), (aH, .inl (xcI G, 41104, .inl (nf Hs))), (aS, .inl (xcI G, 10276, .inl (nf Sl))), (aT, .inl (xcC G, 60, .inl (nf tx)))] H)) (k2_QcV (.int (rmGet N v q))) 0 0 (fun _ => False) := by
  refine xMet (cc := cX6_get) (nL := 3) (ret := (some (.int))) (by decide) rfl (Nat.le_of_ble_eq_true rfl) ?_
  intro p e s m below meth c S hr hk hnm hE hP ls hl
  obtain ⟨hx, hb, hml, hown, hts⟩ := id S
  have hown : s.vm.findClass RX6 = some m.cls := hown
  have hK := hE.1
  have hS : va_S (fun _ : Nat => False) s.heap s.heap [] := va_S.rf
  have hA : ∀ q, (fun _ : Nat => False) q → xB0 G ≤ q := fun _ h => h.elim
  have hP : va_P G.1 vwCl [(m0, .inr (6, [.ref aN, .ref aH, .int (nI kept), .ref aS, .int (nI fil), .int (nI ty), .ref aT, .int (nI at_), .int (nI nu)])), (aN, .inl (xcI G, 10276, .inl (nf N))), (aH, .inl (xcI G, 41104, .inl (nf Hs))), (aS, .inl (xcI G, 10276, .inl (nf Sl))), (aT, .inl (xcC G, 60, .inl (nf tx)))] s.heap := hP
  have hl : lv_has ls 3 [(0, .ref m0), (1, .int v), (2, .int q)] := hl
  refine lv_aload_n hx hb dX6_get_0 rfl (lv_at hl 0 rfl) ?_
  refine lv_iload_n hx hb dX6_get_1 rfl (lv_at hl 1 rfl) ?_
  refine xrd (xrunV (As := [.int v]) (rest := []) S (c_X6_no l G m0 aN aH aS aT N Hs Sl tx kept fil ty at_ nu v hN hev hev2) (cwV 1 hts gX6_get_X6_no rfl rfl rfl (by decide +kernel) ⟨Nat.le_of_ble_eq_true rfl, Nat.le_of_ble_eq_true rfl⟩) hE hS hA 0 6 hP rfl rfl rfl hP rfl rfl hl.1 (Nat.le_of_ble_eq_true rfl) dX6_get_2 ⟨Nat.le_of_ble_eq_true rfl, Nat.le_of_ble_eq_true rfl⟩) ?_
  refine b_if_ne (tgt := 23) hx hb dX6_get_5 (by decide) (fun c_5 => ?_) (fun c_5 => ?_)
  · refine lv_iconst (v := (-1)) hx hb dX6_get_23 rfl ?_
    refine lv_goto (tgt := 33) hx hb dX6_get_24 (by decide) ?_
    exact xret_i hx hb hr hk dX6_get_33 (by rw [rmGet, if_pos (Or.inl c_5)])
  · have c_5b := c_5
    obtain ⟨k, rfl, hk1, hk2⟩ := rNo_not hev hev2 c_5
    have hkc : (nI k).toNatClampNeg = k := nI_clamp (by omega)
    have hwk := hwin k hk1
    have hrk := hrows k (by omega)
    refine lv_iload_n hx hb dX6_get_8 rfl (lv_at hl 2 rfl) ?_
    refine lv_iconst (v := nI 0) hx hb dX6_get_9 rfl ?_
    refine lv_aload_n hx hb dX6_get_10 rfl (lv_at hl 0 rfl) ?_
    refine lv_iload_n hx hb dX6_get_11 rfl (lv_at hl 1 rfl) ?_
    refine xrd (xrunV (As := [.int (nI k)]) (rest := [.int (nI 0), .int q]) S (c_X6_length l G m0 aN aH aS aT N Hs Sl tx kept fil ty at_ nu k hN (by omega)) (cwV 1 hts gX6_get_X6_length rfl rfl rfl (by decide +kernel) ⟨Nat.le_of_ble_eq_true rfl, Nat.le_of_ble_eq_true rfl⟩) hE hS hA 0 6 hP rfl rfl rfl hP rfl rfl hl.1 (Nat.le_of_ble_eq_true rfl) dX6_get_12 ⟨Nat.le_of_ble_eq_true rfl, Nat.le_of_ble_eq_true rfl⟩) ?_
    refine lv_iconst (v := nI 1) hx hb dX6_get_15 rfl ?_
    refine lv_isub hx hb dX6_get_16 ?_
    refine xrd (xrunS (As := [.int q, .int (nI 0), .int ((nI (rLen N k)) - (nI 1))]) (rest := []) S (c_X6_in l G q (nI 0) ((nI (rLen N k)) - (nI 1)) ) (va_cwS 3 hts gX6_get_X6_in rfl rfl rfl (by decide +kernel) ⟨Nat.le_of_ble_eq_true rfl, Nat.le_of_ble_eq_true rfl⟩) hE hS hA trivial rfl rfl hl.1 (Nat.le_of_ble_eq_true rfl) dX6_get_17 ⟨Nat.le_of_ble_eq_true rfl, Nat.le_of_ble_eq_true rfl⟩) ?_
    refine b_if_ne (tgt := 27) hx hb dX6_get_20 (by decide) (fun c_20 => ?_) (fun c_20 => ?_)
    · have hnp : ¬ (rNo N (nI k) ∨ ¬ (nI 0 ≤ q ∧ q ≤ nI (rLen N (nI k).toNatClampNeg) - nI 1)) := fun z => z.elim c_5b (fun w => w (by rw [hkc]; exact c_20))
      obtain ⟨j, hj9, rfl⟩ := xin_of1 (rLen_lt hN k) c_20
      have hjc : (nI j).toNatClampNeg = j := nI_clamp (by omega)
      refine lv_aload_n hx hb dX6_get_27 rfl (lv_at hl 0 rfl) ?_
      refine lv_iload_n hx hb dX6_get_28 rfl (lv_at hl 1 rfl) ?_
      refine lv_iload_n hx hb dX6_get_29 rfl (lv_at hl 2 rfl) ?_
      refine xrd (xrunV (As := [.int (nI k), .int (nI j)]) (rest := []) S (c_X6_value l G m0 aN aH aS aT N Hs Sl tx kept fil ty at_ nu k j hN (by omega) (by omega)) (cwV 2 hts gX6_get_X6_value rfl rfl rfl (by decide +kernel) ⟨Nat.le_of_ble_eq_true rfl, Nat.le_of_ble_eq_true rfl⟩) hE hS hA 0 6 hP rfl rfl rfl hP rfl rfl hl.1 (Nat.le_of_ble_eq_true rfl) dX6_get_30 ⟨Nat.le_of_ble_eq_true rfl, Nat.le_of_ble_eq_true rfl⟩) ?_
      exact xret_i hx hb hr hk dX6_get_33 (by rw [rmGet, if_neg hnp, hkc, hjc])
    · refine lv_iconst (v := (-1)) hx hb dX6_get_23 rfl ?_
      refine lv_goto (tgt := 33) hx hb dX6_get_24 (by decide) ?_
      exact xret_i hx hb hr hk dX6_get_33 (by rw [rmGet, if_pos (Or.inr (by rw [hkc]; exact c_20))])

set_option maxHeartbeats 4000000 in
set_option maxRecDepth 100000 in
theorem c_X6_block (l : Launch) (G : xG) (m0 : Nat) (aN : Nat) (aH : Nat) (aS : Nat) (aT : Nat) (N : Nat → Nat) (Hs : Nat → Nat) (Sl : Nat → Nat) (tx : Nat → Nat) (kept : Nat) (fil : Nat) (ty : Nat) (at_ : Nat) (nu : Nat) (v : Int32) (a : Int32) (b : Int32) (hN : ∀ j, N j < 2 ^ 24) (hev : 1 ≤ N 10171) (hev2 : N 10171 ≤ 24) (hrows : ∀ v, v ≤ 24 → N (403 * v) ≤ 300) (hwin : ∀ v, v < N 10171 → N (10075 + 4 * v + 2) + rLen N v ≤ N (403 * v)) : Met l yX6_block wsX6_block ({ frames := 3, cells := 0, slots := 0, locals := 62 } : Room) (xPc G [.ref m0, .int v, .int a, .int b] (fun H => va_P G.1 vwCl [(m0, .inr (6, [.ref aN, .ref aH, .int (nI kept), .ref aS, .int (nI fil), .int (nI ty), .ref aT, .int (nI at_), .int (nI nu)])), (aN, .inl (xcI G, 10276, .inl (nf N))), (aH, .inl (xcI G, 41104, .inl (nf Hs))), (aS, .inl (xcI G, 10276, .inl (nf Sl))), (aT, .inl (xcC G, 60, .inl (nf tx)))] H)) (k2_QcV (.int (rmBlo N v a b))) 0 0 (fun _ => False) := by
  refine xMet (cc := cX6_block) (nL := 5) (ret := (some (.int))) (by decide) rfl (Nat.le_of_ble_eq_true rfl) ?_
  intro p e s m below meth c S hr hk hnm hE hP ls hl
  obtain ⟨hx, hb, hml, hown, hts⟩ := id S
  have hown : s.vm.findClass RX6 = some m.cls := hown
  have hK := hE.1
  have hS : va_S (fun _ : Nat => False) s.heap s.heap [] := va_S.rf
  have hA : ∀ q, (fun _ : Nat => False) q → xB0 G ≤ q := fun _ h => h.elim
  have hP : va_P G.1 vwCl [(m0, .inr (6, [.ref aN, .ref aH, .int (nI kept), .ref aS, .int (nI fil), .int (nI ty), .ref aT, .int (nI at_), .int (nI nu)])), (aN, .inl (xcI G, 10276, .inl (nf N))), (aH, .inl (xcI G, 41104, .inl (nf Hs))), (aS, .inl (xcI G, 10276, .inl (nf Sl))), (aT, .inl (xcC G, 60, .inl (nf tx)))] s.heap := hP
  have hl : lv_has ls 5 [(0, .ref m0), (1, .int v), (2, .int a), (3, .int b)] := hl
  refine lv_aload_n hx hb dX6_block_0 rfl (lv_at hl 0 rfl) ?_
  refine lv_iload_n hx hb dX6_block_1 rfl (lv_at hl 1 rfl) ?_
  refine xrd (xrunV (As := [.int v]) (rest := []) S (c_X6_no l G m0 aN aH aS aT N Hs Sl tx kept fil ty at_ nu v hN hev hev2) (cwV 1 hts gX6_block_X6_no rfl rfl rfl (by decide +kernel) ⟨Nat.le_of_ble_eq_true rfl, Nat.le_of_ble_eq_true rfl⟩) hE hS hA 0 6 hP rfl rfl rfl hP rfl rfl hl.1 (Nat.le_of_ble_eq_true rfl) dX6_block_2 ⟨Nat.le_of_ble_eq_true rfl, Nat.le_of_ble_eq_true rfl⟩) ?_
  refine b_if_eq (tgt := 10) hx hb dX6_block_5 (by decide) (fun c_5 => ?_) (fun c_5 => ?_)
  · have c_5b := c_5
    obtain ⟨k, rfl, hk1, hk2⟩ := rNo_not hev hev2 c_5
    have hkc : (nI k).toNatClampNeg = k := nI_clamp (by omega)
    have hwk := hwin k hk1
    have hrk := hrows k (by omega)
    refine lv_iload_n hx hb dX6_block_10 rfl (lv_at hl 2 rfl) ?_
    refine lv_if_lt (tgt := 18) hx hb dX6_block_11 (by decide) (fun c_11 => ?_) (fun c_11 => ?_)
    · refine lv_bipush (v := (-2)) hx hb dX6_block_18 (by decide) ?_
      exact xret_i hx hb hr hk dX6_block_20 (by rw [rmBlo, if_neg c_5b, if_pos (Or.inl c_11)])
    · refine lv_iload_n hx hb dX6_block_14 rfl (lv_at hl 3 rfl) ?_
      refine lv_if_ge (tgt := 21) hx hb dX6_block_15 (by decide) (fun c_15 => ?_) (fun c_15 => ?_)
      · have hnb : ¬ (a < 0 ∨ b < 0) := fun z => z.elim c_11 (fun w => absurd w (Int32.not_lt.mpr c_15))
        obtain ⟨a0, ha0, rfl⟩ := nI_of c_11
        have hac : (nI a0).toNatClampNeg = a0 := nI_clamp ha0
        obtain ⟨b0, hb0, rfl⟩ := nI_of (Int32.not_lt.mpr c_15)
        have hbc : (nI b0).toNatClampNeg = b0 := nI_clamp hb0
        refine lv_aload_n hx hb dX6_block_21 rfl (lv_at hl 0 rfl) ?_
        refine lv_iload_n hx hb dX6_block_22 rfl (lv_at hl 1 rfl) ?_
        refine xrd (xrunV (As := [.int (nI k)]) (rest := []) S (c_X6_rowLength l G m0 aN aH aS aT N Hs Sl tx kept fil ty at_ nu k hN (by omega)) (cwV 1 hts gX6_block_X6_rowLength rfl rfl rfl (by decide +kernel) ⟨Nat.le_of_ble_eq_true rfl, Nat.le_of_ble_eq_true rfl⟩) hE hS hA 0 6 hP rfl rfl rfl hP rfl rfl hl.1 (Nat.le_of_ble_eq_true rfl) dX6_block_23 ⟨Nat.le_of_ble_eq_true rfl, Nat.le_of_ble_eq_true rfl⟩) ?_
        refine xrd (xrunS (As := [.int (nI (N (403 * k)))]) (rest := []) S (c_X6_leaves l G (N (403 * k)) (by omega)) (va_cwS 1 hts gX6_block_X6_leaves rfl rfl rfl (by decide +kernel) ⟨Nat.le_of_ble_eq_true rfl, Nat.le_of_ble_eq_true rfl⟩) hE hS hA trivial rfl rfl hl.1 (Nat.le_of_ble_eq_true rfl) dX6_block_26 ⟨Nat.le_of_ble_eq_true rfl, Nat.le_of_ble_eq_true rfl⟩) ?_
        refine lv_istore (lv' := [(4, .int (nI (rLv (N (403 * k))))), (0, .ref m0), (1, .int (nI k)), (2, .int (nI a0)), (3, .int (nI b0))]) hx hb dX6_block_29 hl (by decide) rfl (fun ls hl => ?_)
        refine lv_iload_n hx hb dX6_block_31 rfl (lv_at hl 3 rfl) ?_
        refine lv_iconst (v := nI 5) hx hb dX6_block_32 rfl ?_
        refine n_icmp_ge (tgt := 56) hx hb (by omega) (by omega) dX6_block_33 (by decide) (fun c_33 => ?_) (fun c_33 => ?_)
        · refine lv_bipush (v := (-5)) hx hb dX6_block_56 (by decide) ?_
          exact xret_i hx hb hr hk dX6_block_58 (by rw [rmBlo, if_neg c_5b, if_neg hnb, hkc, hac, hbc, rmBloK, if_neg (fun z => by omega)])
        · refine lv_iload_n hx hb dX6_block_36 rfl (lv_at hl 4 rfl) ?_
          refine lv_iload hx hb dX6_block_37 (lv_at hl 0 rfl) ?_
          refine lv_iload_n hx hb dX6_block_39 rfl (lv_at hl 3 rfl) ?_
          refine xrd (xrunS (As := [.int (nI (rLv (N (403 * k)))), .int (nI a0)]) (rest := [.int (nI b0)]) S (c_X6_blocks l G (rLv (N (403 * k))) a0 (by have := rLv_le hrk; omega) (by omega)) (va_cwS 2 hts gX6_block_X6_blocks rfl rfl rfl (by decide +kernel) ⟨Nat.le_of_ble_eq_true rfl, Nat.le_of_ble_eq_true rfl⟩) hE hS hA trivial rfl rfl hl.1 (Nat.le_of_ble_eq_true rfl) dX6_block_40 ⟨Nat.le_of_ble_eq_true rfl, Nat.le_of_ble_eq_true rfl⟩) ?_
          refine n_icmp_ge (tgt := 56) hx hb (by omega) (by have := rBl_lt a0 (rLv_le hrk); omega) dX6_block_43 (by decide) (fun c_43 => ?_) (fun c_43 => ?_)
          · refine lv_bipush (v := (-5)) hx hb dX6_block_56 (by decide) ?_
            exact xret_i hx hb hr hk dX6_block_58 (by rw [rmBlo, if_neg c_5b, if_neg hnb, hkc, hac, hbc, rmBloK, if_neg (fun z => by omega)])
          · refine lv_aload_n hx hb dX6_block_46 rfl (lv_at hl 1 rfl) ?_
            refine lv_iload_n hx hb dX6_block_47 rfl (lv_at hl 2 rfl) ?_
            refine lv_iload_n hx hb dX6_block_48 rfl (lv_at hl 3 rfl) ?_
            refine lv_iload_n hx hb dX6_block_49 rfl (lv_at hl 4 rfl) ?_
            refine xrd (xrunV (As := [.int (nI k), .int (nI a0), .int (nI b0)]) (rest := []) S (c_X6_id l G m0 aN aH aS aT N Hs Sl tx kept fil ty at_ nu k a0 b0 hN (by omega) (by have := rBl_bd (Nat.le_succ_of_le (rLv_le hrk)) (show a0 < 5 by omega) c_43; omega)) (cwV 3 hts gX6_block_X6_id rfl rfl rfl (by decide +kernel) ⟨Nat.le_of_ble_eq_true rfl, Nat.le_of_ble_eq_true rfl⟩) hE hS hA 0 6 hP rfl rfl rfl hP rfl rfl hl.1 (Nat.le_of_ble_eq_true rfl) dX6_block_50 ⟨Nat.le_of_ble_eq_true rfl, Nat.le_of_ble_eq_true rfl⟩) ?_
            refine lv_goto (tgt := 58) hx hb dX6_block_53 (by decide) ?_
            exact xret_i hx hb hr hk dX6_block_58 (by rw [rmBlo, if_neg c_5b, if_neg hnb, hkc, hac, hbc, rmBloK, if_pos ⟨c_33, c_43⟩])
      · refine lv_bipush (v := (-2)) hx hb dX6_block_18 (by decide) ?_
        exact xret_i hx hb hr hk dX6_block_20 (by rw [rmBlo, if_neg c_5b, if_pos (Or.inr (Int32.not_le.mp c_15))])
  · refine lv_iconst (v := (-1)) hx hb dX6_block_8 rfl ?_
    exact xret_i hx hb hr hk dX6_block_9 (by rw [rmBlo, if_pos c_5])

set_option maxHeartbeats 4000000 in
set_option maxRecDepth 100000 in
theorem c_X6_shared (l : Launch) (G : xG) (m0 : Nat) (aN : Nat) (aH : Nat) (aS : Nat) (aT : Nat) (N : Nat → Nat) (Hs : Nat → Nat) (Sl : Nat → Nat) (tx : Nat → Nat) (kept : Nat) (fil : Nat) (ty : Nat) (at_ : Nat) (nu : Nat) (v : Int32) (w : Int32) (hN : ∀ j, N j < 2 ^ 24) (hev : 1 ≤ N 10171) (hev2 : N 10171 ≤ 24) (hrows : ∀ v, v ≤ 24 → N (403 * v) ≤ 300) (hwin : ∀ v, v < N 10171 → N (10075 + 4 * v + 2) + rLen N v ≤ N (403 * v)) : Met l yX6_shared wsX6_shared ({ frames := 5, cells := 0, slots := 0, locals := 114 } : Room) (xPc G [.ref m0, .int v, .int w] (fun H => va_P G.1 vwCl [(m0, .inr (6, [.ref aN, .ref aH, .int (nI kept), .ref aS, .int (nI fil), .int (nI ty), .ref aT, .int (nI at_), .int (nI nu)])), (aN, .inl (xcI G, 10276, .inl (nf N))), (aH, .inl (xcI G, 41104, .inl (nf Hs))), (aS, .inl (xcI G, 10276, .inl (nf Sl))), (aT, .inl (xcC G, 60, .inl (nf tx)))] H)) (k2_QcV (.int (rmSha N v w))) 0 0 (fun _ => False) := by
  refine xMet (cc := cX6_shared) (nL := 3) (ret := (some (.int))) (by decide) rfl (Nat.le_of_ble_eq_true rfl) ?_
  intro p e s m below meth c S hr hk hnm hE hP ls hl
  obtain ⟨hx, hb, hml, hown, hts⟩ := id S
  have hown : s.vm.findClass RX6 = some m.cls := hown
  have hK := hE.1
  have hS : va_S (fun _ : Nat => False) s.heap s.heap [] := va_S.rf
  have hA : ∀ q, (fun _ : Nat => False) q → xB0 G ≤ q := fun _ h => h.elim
  have hP : va_P G.1 vwCl [(m0, .inr (6, [.ref aN, .ref aH, .int (nI kept), .ref aS, .int (nI fil), .int (nI ty), .ref aT, .int (nI at_), .int (nI nu)])), (aN, .inl (xcI G, 10276, .inl (nf N))), (aH, .inl (xcI G, 41104, .inl (nf Hs))), (aS, .inl (xcI G, 10276, .inl (nf Sl))), (aT, .inl (xcC G, 60, .inl (nf tx)))] s.heap := hP
  have hl : lv_has ls 3 [(0, .ref m0), (1, .int v), (2, .int w)] := hl
  refine lv_aload_n hx hb dX6_shared_0 rfl (lv_at hl 0 rfl) ?_
  refine lv_iload_n hx hb dX6_shared_1 rfl (lv_at hl 1 rfl) ?_
  refine xrd (xrunV (As := [.int v]) (rest := []) S (c_X6_no l G m0 aN aH aS aT N Hs Sl tx kept fil ty at_ nu v hN hev hev2) (cwV 1 hts gX6_shared_X6_no rfl rfl rfl (by decide +kernel) ⟨Nat.le_of_ble_eq_true rfl, Nat.le_of_ble_eq_true rfl⟩) hE hS hA 0 6 hP rfl rfl rfl hP rfl rfl hl.1 (Nat.le_of_ble_eq_true rfl) dX6_shared_2 ⟨Nat.le_of_ble_eq_true rfl, Nat.le_of_ble_eq_true rfl⟩) ?_
  refine b_if_ne (tgt := 16) hx hb dX6_shared_5 (by decide) (fun c_5 => ?_) (fun c_5 => ?_)
  · refine lv_iconst (v := (-1)) hx hb dX6_shared_16 rfl ?_
    refine lv_goto (tgt := 26) hx hb dX6_shared_17 (by decide) ?_
    exact xret_i hx hb hr hk dX6_shared_26 (by rw [rmSha, if_pos (Or.inl c_5)])
  · have c_5b := c_5
    obtain ⟨k, rfl, hk1, hk2⟩ := rNo_not hev hev2 c_5
    have hkc : (nI k).toNatClampNeg = k := nI_clamp (by omega)
    have hwk := hwin k hk1
    have hrk := hrows k (by omega)
    refine lv_aload_n hx hb dX6_shared_8 rfl (lv_at hl 0 rfl) ?_
    refine lv_iload_n hx hb dX6_shared_9 rfl (lv_at hl 2 rfl) ?_
    refine xrd (xrunV (As := [.int w]) (rest := []) S (c_X6_no l G m0 aN aH aS aT N Hs Sl tx kept fil ty at_ nu w hN hev hev2) (cwV 1 hts gX6_shared_X6_no rfl rfl rfl (by decide +kernel) ⟨Nat.le_of_ble_eq_true rfl, Nat.le_of_ble_eq_true rfl⟩) hE hS hA 0 6 hP rfl rfl rfl hP rfl rfl hl.1 (Nat.le_of_ble_eq_true rfl) dX6_shared_10 ⟨Nat.le_of_ble_eq_true rfl, Nat.le_of_ble_eq_true rfl⟩) ?_
    refine b_if_eq (tgt := 20) hx hb dX6_shared_13 (by decide) (fun c_13 => ?_) (fun c_13 => ?_)
    · have c_13b := c_13
      obtain ⟨k2, rfl, hk21, hk22⟩ := rNo_not hev hev2 c_13
      have hkc2 : (nI k2).toNatClampNeg = k2 := nI_clamp (by omega)
      have hwk2 := hwin k2 hk21
      have hrk2 := hrows k2 (by omega)
      refine lv_aload_n hx hb dX6_shared_20 rfl (lv_at hl 0 rfl) ?_
      refine lv_iload_n hx hb dX6_shared_21 rfl (lv_at hl 1 rfl) ?_
      refine lv_iload_n hx hb dX6_shared_22 rfl (lv_at hl 2 rfl) ?_
      refine xrd (xrunV (As := [.int (nI k), .int (nI k2)]) (rest := []) S (c_X6_sharedOf l G m0 aN aH aS aT N Hs Sl tx kept fil ty at_ nu k k2 hN hrows (by omega) (by omega)) (cwV 2 hts gX6_shared_X6_sharedOf rfl rfl rfl (by decide +kernel) ⟨Nat.le_of_ble_eq_true rfl, Nat.le_of_ble_eq_true rfl⟩) hE hS hA 0 6 hP rfl rfl rfl hP rfl rfl hl.1 (Nat.le_of_ble_eq_true rfl) dX6_shared_23 ⟨Nat.le_of_ble_eq_true rfl, Nat.le_of_ble_eq_true rfl⟩) ?_
      exact xret_i hx hb hr hk dX6_shared_26 (by rw [rmSha, if_neg (fun z => z.elim c_5b c_13b), hkc, hkc2])
    · refine lv_iconst (v := (-1)) hx hb dX6_shared_16 rfl ?_
      refine lv_goto (tgt := 26) hx hb dX6_shared_17 (by decide) ?_
      exact xret_i hx hb hr hk dX6_shared_26 (by rw [rmSha, if_pos (Or.inr c_13)])

set_option maxHeartbeats 4000000 in
set_option maxRecDepth 100000 in
theorem c_X6_differ (l : Launch) (G : xG) (m0 : Nat) (aN : Nat) (aH : Nat) (aS : Nat) (aT : Nat) (N : Nat → Nat) (Hs : Nat → Nat) (Sl : Nat → Nat) (tx : Nat → Nat) (kept : Nat) (fil : Nat) (ty : Nat) (at_ : Nat) (nu : Nat) (v : Int32) (w : Int32) (hN : ∀ j, N j < 2 ^ 24) (hev : 1 ≤ N 10171) (hev2 : N 10171 ≤ 24) (hrows : ∀ v, v ≤ 24 → N (403 * v) ≤ 300) (hwin : ∀ v, v < N 10171 → N (10075 + 4 * v + 2) + rLen N v ≤ N (403 * v)) : Met l yX6_differ wsX6_differ ({ frames := 2, cells := 0, slots := 0, locals := 43 } : Room) (xPc G [.ref m0, .int v, .int w] (fun H => va_P G.1 vwCl [(m0, .inr (6, [.ref aN, .ref aH, .int (nI kept), .ref aS, .int (nI fil), .int (nI ty), .ref aT, .int (nI at_), .int (nI nu)])), (aN, .inl (xcI G, 10276, .inl (nf N))), (aH, .inl (xcI G, 41104, .inl (nf Hs))), (aS, .inl (xcI G, 10276, .inl (nf Sl))), (aT, .inl (xcC G, 60, .inl (nf tx)))] H)) (k2_QcV (.int (rmDif N v w))) 0 0 (fun _ => False) := by
  refine xMet (cc := cX6_differ) (nL := 4) (ret := (some (.int))) (by decide) rfl (Nat.le_of_ble_eq_true rfl) ?_
  intro p e s m below meth c S hr hk hnm hE hP ls hl
  obtain ⟨hx, hb, hml, hown, hts⟩ := id S
  have hown : s.vm.findClass RX6 = some m.cls := hown
  have hK := hE.1
  have hS : va_S (fun _ : Nat => False) s.heap s.heap [] := va_S.rf
  have hA : ∀ q, (fun _ : Nat => False) q → xB0 G ≤ q := fun _ h => h.elim
  have hP : va_P G.1 vwCl [(m0, .inr (6, [.ref aN, .ref aH, .int (nI kept), .ref aS, .int (nI fil), .int (nI ty), .ref aT, .int (nI at_), .int (nI nu)])), (aN, .inl (xcI G, 10276, .inl (nf N))), (aH, .inl (xcI G, 41104, .inl (nf Hs))), (aS, .inl (xcI G, 10276, .inl (nf Sl))), (aT, .inl (xcC G, 60, .inl (nf tx)))] s.heap := hP
  have hl : lv_has ls 4 [(0, .ref m0), (1, .int v), (2, .int w)] := hl
  refine lv_aload_n hx hb dX6_differ_0 rfl (lv_at hl 0 rfl) ?_
  refine lv_iload_n hx hb dX6_differ_1 rfl (lv_at hl 1 rfl) ?_
  refine xrd (xrunV (As := [.int v]) (rest := []) S (c_X6_no l G m0 aN aH aS aT N Hs Sl tx kept fil ty at_ nu v hN hev hev2) (cwV 1 hts gX6_differ_X6_no rfl rfl rfl (by decide +kernel) ⟨Nat.le_of_ble_eq_true rfl, Nat.le_of_ble_eq_true rfl⟩) hE hS hA 0 6 hP rfl rfl rfl hP rfl rfl hl.1 (Nat.le_of_ble_eq_true rfl) dX6_differ_2 ⟨Nat.le_of_ble_eq_true rfl, Nat.le_of_ble_eq_true rfl⟩) ?_
  refine b_if_ne (tgt := 16) hx hb dX6_differ_5 (by decide) (fun c_5 => ?_) (fun c_5 => ?_)
  · refine lv_iconst (v := (-1)) hx hb dX6_differ_16 rfl ?_
    exact xret_i hx hb hr hk dX6_differ_17 (by rw [rmDif, if_pos (Or.inl c_5)])
  · have c_5b := c_5
    obtain ⟨k, rfl, hk1, hk2⟩ := rNo_not hev hev2 c_5
    have hkc : (nI k).toNatClampNeg = k := nI_clamp (by omega)
    have hwk := hwin k hk1
    have hrk := hrows k (by omega)
    refine lv_aload_n hx hb dX6_differ_8 rfl (lv_at hl 0 rfl) ?_
    refine lv_iload_n hx hb dX6_differ_9 rfl (lv_at hl 2 rfl) ?_
    refine xrd (xrunV (As := [.int w]) (rest := []) S (c_X6_no l G m0 aN aH aS aT N Hs Sl tx kept fil ty at_ nu w hN hev hev2) (cwV 1 hts gX6_differ_X6_no rfl rfl rfl (by decide +kernel) ⟨Nat.le_of_ble_eq_true rfl, Nat.le_of_ble_eq_true rfl⟩) hE hS hA 0 6 hP rfl rfl rfl hP rfl rfl hl.1 (Nat.le_of_ble_eq_true rfl) dX6_differ_10 ⟨Nat.le_of_ble_eq_true rfl, Nat.le_of_ble_eq_true rfl⟩) ?_
    refine b_if_eq (tgt := 18) hx hb dX6_differ_13 (by decide) (fun c_13 => ?_) (fun c_13 => ?_)
    · have c_13b := c_13
      obtain ⟨k2, rfl, hk21, hk22⟩ := rNo_not hev hev2 c_13
      have hkc2 : (nI k2).toNatClampNeg = k2 := nI_clamp (by omega)
      have hwk2 := hwin k2 hk21
      have hrk2 := hrows k2 (by omega)
      refine lv_iconst (v := nI 0) hx hb dX6_differ_18 rfl ?_
      refine lv_istore_n (lv' := [(3, .int (nI 0)), (0, .ref m0), (1, .int (nI k)), (2, .int (nI k2))]) hx hb dX6_differ_19 rfl hl (by decide) rfl (fun ls hl => ?_)
      have hl : lv_has ls 4 [(3, .int (nI 0)), (0, .ref m0), (1, .int (nI k)), (2, .int (nI k2))] := lv_sub hl [0, 1, 2, 3] rfl
      refine xloopR (σ := Nat) (C := (fun (x_ : Nat) ls => (x_ ≤ rLen N k) ∧ (x_ ≤ rLen N k2) ∧ (lstN (difP (rVal N k) (rVal N k2) (rLen N k) (rLen N k2)) (rLen N k - x_) x_ = lstN (difP (rVal N k) (rVal N k2) (rLen N k) (rLen N k2)) (rLen N k) 0) ∧ lv_has ls 4 [(3, .int (nI x_)), (0, .ref m0), (1, .int (nI k)), (2, .int (nI k2))])) (μ := (fun (x_ : Nat) => rLen N k - x_)) (W' := fun ls => W p l e _ s m _ below meth c _ _ _ _ _ (F0 m 20 ls [])) ?_ 0 _ ⟨(Nat.zero_le _), (Nat.zero_le _), rfl, hl⟩
      intro x_ ls hC ih_20
      obtain ⟨j, rfl⟩ : ∃ z, z = x_ := ⟨x_, rfl⟩
      obtain ⟨hj, hj2, hL, hl⟩ := hC
      replace hj : j ≤ rLen N k := hj
      replace hj2 : j ≤ rLen N k2 := hj2
      replace hL : lstN (difP (rVal N k) (rVal N k2) (rLen N k) (rLen N k2)) (rLen N k - j) j = lstN (difP (rVal N k) (rVal N k2) (rLen N k) (rLen N k2)) (rLen N k) 0 := hL
      replace hl : lv_has ls 4 [(3, .int (nI j)), (0, .ref m0), (1, .int (nI k)), (2, .int (nI k2))] := hl
      refine id ?_
      refine lv_iload_n hx hb dX6_differ_20 rfl (lv_at hl 0 rfl) ?_
      refine lv_aload_n hx hb dX6_differ_21 rfl (lv_at hl 1 rfl) ?_
      refine lv_iload_n hx hb dX6_differ_22 rfl (lv_at hl 2 rfl) ?_
      refine xrd (xrunV (As := [.int (nI k)]) (rest := [.int (nI j)]) S (c_X6_length l G m0 aN aH aS aT N Hs Sl tx kept fil ty at_ nu k hN (by omega)) (cwV 1 hts gX6_differ_X6_length rfl rfl rfl (by decide +kernel) ⟨Nat.le_of_ble_eq_true rfl, Nat.le_of_ble_eq_true rfl⟩) hE hS hA 0 6 hP rfl rfl rfl hP rfl rfl hl.1 (Nat.le_of_ble_eq_true rfl) dX6_differ_23 ⟨Nat.le_of_ble_eq_true rfl, Nat.le_of_ble_eq_true rfl⟩) ?_
      refine n_icmp_ge (tgt := 59) hx hb (by omega) (by have := hN k; omega) dX6_differ_26 (by decide) (fun c_26 => ?_) (fun c_26 => ?_)
      · refine lv_iload_n hx hb dX6_differ_59 rfl (lv_at hl 0 rfl) ?_
        refine lv_aload_n hx hb dX6_differ_60 rfl (lv_at hl 1 rfl) ?_
        refine lv_iload_n hx hb dX6_differ_61 rfl (lv_at hl 2 rfl) ?_
        refine xrd (xrunV (As := [.int (nI k)]) (rest := [.int (nI j)]) S (c_X6_length l G m0 aN aH aS aT N Hs Sl tx kept fil ty at_ nu k hN (by omega)) (cwV 1 hts gX6_differ_X6_length rfl rfl rfl (by decide +kernel) ⟨Nat.le_of_ble_eq_true rfl, Nat.le_of_ble_eq_true rfl⟩) hE hS hA 0 6 hP rfl rfl rfl hP rfl rfl hl.1 (Nat.le_of_ble_eq_true rfl) dX6_differ_62 ⟨Nat.le_of_ble_eq_true rfl, Nat.le_of_ble_eq_true rfl⟩) ?_
        refine n_icmp_ne (tgt := 82) hx hb (by omega) (by have := hN k; omega) dX6_differ_65 (by decide) (fun c_65 => ?_) (fun c_65 => ?_)
        · refine lv_iload_n hx hb dX6_differ_82 rfl (lv_at hl 0 rfl) ?_
          exact xret_i hx hb hr hk dX6_differ_83 (by have hE : lstN (difP (rVal N k) (rVal N k2) (rLen N k) (rLen N k2)) (rLen N k) 0 = j := (by rw [← hL]; exact lstN_stop (Or.inl (difP_iff.mpr (by omega)))); rw [rmDif, if_neg (fun z => z.elim c_5b c_13b), hkc, hkc2, difR, hE, if_neg (fun z => c_65 z.1)])
        · refine lv_iload_n hx hb dX6_differ_68 rfl (lv_at hl 0 rfl) ?_
          refine lv_aload_n hx hb dX6_differ_69 rfl (lv_at hl 1 rfl) ?_
          refine lv_iload_n hx hb dX6_differ_70 rfl (lv_at hl 3 rfl) ?_
          refine xrd (xrunV (As := [.int (nI k2)]) (rest := [.int (nI j)]) S (c_X6_length l G m0 aN aH aS aT N Hs Sl tx kept fil ty at_ nu k2 hN (by omega)) (cwV 1 hts gX6_differ_X6_length rfl rfl rfl (by decide +kernel) ⟨Nat.le_of_ble_eq_true rfl, Nat.le_of_ble_eq_true rfl⟩) hE hS hA 0 6 hP rfl rfl rfl hP rfl rfl hl.1 (Nat.le_of_ble_eq_true rfl) dX6_differ_71 ⟨Nat.le_of_ble_eq_true rfl, Nat.le_of_ble_eq_true rfl⟩) ?_
          refine n_icmp_ne (tgt := 82) hx hb (by omega) (by have := hN k2; omega) dX6_differ_74 (by decide) (fun c_74 => ?_) (fun c_74 => ?_)
          · refine lv_iload_n hx hb dX6_differ_82 rfl (lv_at hl 0 rfl) ?_
            exact xret_i hx hb hr hk dX6_differ_83 (by have hE : lstN (difP (rVal N k) (rVal N k2) (rLen N k) (rLen N k2)) (rLen N k) 0 = j := (by rw [← hL]; exact lstN_stop (Or.inl (difP_iff.mpr (by omega)))); rw [rmDif, if_neg (fun z => z.elim c_5b c_13b), hkc, hkc2, difR, hE, if_neg (fun z => c_74 z.2)])
          · refine lv_bipush (v := (-5)) hx hb dX6_differ_77 (by decide) ?_
            refine lv_goto (tgt := 83) hx hb dX6_differ_79 (by decide) ?_
            exact xret_i hx hb hr hk dX6_differ_83 (by have hE : lstN (difP (rVal N k) (rVal N k2) (rLen N k) (rLen N k2)) (rLen N k) 0 = j := (by rw [← hL]; exact lstN_stop (Or.inl (difP_iff.mpr (by omega)))); rw [rmDif, if_neg (fun z => z.elim c_5b c_13b), hkc, hkc2, difR, hE, if_pos ⟨c_65, c_74⟩])
      · refine lv_iload_n hx hb dX6_differ_29 rfl (lv_at hl 0 rfl) ?_
        refine lv_aload_n hx hb dX6_differ_30 rfl (lv_at hl 1 rfl) ?_
        refine lv_iload_n hx hb dX6_differ_31 rfl (lv_at hl 3 rfl) ?_
        refine xrd (xrunV (As := [.int (nI k2)]) (rest := [.int (nI j)]) S (c_X6_length l G m0 aN aH aS aT N Hs Sl tx kept fil ty at_ nu k2 hN (by omega)) (cwV 1 hts gX6_differ_X6_length rfl rfl rfl (by decide +kernel) ⟨Nat.le_of_ble_eq_true rfl, Nat.le_of_ble_eq_true rfl⟩) hE hS hA 0 6 hP rfl rfl rfl hP rfl rfl hl.1 (Nat.le_of_ble_eq_true rfl) dX6_differ_32 ⟨Nat.le_of_ble_eq_true rfl, Nat.le_of_ble_eq_true rfl⟩) ?_
        refine n_icmp_ge (tgt := 59) hx hb (by omega) (by have := hN k2; omega) dX6_differ_35 (by decide) (fun c_35 => ?_) (fun c_35 => ?_)
        · refine lv_iload_n hx hb dX6_differ_59 rfl (lv_at hl 0 rfl) ?_
          refine lv_aload_n hx hb dX6_differ_60 rfl (lv_at hl 1 rfl) ?_
          refine lv_iload_n hx hb dX6_differ_61 rfl (lv_at hl 2 rfl) ?_
          refine xrd (xrunV (As := [.int (nI k)]) (rest := [.int (nI j)]) S (c_X6_length l G m0 aN aH aS aT N Hs Sl tx kept fil ty at_ nu k hN (by omega)) (cwV 1 hts gX6_differ_X6_length rfl rfl rfl (by decide +kernel) ⟨Nat.le_of_ble_eq_true rfl, Nat.le_of_ble_eq_true rfl⟩) hE hS hA 0 6 hP rfl rfl rfl hP rfl rfl hl.1 (Nat.le_of_ble_eq_true rfl) dX6_differ_62 ⟨Nat.le_of_ble_eq_true rfl, Nat.le_of_ble_eq_true rfl⟩) ?_
          refine n_icmp_ne (tgt := 82) hx hb (by omega) (by have := hN k; omega) dX6_differ_65 (by decide) (fun c_65 => ?_) (fun c_65 => ?_)
          · refine lv_iload_n hx hb dX6_differ_82 rfl (lv_at hl 0 rfl) ?_
            exact xret_i hx hb hr hk dX6_differ_83 (by have hE : lstN (difP (rVal N k) (rVal N k2) (rLen N k) (rLen N k2)) (rLen N k) 0 = j := (by rw [← hL]; exact lstN_stop (Or.inl (difP_iff.mpr (by omega)))); rw [rmDif, if_neg (fun z => z.elim c_5b c_13b), hkc, hkc2, difR, hE, if_neg (fun z => c_65 z.1)])
          · refine lv_iload_n hx hb dX6_differ_68 rfl (lv_at hl 0 rfl) ?_
            refine lv_aload_n hx hb dX6_differ_69 rfl (lv_at hl 1 rfl) ?_
            refine lv_iload_n hx hb dX6_differ_70 rfl (lv_at hl 3 rfl) ?_
            refine xrd (xrunV (As := [.int (nI k2)]) (rest := [.int (nI j)]) S (c_X6_length l G m0 aN aH aS aT N Hs Sl tx kept fil ty at_ nu k2 hN (by omega)) (cwV 1 hts gX6_differ_X6_length rfl rfl rfl (by decide +kernel) ⟨Nat.le_of_ble_eq_true rfl, Nat.le_of_ble_eq_true rfl⟩) hE hS hA 0 6 hP rfl rfl rfl hP rfl rfl hl.1 (Nat.le_of_ble_eq_true rfl) dX6_differ_71 ⟨Nat.le_of_ble_eq_true rfl, Nat.le_of_ble_eq_true rfl⟩) ?_
            refine n_icmp_ne (tgt := 82) hx hb (by omega) (by have := hN k2; omega) dX6_differ_74 (by decide) (fun c_74 => ?_) (fun c_74 => ?_)
            · refine lv_iload_n hx hb dX6_differ_82 rfl (lv_at hl 0 rfl) ?_
              exact xret_i hx hb hr hk dX6_differ_83 (by have hE : lstN (difP (rVal N k) (rVal N k2) (rLen N k) (rLen N k2)) (rLen N k) 0 = j := (by rw [← hL]; exact lstN_stop (Or.inl (difP_iff.mpr (by omega)))); rw [rmDif, if_neg (fun z => z.elim c_5b c_13b), hkc, hkc2, difR, hE, if_neg (fun z => c_74 z.2)])
            · refine lv_bipush (v := (-5)) hx hb dX6_differ_77 (by decide) ?_
              refine lv_goto (tgt := 83) hx hb dX6_differ_79 (by decide) ?_
              exact xret_i hx hb hr hk dX6_differ_83 (by have hE : lstN (difP (rVal N k) (rVal N k2) (rLen N k) (rLen N k2)) (rLen N k) 0 = j := (by rw [← hL]; exact lstN_stop (Or.inl (difP_iff.mpr (by omega)))); rw [rmDif, if_neg (fun z => z.elim c_5b c_13b), hkc, hkc2, difR, hE, if_pos ⟨c_65, c_74⟩])
        · refine lv_aload_n hx hb dX6_differ_38 rfl (lv_at hl 1 rfl) ?_
          refine lv_iload_n hx hb dX6_differ_39 rfl (lv_at hl 2 rfl) ?_
          refine lv_iload_n hx hb dX6_differ_40 rfl (lv_at hl 0 rfl) ?_
          refine xrd (xrunV (As := [.int (nI k), .int (nI j)]) (rest := []) S (c_X6_value l G m0 aN aH aS aT N Hs Sl tx kept fil ty at_ nu k j hN (by omega) (by omega)) (cwV 2 hts gX6_differ_X6_value rfl rfl rfl (by decide +kernel) ⟨Nat.le_of_ble_eq_true rfl, Nat.le_of_ble_eq_true rfl⟩) hE hS hA 0 6 hP rfl rfl rfl hP rfl rfl hl.1 (Nat.le_of_ble_eq_true rfl) dX6_differ_41 ⟨Nat.le_of_ble_eq_true rfl, Nat.le_of_ble_eq_true rfl⟩) ?_
          refine lv_aload_n hx hb dX6_differ_44 rfl (lv_at hl 1 rfl) ?_
          refine lv_iload_n hx hb dX6_differ_45 rfl (lv_at hl 3 rfl) ?_
          refine lv_iload_n hx hb dX6_differ_46 rfl (lv_at hl 0 rfl) ?_
          refine xrd (xrunV (As := [.int (nI k2), .int (nI j)]) (rest := [.int (nI (rVal N k j))]) S (c_X6_value l G m0 aN aH aS aT N Hs Sl tx kept fil ty at_ nu k2 j hN (by omega) (by omega)) (cwV 2 hts gX6_differ_X6_value rfl rfl rfl (by decide +kernel) ⟨Nat.le_of_ble_eq_true rfl, Nat.le_of_ble_eq_true rfl⟩) hE hS hA 0 6 hP rfl rfl rfl hP rfl rfl hl.1 (Nat.le_of_ble_eq_true rfl) dX6_differ_47 ⟨Nat.le_of_ble_eq_true rfl, Nat.le_of_ble_eq_true rfl⟩) ?_
          refine n_icmp_ne (tgt := 59) hx hb (by have := rVal_lt hN k j; omega) (by have := rVal_lt hN k2 j; omega) dX6_differ_50 (by decide) (fun c_50 => ?_) (fun c_50 => ?_)
          · refine lv_iload_n hx hb dX6_differ_59 rfl (lv_at hl 0 rfl) ?_
            refine lv_aload_n hx hb dX6_differ_60 rfl (lv_at hl 1 rfl) ?_
            refine lv_iload_n hx hb dX6_differ_61 rfl (lv_at hl 2 rfl) ?_
            refine xrd (xrunV (As := [.int (nI k)]) (rest := [.int (nI j)]) S (c_X6_length l G m0 aN aH aS aT N Hs Sl tx kept fil ty at_ nu k hN (by omega)) (cwV 1 hts gX6_differ_X6_length rfl rfl rfl (by decide +kernel) ⟨Nat.le_of_ble_eq_true rfl, Nat.le_of_ble_eq_true rfl⟩) hE hS hA 0 6 hP rfl rfl rfl hP rfl rfl hl.1 (Nat.le_of_ble_eq_true rfl) dX6_differ_62 ⟨Nat.le_of_ble_eq_true rfl, Nat.le_of_ble_eq_true rfl⟩) ?_
            refine n_icmp_ne (tgt := 82) hx hb (by omega) (by have := hN k; omega) dX6_differ_65 (by decide) (fun c_65 => ?_) (fun c_65 => ?_)
            · refine lv_iload_n hx hb dX6_differ_82 rfl (lv_at hl 0 rfl) ?_
              exact xret_i hx hb hr hk dX6_differ_83 (by have hE : lstN (difP (rVal N k) (rVal N k2) (rLen N k) (rLen N k2)) (rLen N k) 0 = j := (by rw [← hL]; exact lstN_stop (Or.inl (difP_iff.mpr (fun z => c_50 z.2.2)))); rw [rmDif, if_neg (fun z => z.elim c_5b c_13b), hkc, hkc2, difR, hE, if_neg (fun z => c_65 z.1)])
            · refine lv_iload_n hx hb dX6_differ_68 rfl (lv_at hl 0 rfl) ?_
              refine lv_aload_n hx hb dX6_differ_69 rfl (lv_at hl 1 rfl) ?_
              refine lv_iload_n hx hb dX6_differ_70 rfl (lv_at hl 3 rfl) ?_
              refine xrd (xrunV (As := [.int (nI k2)]) (rest := [.int (nI j)]) S (c_X6_length l G m0 aN aH aS aT N Hs Sl tx kept fil ty at_ nu k2 hN (by omega)) (cwV 1 hts gX6_differ_X6_length rfl rfl rfl (by decide +kernel) ⟨Nat.le_of_ble_eq_true rfl, Nat.le_of_ble_eq_true rfl⟩) hE hS hA 0 6 hP rfl rfl rfl hP rfl rfl hl.1 (Nat.le_of_ble_eq_true rfl) dX6_differ_71 ⟨Nat.le_of_ble_eq_true rfl, Nat.le_of_ble_eq_true rfl⟩) ?_
              refine n_icmp_ne (tgt := 82) hx hb (by omega) (by have := hN k2; omega) dX6_differ_74 (by decide) (fun c_74 => ?_) (fun c_74 => ?_)
              · refine lv_iload_n hx hb dX6_differ_82 rfl (lv_at hl 0 rfl) ?_
                exact xret_i hx hb hr hk dX6_differ_83 (by have hE : lstN (difP (rVal N k) (rVal N k2) (rLen N k) (rLen N k2)) (rLen N k) 0 = j := (by rw [← hL]; exact lstN_stop (Or.inl (difP_iff.mpr (fun z => c_50 z.2.2)))); rw [rmDif, if_neg (fun z => z.elim c_5b c_13b), hkc, hkc2, difR, hE, if_neg (fun z => c_74 z.2)])
              · refine lv_bipush (v := (-5)) hx hb dX6_differ_77 (by decide) ?_
                refine lv_goto (tgt := 83) hx hb dX6_differ_79 (by decide) ?_
                exact xret_i hx hb hr hk dX6_differ_83 (by have hE : lstN (difP (rVal N k) (rVal N k2) (rLen N k) (rLen N k2)) (rLen N k) 0 = j := (by rw [← hL]; exact lstN_stop (Or.inl (difP_iff.mpr (fun z => c_50 z.2.2)))); rw [rmDif, if_neg (fun z => z.elim c_5b c_13b), hkc, hkc2, difR, hE, if_pos ⟨c_65, c_74⟩])
          · refine lv_iinc (v := nI (j + 1)) (lv' := [(3, .int (nI (j + 1))), (0, .ref m0), (1, .int (nI k)), (2, .int (nI k2))]) hx hb dX6_differ_53 hl (k := 0) rfl (nI_add j 1) (by decide) rfl (fun ls hl => ?_)
            refine lv_goto (tgt := 20) hx hb dX6_differ_56 (by decide) ?_
            have hl : lv_has ls 4 [(3, .int (nI (j + 1))), (0, .ref m0), (1, .int (nI k)), (2, .int (nI k2))] := lv_sub hl [0, 1, 2, 3] rfl
            exact ih_20 (j + 1) _ (by show rLen N k - (j + 1) < rLen N k - j; omega) ⟨(by omega), (by omega), (by rw [← hL, lstN_go (n := rLen N k - j) (fun z => difP_iff.mp z ⟨c_26, c_35, c_50⟩) (by omega), show rLen N k - (j + 1) = rLen N k - j - 1 by omega]), hl⟩
    · refine lv_iconst (v := (-1)) hx hb dX6_differ_16 rfl ?_
      exact xret_i hx hb hr hk dX6_differ_17 (by rw [rmDif, if_pos (Or.inr c_13)])

set_option maxHeartbeats 4000000 in
set_option maxRecDepth 100000 in
theorem c_X6_find (l : Launch) (G : xG) (m0 : Nat) (aN : Nat) (aH : Nat) (aS : Nat) (aT : Nat) (N : Nat → Nat) (Hs : Nat → Nat) (Sl : Nat → Nat) (tx : Nat → Nat) (kept : Nat) (fil : Nat) (ty : Nat) (at_ : Nat) (nu : Nat) (v : Int32) (x : Int32) (a : Int32) (hN : ∀ j, N j < 2 ^ 24) (hev : 1 ≤ N 10171) (hev2 : N 10171 ≤ 24) (hrows : ∀ v, v ≤ 24 → N (403 * v) ≤ 300) (hwin : ∀ v, v < N 10171 → N (10075 + 4 * v + 2) + rLen N v ≤ N (403 * v)) : Met l yX6_find wsX6_find ({ frames := 2, cells := 0, slots := 0, locals := 43 } : Room) (xPc G [.ref m0, .int v, .int x, .int a] (fun H => va_P G.1 vwCl [(m0, .inr (6, [.ref aN, .ref aH, .int (nI kept), .ref aS, .int (nI fil), .int (nI ty), .ref aT, .int (nI at_), .int (nI nu)])), (aN, .inl (xcI G, 10276, .inl (nf N))), (aH, .inl (xcI G, 41104, .inl (nf Hs))), (aS, .inl (xcI G, 10276, .inl (nf Sl))), (aT, .inl (xcC G, 60, .inl (nf tx)))] H)) (k2_QcV (.int (rmFnd N v x a))) 0 0 (fun _ => False) := by
  refine xMet (cc := cX6_find) (nL := 5) (ret := (some (.int))) (by decide) rfl (Nat.le_of_ble_eq_true rfl) ?_
  intro p e s m below meth c S hr hk hnm hE hP ls hl
  obtain ⟨hx, hb, hml, hown, hts⟩ := id S
  have hown : s.vm.findClass RX6 = some m.cls := hown
  have hK := hE.1
  have hS : va_S (fun _ : Nat => False) s.heap s.heap [] := va_S.rf
  have hA : ∀ q, (fun _ : Nat => False) q → xB0 G ≤ q := fun _ h => h.elim
  have hP : va_P G.1 vwCl [(m0, .inr (6, [.ref aN, .ref aH, .int (nI kept), .ref aS, .int (nI fil), .int (nI ty), .ref aT, .int (nI at_), .int (nI nu)])), (aN, .inl (xcI G, 10276, .inl (nf N))), (aH, .inl (xcI G, 41104, .inl (nf Hs))), (aS, .inl (xcI G, 10276, .inl (nf Sl))), (aT, .inl (xcC G, 60, .inl (nf tx)))] s.heap := hP
  have hl : lv_has ls 5 [(0, .ref m0), (1, .int v), (2, .int x), (3, .int a)] := hl
  refine lv_aload_n hx hb dX6_find_0 rfl (lv_at hl 0 rfl) ?_
  refine lv_iload_n hx hb dX6_find_1 rfl (lv_at hl 1 rfl) ?_
  refine xrd (xrunV (As := [.int v]) (rest := []) S (c_X6_no l G m0 aN aH aS aT N Hs Sl tx kept fil ty at_ nu v hN hev hev2) (cwV 1 hts gX6_find_X6_no rfl rfl rfl (by decide +kernel) ⟨Nat.le_of_ble_eq_true rfl, Nat.le_of_ble_eq_true rfl⟩) hE hS hA 0 6 hP rfl rfl rfl hP rfl rfl hl.1 (Nat.le_of_ble_eq_true rfl) dX6_find_2 ⟨Nat.le_of_ble_eq_true rfl, Nat.le_of_ble_eq_true rfl⟩) ?_
  refine b_if_eq (tgt := 10) hx hb dX6_find_5 (by decide) (fun c_5 => ?_) (fun c_5 => ?_)
  · have c_5b := c_5
    obtain ⟨k, rfl, hk1, hk2⟩ := rNo_not hev hev2 c_5
    have hkc : (nI k).toNatClampNeg = k := nI_clamp (by omega)
    have hwk := hwin k hk1
    have hrk := hrows k (by omega)
    refine lv_iload_n hx hb dX6_find_10 rfl (lv_at hl 3 rfl) ?_
    refine lv_if_ge (tgt := 17) hx hb dX6_find_11 (by decide) (fun c_11 => ?_) (fun c_11 => ?_)
    · have c_11 := Int32.not_lt.mpr c_11
      obtain ⟨a0, ha0, rfl⟩ := nI_of c_11
      have hac : (nI a0).toNatClampNeg = a0 := nI_clamp ha0
      refine lv_iload_n hx hb dX6_find_17 rfl (lv_at hl 3 rfl) ?_
      refine lv_istore (lv' := [(4, .int (nI a0)), (0, .ref m0), (1, .int (nI k)), (2, .int x), (3, .int (nI a0))]) hx hb dX6_find_18 hl (by decide) rfl (fun ls hl => ?_)
      have hl : lv_has ls 5 [(4, .int (nI a0)), (0, .ref m0), (1, .int (nI k)), (2, .int x)] := lv_sub hl [0, 1, 2, 3] rfl
      refine xloopR (σ := Nat) (C := (fun (x_ : Nat) ls => (x_ < 2 ^ 31) ∧ (lstN (fndP (rVal N k) x) (rLen N k - x_) x_ = lstN (fndP (rVal N k) x) (rLen N k - a0) a0) ∧ lv_has ls 5 [(4, .int (nI x_)), (0, .ref m0), (1, .int (nI k)), (2, .int x)])) (μ := (fun (x_ : Nat) => rLen N k - x_)) (W' := fun ls => W p l e _ s m _ below meth c _ _ _ _ _ (F0 m 20 ls [])) ?_ a0 _ ⟨ha0, rfl, hl⟩
      intro x_ ls hC ih_20
      obtain ⟨j, rfl⟩ : ∃ z, z = x_ := ⟨x_, rfl⟩
      obtain ⟨hj, hL, hl⟩ := hC
      replace hj : j < 2 ^ 31 := hj
      replace hL : lstN (fndP (rVal N k) x) (rLen N k - j) j = lstN (fndP (rVal N k) x) (rLen N k - a0) a0 := hL
      replace hl : lv_has ls 5 [(4, .int (nI j)), (0, .ref m0), (1, .int (nI k)), (2, .int x)] := hl
      refine id ?_
      refine lv_iload hx hb dX6_find_20 (lv_at hl 0 rfl) ?_
      refine lv_aload_n hx hb dX6_find_22 rfl (lv_at hl 1 rfl) ?_
      refine lv_iload_n hx hb dX6_find_23 rfl (lv_at hl 2 rfl) ?_
      refine xrd (xrunV (As := [.int (nI k)]) (rest := [.int (nI j)]) S (c_X6_length l G m0 aN aH aS aT N Hs Sl tx kept fil ty at_ nu k hN (by omega)) (cwV 1 hts gX6_find_X6_length rfl rfl rfl (by decide +kernel) ⟨Nat.le_of_ble_eq_true rfl, Nat.le_of_ble_eq_true rfl⟩) hE hS hA 0 6 hP rfl rfl rfl hP rfl rfl hl.1 (Nat.le_of_ble_eq_true rfl) dX6_find_24 ⟨Nat.le_of_ble_eq_true rfl, Nat.le_of_ble_eq_true rfl⟩) ?_
      refine n_icmp_ge (tgt := 50) hx hb (by omega) (by have := hN k; omega) dX6_find_27 (by decide) (fun c_27 => ?_) (fun c_27 => ?_)
      · refine lv_bipush (v := (-5)) hx hb dX6_find_50 (by decide) ?_
        exact xret_i hx hb hr hk dX6_find_52 (by rw [rmFnd, if_neg c_5b, if_neg c_11, hkc, hac, fndR, ← hL, lstN_stop (Or.inr (by omega)), if_neg (by omega)])
      · refine lv_aload_n hx hb dX6_find_30 rfl (lv_at hl 1 rfl) ?_
        refine lv_iload_n hx hb dX6_find_31 rfl (lv_at hl 2 rfl) ?_
        refine lv_iload hx hb dX6_find_32 (lv_at hl 0 rfl) ?_
        refine xrd (xrunV (As := [.int (nI k), .int (nI j)]) (rest := []) S (c_X6_value l G m0 aN aH aS aT N Hs Sl tx kept fil ty at_ nu k j hN (by omega) (by omega)) (cwV 2 hts gX6_find_X6_value rfl rfl rfl (by decide +kernel) ⟨Nat.le_of_ble_eq_true rfl, Nat.le_of_ble_eq_true rfl⟩) hE hS hA 0 6 hP rfl rfl rfl hP rfl rfl hl.1 (Nat.le_of_ble_eq_true rfl) dX6_find_34 ⟨Nat.le_of_ble_eq_true rfl, Nat.le_of_ble_eq_true rfl⟩) ?_
        refine lv_iload_n hx hb dX6_find_37 rfl (lv_at hl 3 rfl) ?_
        refine lv_icmp_ne (tgt := 44) hx hb dX6_find_38 (by decide) (fun c_38 => ?_) (fun c_38 => ?_)
        · refine lv_iinc (v := nI (j + 1)) (lv' := [(4, .int (nI (j + 1))), (0, .ref m0), (1, .int (nI k)), (2, .int x)]) hx hb dX6_find_44 hl (k := 0) rfl (nI_add j 1) (by decide) rfl (fun ls hl => ?_)
          refine lv_goto (tgt := 20) hx hb dX6_find_47 (by decide) ?_
          have hl : lv_has ls 5 [(4, .int (nI (j + 1))), (0, .ref m0), (1, .int (nI k)), (2, .int x)] := lv_sub hl [0, 1, 2, 3] rfl
          exact ih_20 (j + 1) _ (by show rLen N k - (j + 1) < rLen N k - j; omega) ⟨(by omega), (by rw [← hL, lstN_go (n := rLen N k - j) (by simp only [fndP, decide_eq_true_eq]; exact c_38) (by omega), show rLen N k - (j + 1) = rLen N k - j - 1 by omega]), hl⟩
        · refine lv_iload hx hb dX6_find_41 (lv_at hl 0 rfl) ?_
          exact xret_i hx hb hr hk dX6_find_43 (by rw [rmFnd, if_neg c_5b, if_neg c_11, hkc, hac, fndR, ← hL, lstN_stop (Or.inl (by simp only [fndP, decide_eq_true_eq]; exact c_38)), if_pos c_27])
    · refine lv_bipush (v := (-2)) hx hb dX6_find_14 (by decide) ?_
      exact xret_i hx hb hr hk dX6_find_16 (by rw [rmFnd, if_neg c_5b, if_pos (Int32.not_le.mp c_11)])
  · refine lv_iconst (v := (-1)) hx hb dX6_find_8 rfl ?_
    exact xret_i hx hb hr hk dX6_find_9 (by rw [rmFnd, if_pos c_5])

set_option maxHeartbeats 4000000 in
set_option maxRecDepth 100000 in
theorem c_X6_vector (l : Launch) (G : xG) (m0 : Nat) (aN : Nat) (aH : Nat) (aS : Nat) (aT : Nat) (N : Nat → Nat) (Hs : Nat → Nat) (Sl : Nat → Nat) (tx : Nat → Nat) (kept : Nat) (fil : Nat) (ty : Nat) (at_ : Nat) (nu : Nat) (v : Int32) (w : Int32) (hN : ∀ j, N j < 2 ^ 24) (hev : 1 ≤ N 10171) (hev2 : N 10171 ≤ 24) (hrows : ∀ v, v ≤ 24 → N (403 * v) ≤ 300) (hwin : ∀ v, v < N 10171 → N (10075 + 4 * v + 2) + rLen N v ≤ N (403 * v)) : Met l yX6_vector wsX6_vector ({ frames := 4, cells := 0, slots := 0, locals := 84 } : Room) (xPc G [.ref m0, .int v, .int w] (fun H => va_P G.1 vwCl [(m0, .inr (6, [.ref aN, .ref aH, .int (nI kept), .ref aS, .int (nI fil), .int (nI ty), .ref aT, .int (nI at_), .int (nI nu)])), (aN, .inl (xcI G, 10276, .inl (nf N))), (aH, .inl (xcI G, 41104, .inl (nf Hs))), (aS, .inl (xcI G, 10276, .inl (nf Sl))), (aT, .inl (xcC G, 60, .inl (nf tx)))] H)) (k2_QcV (.int (rmVec N v w))) 0 0 (fun _ => False) := by
  refine xMet (cc := cX6_vector) (nL := 4) (ret := (some (.int))) (by decide) rfl (Nat.le_of_ble_eq_true rfl) ?_
  intro p e s m below meth c S hr hk hnm hE hP ls hl
  obtain ⟨hx, hb, hml, hown, hts⟩ := id S
  have hown : s.vm.findClass RX6 = some m.cls := hown
  have hK := hE.1
  have hS : va_S (fun _ : Nat => False) s.heap s.heap [] := va_S.rf
  have hA : ∀ q, (fun _ : Nat => False) q → xB0 G ≤ q := fun _ h => h.elim
  have hP : va_P G.1 vwCl [(m0, .inr (6, [.ref aN, .ref aH, .int (nI kept), .ref aS, .int (nI fil), .int (nI ty), .ref aT, .int (nI at_), .int (nI nu)])), (aN, .inl (xcI G, 10276, .inl (nf N))), (aH, .inl (xcI G, 41104, .inl (nf Hs))), (aS, .inl (xcI G, 10276, .inl (nf Sl))), (aT, .inl (xcC G, 60, .inl (nf tx)))] s.heap := hP
  have hl : lv_has ls 4 [(0, .ref m0), (1, .int v), (2, .int w)] := hl
  refine lv_aload_n hx hb dX6_vector_0 rfl (lv_at hl 0 rfl) ?_
  refine lv_iload_n hx hb dX6_vector_1 rfl (lv_at hl 1 rfl) ?_
  refine xrd (xrunV (As := [.int v]) (rest := []) S (c_X6_no l G m0 aN aH aS aT N Hs Sl tx kept fil ty at_ nu v hN hev hev2) (cwV 1 hts gX6_vector_X6_no rfl rfl rfl (by decide +kernel) ⟨Nat.le_of_ble_eq_true rfl, Nat.le_of_ble_eq_true rfl⟩) hE hS hA 0 6 hP rfl rfl rfl hP rfl rfl hl.1 (Nat.le_of_ble_eq_true rfl) dX6_vector_2 ⟨Nat.le_of_ble_eq_true rfl, Nat.le_of_ble_eq_true rfl⟩) ?_
  refine b_if_eq (tgt := 10) hx hb dX6_vector_5 (by decide) (fun c_5 => ?_) (fun c_5 => ?_)
  · have c_5b := c_5
    obtain ⟨k, rfl, hk1, hk2⟩ := rNo_not hev hev2 c_5
    have hkc : (nI k).toNatClampNeg = k := nI_clamp (by omega)
    have hwk := hwin k hk1
    have hrk := hrows k (by omega)
    refine lv_aload_n hx hb dX6_vector_10 rfl (lv_at hl 0 rfl) ?_
    refine lv_iload_n hx hb dX6_vector_11 rfl (lv_at hl 1 rfl) ?_
    refine xrd (xrunV (As := [.int (nI k)]) (rest := []) S (c_X6_rowLength l G m0 aN aH aS aT N Hs Sl tx kept fil ty at_ nu k hN (by omega)) (cwV 1 hts gX6_vector_X6_rowLength rfl rfl rfl (by decide +kernel) ⟨Nat.le_of_ble_eq_true rfl, Nat.le_of_ble_eq_true rfl⟩) hE hS hA 0 6 hP rfl rfl rfl hP rfl rfl hl.1 (Nat.le_of_ble_eq_true rfl) dX6_vector_12 ⟨Nat.le_of_ble_eq_true rfl, Nat.le_of_ble_eq_true rfl⟩) ?_
    refine xrd (xrunS (As := [.int (nI (N (403 * k)))]) (rest := []) S (c_X6_leaves l G (N (403 * k)) (by omega)) (va_cwS 1 hts gX6_vector_X6_leaves rfl rfl rfl (by decide +kernel) ⟨Nat.le_of_ble_eq_true rfl, Nat.le_of_ble_eq_true rfl⟩) hE hS hA trivial rfl rfl hl.1 (Nat.le_of_ble_eq_true rfl) dX6_vector_15 ⟨Nat.le_of_ble_eq_true rfl, Nat.le_of_ble_eq_true rfl⟩) ?_
    refine lv_istore_n (lv' := [(3, .int (nI (rLv (N (403 * k))))), (0, .ref m0), (1, .int (nI k)), (2, .int w)]) hx hb dX6_vector_18 rfl hl (by decide) rfl (fun ls hl => ?_)
    refine lv_iload_n hx hb dX6_vector_19 rfl (lv_at hl 3 rfl) ?_
    by_cases c_20 : 0 ≤ (w).toInt ∧ (w).toInt ≤ 9
    · obtain ⟨j20, hj20⟩ : ∃ j : Nat, j = (w).toInt.toNat := ⟨_, rfl⟩
      have hx20 : (w).toInt = (j20 : Int) + 0 := by omega
      rcases (show j20 = 0 ∨ j20 = 1 ∨ j20 = 2 ∨ j20 = 3 ∨ j20 = 4 ∨ j20 = 5 ∨ j20 = 6 ∨ j20 = 7 ∨ j20 = 8 ∨ j20 = 9 by omega) with hz | hz | hz | hz | hz | hz | hz | hz | hz | hz
      · have hw20 : w = 0 := Int32.toInt_inj.mp (by rw [hx20, hz]; rfl)
        refine lv_tableIn (off := 56) (tgt := 76) hx hb dX6_vector_20 (by rw [hw20]; decide) (by rw [hw20]; decide) (by rw [hw20]; rfl) (by decide) ?_
        refine lv_aload_n hx hb dX6_vector_76 rfl (lv_at hl 1 rfl) ?_
        refine lv_iload_n hx hb dX6_vector_77 rfl (lv_at hl 2 rfl) ?_
        refine xrd (xrunV (As := [.int (nI k)]) (rest := []) S (c_X6_length l G m0 aN aH aS aT N Hs Sl tx kept fil ty at_ nu k hN (by omega)) (cwV 1 hts gX6_vector_X6_length rfl rfl rfl (by decide +kernel) ⟨Nat.le_of_ble_eq_true rfl, Nat.le_of_ble_eq_true rfl⟩) hE hS hA 0 6 hP rfl rfl rfl hP rfl rfl hl.1 (Nat.le_of_ble_eq_true rfl) dX6_vector_78 ⟨Nat.le_of_ble_eq_true rfl, Nat.le_of_ble_eq_true rfl⟩) ?_
        exact xret_i hx hb hr hk dX6_vector_81 (by rw [rmVec, if_neg c_5b, hkc, hw20]; rfl)
      · have hw20 : w = 1 := Int32.toInt_inj.mp (by rw [hx20, hz]; rfl)
        refine lv_tableIn (off := 62) (tgt := 82) hx hb dX6_vector_20 (by rw [hw20]; decide) (by rw [hw20]; decide) (by rw [hw20]; rfl) (by decide) ?_
        refine lv_aload_n hx hb dX6_vector_82 rfl (lv_at hl 1 rfl) ?_
        refine lv_iload_n hx hb dX6_vector_83 rfl (lv_at hl 2 rfl) ?_
        refine xrd (xrunV (As := [.int (nI k)]) (rest := []) S (c_X6_isWindow l G m0 aN aH aS aT N Hs Sl tx kept fil ty at_ nu k hN (by omega)) (cwV 1 hts gX6_vector_X6_isWindow rfl rfl rfl (by decide +kernel) ⟨Nat.le_of_ble_eq_true rfl, Nat.le_of_ble_eq_true rfl⟩) hE hS hA 0 6 hP rfl rfl rfl hP rfl rfl hl.1 (Nat.le_of_ble_eq_true rfl) dX6_vector_84 ⟨Nat.le_of_ble_eq_true rfl, Nat.le_of_ble_eq_true rfl⟩) ?_
        refine b_if_eq (tgt := 94) hx hb dX6_vector_87 (by decide) (fun c_87 => ?_) (fun c_87 => ?_)
        · refine lv_iconst (v := nI 0) hx hb dX6_vector_94 rfl ?_
          exact xret_i hx hb hr hk dX6_vector_95 (by rw [rmVec, if_neg c_5b, hkc, hw20]; exact (xb0 c_87))
        · refine lv_iconst (v := nI 1) hx hb dX6_vector_90 rfl ?_
          refine lv_goto (tgt := 95) hx hb dX6_vector_91 (by decide) ?_
          exact xret_i hx hb hr hk dX6_vector_95 (by rw [rmVec, if_neg c_5b, hkc, hw20]; exact (xb1 c_87))
      · have hw20 : w = 2 := Int32.toInt_inj.mp (by rw [hx20, hz]; rfl)
        refine lv_tableIn (off := 76) (tgt := 96) hx hb dX6_vector_20 (by rw [hw20]; decide) (by rw [hw20]; decide) (by rw [hw20]; rfl) (by decide) ?_
        refine lv_aload_n hx hb dX6_vector_96 rfl (lv_at hl 1 rfl) ?_
        refine lv_iload_n hx hb dX6_vector_97 rfl (lv_at hl 2 rfl) ?_
        refine xrd (xrunV (As := [.int (nI k)]) (rest := []) S (c_X6_first l G m0 aN aH aS aT N Hs Sl tx kept fil ty at_ nu k hN (by omega)) (cwV 1 hts gX6_vector_X6_first rfl rfl rfl (by decide +kernel) ⟨Nat.le_of_ble_eq_true rfl, Nat.le_of_ble_eq_true rfl⟩) hE hS hA 0 6 hP rfl rfl rfl hP rfl rfl hl.1 (Nat.le_of_ble_eq_true rfl) dX6_vector_98 ⟨Nat.le_of_ble_eq_true rfl, Nat.le_of_ble_eq_true rfl⟩) ?_
        exact xret_i hx hb hr hk dX6_vector_101 (by rw [rmVec, if_neg c_5b, hkc, hw20]; rfl)
      · have hw20 : w = 3 := Int32.toInt_inj.mp (by rw [hx20, hz]; rfl)
        refine lv_tableIn (off := 82) (tgt := 102) hx hb dX6_vector_20 (by rw [hw20]; decide) (by rw [hw20]; decide) (by rw [hw20]; rfl) (by decide) ?_
        refine lv_aload_n hx hb dX6_vector_102 rfl (lv_at hl 1 rfl) ?_
        refine lv_iload_n hx hb dX6_vector_103 rfl (lv_at hl 2 rfl) ?_
        refine xrd (xrunV (As := [.int (nI k)]) (rest := []) S (c_X6_rowLength l G m0 aN aH aS aT N Hs Sl tx kept fil ty at_ nu k hN (by omega)) (cwV 1 hts gX6_vector_X6_rowLength rfl rfl rfl (by decide +kernel) ⟨Nat.le_of_ble_eq_true rfl, Nat.le_of_ble_eq_true rfl⟩) hE hS hA 0 6 hP rfl rfl rfl hP rfl rfl hl.1 (Nat.le_of_ble_eq_true rfl) dX6_vector_104 ⟨Nat.le_of_ble_eq_true rfl, Nat.le_of_ble_eq_true rfl⟩) ?_
        exact xret_i hx hb hr hk dX6_vector_107 (by rw [rmVec, if_neg c_5b, hkc, hw20]; rfl)
      · have hw20 : w = 4 := Int32.toInt_inj.mp (by rw [hx20, hz]; rfl)
        refine lv_tableIn (off := 88) (tgt := 108) hx hb dX6_vector_20 (by rw [hw20]; decide) (by rw [hw20]; decide) (by rw [hw20]; rfl) (by decide) ?_
        refine lv_iload_n hx hb dX6_vector_108 rfl (lv_at hl 0 rfl) ?_
        exact xret_i hx hb hr hk dX6_vector_109 (by rw [rmVec, if_neg c_5b, hkc, hw20]; rfl)
      · have hw20 : w = 5 := Int32.toInt_inj.mp (by rw [hx20, hz]; rfl)
        refine lv_tableIn (off := 90) (tgt := 110) hx hb dX6_vector_20 (by rw [hw20]; decide) (by rw [hw20]; decide) (by rw [hw20]; rfl) (by decide) ?_
        refine lv_iload_n hx hb dX6_vector_110 rfl (lv_at hl 0 rfl) ?_
        refine xrd (xrunS (As := [.int (nI (rLv (N (403 * k))))]) (rest := []) S (c_X6_allBlocks l G (rLv (N (403 * k))) (by have := rLv_le hrk; omega)) (va_cwS 1 hts gX6_vector_X6_allBlocks rfl rfl rfl (by decide +kernel) ⟨Nat.le_of_ble_eq_true rfl, Nat.le_of_ble_eq_true rfl⟩) hE hS hA trivial rfl rfl hl.1 (Nat.le_of_ble_eq_true rfl) dX6_vector_111 ⟨Nat.le_of_ble_eq_true rfl, Nat.le_of_ble_eq_true rfl⟩) ?_
        exact xret_i hx hb hr hk dX6_vector_114 (by rw [rmVec, if_neg c_5b, hkc, hw20]; rfl)
      · have hw20 : w = 6 := Int32.toInt_inj.mp (by rw [hx20, hz]; rfl)
        refine lv_tableIn (off := 95) (tgt := 115) hx hb dX6_vector_20 (by rw [hw20]; decide) (by rw [hw20]; decide) (by rw [hw20]; rfl) (by decide) ?_
        refine lv_iload_n hx hb dX6_vector_115 rfl (lv_at hl 0 rfl) ?_
        refine n_if_ne (tgt := 124) hx hb (by have := rLv_le hrk; omega) dX6_vector_116 (by decide) (fun c_116 => ?_) (fun c_116 => ?_)
        · refine lv_iload_n hx hb dX6_vector_124 rfl (lv_at hl 0 rfl) ?_
          refine xrd (xrunS (As := [.int (nI (rLv (N (403 * k))))]) (rest := []) S (c_X6_rootLevel l G (rLv (N (403 * k))) (by have := rLv_le hrk; omega)) (va_cwS 1 hts gX6_vector_X6_rootLevel rfl rfl rfl (by decide +kernel) ⟨Nat.le_of_ble_eq_true rfl, Nat.le_of_ble_eq_true rfl⟩) hE hS hA trivial rfl rfl hl.1 (Nat.le_of_ble_eq_true rfl) dX6_vector_125 ⟨Nat.le_of_ble_eq_true rfl, Nat.le_of_ble_eq_true rfl⟩) ?_
          refine n_top (y := nI (rRt (rLv (N (403 * k))))) (rRI_pos c_116) ?_
          exact xret_i hx hb hr hk dX6_vector_128 (by rw [rmVec, if_neg c_5b, hkc, hw20]; exact (if_neg c_116).symm)
        · refine lv_bipush (v := (-5)) hx hb dX6_vector_119 (by decide) ?_
          refine lv_goto (tgt := 128) hx hb dX6_vector_121 (by decide) ?_
          exact xret_i hx hb hr hk dX6_vector_128 (by rw [rmVec, if_neg c_5b, hkc, hw20]; exact (if_pos c_116).symm)
      · have hw20 : w = 7 := Int32.toInt_inj.mp (by rw [hx20, hz]; rfl)
        refine lv_tableIn (off := 109) (tgt := 129) hx hb dX6_vector_20 (by rw [hw20]; decide) (by rw [hw20]; decide) (by rw [hw20]; rfl) (by decide) ?_
        refine lv_aload_n hx hb dX6_vector_129 rfl (lv_at hl 1 rfl) ?_
        refine lv_iload_n hx hb dX6_vector_130 rfl (lv_at hl 2 rfl) ?_
        refine xrd (xrunV (As := [.int (nI k)]) (rest := []) S (c_X6_rowLength l G m0 aN aH aS aT N Hs Sl tx kept fil ty at_ nu k hN (by omega)) (cwV 1 hts gX6_vector_X6_rowLength rfl rfl rfl (by decide +kernel) ⟨Nat.le_of_ble_eq_true rfl, Nat.le_of_ble_eq_true rfl⟩) hE hS hA 0 6 hP rfl rfl rfl hP rfl rfl hl.1 (Nat.le_of_ble_eq_true rfl) dX6_vector_131 ⟨Nat.le_of_ble_eq_true rfl, Nat.le_of_ble_eq_true rfl⟩) ?_
        refine lv_iconst (v := nI 4) hx hb dX6_vector_134 rfl ?_
        refine lv_iload_n hx hb dX6_vector_135 rfl (lv_at hl 0 rfl) ?_
        refine n_imul hx hb dX6_vector_136 ?_
        refine n_isub hx hb (by unfold rLv; split <;> omega) dX6_vector_137 ?_
        exact xret_i hx hb hr hk dX6_vector_138 (by rw [rmVec, if_neg c_5b, hkc, hw20]; rfl)
      · have hw20 : w = 8 := Int32.toInt_inj.mp (by rw [hx20, hz]; rfl)
        refine lv_tableIn (off := 119) (tgt := 139) hx hb dX6_vector_20 (by rw [hw20]; decide) (by rw [hw20]; decide) (by rw [hw20]; rfl) (by decide) ?_
        refine lv_aload_n hx hb dX6_vector_139 rfl (lv_at hl 1 rfl) ?_
        refine lv_iload_n hx hb dX6_vector_140 rfl (lv_at hl 2 rfl) ?_
        refine xrd (xrunV (As := [.int (nI k)]) (rest := []) S (c_X6_sum l G m0 aN aH aS aT N Hs Sl tx kept fil ty at_ nu k hN (by omega) (by omega)) (cwV 1 hts gX6_vector_X6_sum rfl rfl rfl (by decide +kernel) ⟨Nat.le_of_ble_eq_true rfl, Nat.le_of_ble_eq_true rfl⟩) hE hS hA 0 6 hP rfl rfl rfl hP rfl rfl hl.1 (Nat.le_of_ble_eq_true rfl) dX6_vector_141 ⟨Nat.le_of_ble_eq_true rfl, Nat.le_of_ble_eq_true rfl⟩) ?_
        exact xret_i hx hb hr hk dX6_vector_144 (by rw [rmVec, if_neg c_5b, hkc, hw20]; rfl)
      · have hw20 : w = 9 := Int32.toInt_inj.mp (by rw [hx20, hz]; rfl)
        refine lv_tableIn (off := 125) (tgt := 145) hx hb dX6_vector_20 (by rw [hw20]; decide) (by rw [hw20]; decide) (by rw [hw20]; rfl) (by decide) ?_
        refine lv_aload_n hx hb dX6_vector_145 rfl (lv_at hl 1 rfl) ?_
        refine lv_iload_n hx hb dX6_vector_146 rfl (lv_at hl 2 rfl) ?_
        refine xrd (xrunV (As := [.int (nI k)]) (rest := []) S (c_X6_greatest l G m0 aN aH aS aT N Hs Sl tx kept fil ty at_ nu k hN (by omega) (by omega)) (cwV 1 hts gX6_vector_X6_greatest rfl rfl rfl (by decide +kernel) ⟨Nat.le_of_ble_eq_true rfl, Nat.le_of_ble_eq_true rfl⟩) hE hS hA 0 6 hP rfl rfl rfl hP rfl rfl hl.1 (Nat.le_of_ble_eq_true rfl) dX6_vector_147 ⟨Nat.le_of_ble_eq_true rfl, Nat.le_of_ble_eq_true rfl⟩) ?_
        exact xret_i hx hb hr hk dX6_vector_150 (by rw [rmVec, if_neg c_5b, hkc, hw20]; rfl)
    · refine lv_tableOut (tgt := 151) hx hb dX6_vector_20 (by omega) (by decide) ?_
      refine lv_bipush (v := (-2)) hx hb dX6_vector_151 (by decide) ?_
      exact xret_i hx hb hr hk dX6_vector_153 (by rw [rmVec, if_neg c_5b, hkc, rmVecK_d c_20])
  · refine lv_iconst (v := (-1)) hx hb dX6_vector_8 rfl ?_
    exact xret_i hx hb hr hk dX6_vector_9 (by rw [rmVec, if_pos c_5])

set_option maxHeartbeats 4000000 in
set_option maxRecDepth 100000 in
theorem c_X6_wouldMake (l : Launch) (G : xG) (m0 : Nat) (aN : Nat) (aH : Nat) (aS : Nat) (aT : Nat) (N : Nat → Nat) (Hs : Nat → Nat) (Sl : Nat → Nat) (tx : Nat → Nat) (kept : Nat) (fil : Nat) (ty : Nat) (at_ : Nat) (nu : Nat) (v : Int32) (w : Int32) (hN : ∀ j, N j < 2 ^ 24) (hev : 1 ≤ N 10171) (hev2 : N 10171 ≤ 24) (hrows : ∀ v, v ≤ 24 → N (403 * v) ≤ 300) (hwin : ∀ v, v < N 10171 → N (10075 + 4 * v + 2) + rLen N v ≤ N (403 * v)) : Met l yX6_wouldMake wsX6_wouldMake ({ frames := 3, cells := 0, slots := 0, locals := 62 } : Room) (xPc G [.ref m0, .int v, .int w] (fun H => va_P G.1 vwCl [(m0, .inr (6, [.ref aN, .ref aH, .int (nI kept), .ref aS, .int (nI fil), .int (nI ty), .ref aT, .int (nI at_), .int (nI nu)])), (aN, .inl (xcI G, 10276, .inl (nf N))), (aH, .inl (xcI G, 41104, .inl (nf Hs))), (aS, .inl (xcI G, 10276, .inl (nf Sl))), (aT, .inl (xcC G, 60, .inl (nf tx)))] H)) (k2_QcV (.int (rmWou N v w))) 0 0 (fun _ => False) := by
  refine xMet (cc := cX6_wouldMake) (nL := 8) (ret := (some (.int))) (by decide) rfl (Nat.le_of_ble_eq_true rfl) ?_
  intro p e s m below meth c S hr hk hnm hE hP ls hl
  obtain ⟨hx, hb, hml, hown, hts⟩ := id S
  have hown : s.vm.findClass RX6 = some m.cls := hown
  have hK := hE.1
  have hS : va_S (fun _ : Nat => False) s.heap s.heap [] := va_S.rf
  have hA : ∀ q, (fun _ : Nat => False) q → xB0 G ≤ q := fun _ h => h.elim
  have hP : va_P G.1 vwCl [(m0, .inr (6, [.ref aN, .ref aH, .int (nI kept), .ref aS, .int (nI fil), .int (nI ty), .ref aT, .int (nI at_), .int (nI nu)])), (aN, .inl (xcI G, 10276, .inl (nf N))), (aH, .inl (xcI G, 41104, .inl (nf Hs))), (aS, .inl (xcI G, 10276, .inl (nf Sl))), (aT, .inl (xcC G, 60, .inl (nf tx)))] s.heap := hP
  have hl : lv_has ls 8 [(0, .ref m0), (1, .int v), (2, .int w)] := hl
  refine lv_aload_n hx hb dX6_wouldMake_0 rfl (lv_at hl 0 rfl) ?_
  refine lv_iload_n hx hb dX6_wouldMake_1 rfl (lv_at hl 1 rfl) ?_
  refine xrd (xrunV (As := [.int v]) (rest := []) S (c_X6_no l G m0 aN aH aS aT N Hs Sl tx kept fil ty at_ nu v hN hev hev2) (cwV 1 hts gX6_wouldMake_X6_no rfl rfl rfl (by decide +kernel) ⟨Nat.le_of_ble_eq_true rfl, Nat.le_of_ble_eq_true rfl⟩) hE hS hA 0 6 hP rfl rfl rfl hP rfl rfl hl.1 (Nat.le_of_ble_eq_true rfl) dX6_wouldMake_2 ⟨Nat.le_of_ble_eq_true rfl, Nat.le_of_ble_eq_true rfl⟩) ?_
  refine b_if_eq (tgt := 10) hx hb dX6_wouldMake_5 (by decide) (fun c_5 => ?_) (fun c_5 => ?_)
  · have c_5b := c_5
    obtain ⟨k, rfl, hk1, hk2⟩ := rNo_not hev hev2 c_5
    have hkc : (nI k).toNatClampNeg = k := nI_clamp (by omega)
    have hwk := hwin k hk1
    have hrk := hrows k (by omega)
    refine lv_iload_n hx hb dX6_wouldMake_10 rfl (lv_at hl 2 rfl) ?_
    refine lv_iconst (v := nI 0) hx hb dX6_wouldMake_11 rfl ?_
    refine lv_iconst (v := nI 2) hx hb dX6_wouldMake_12 rfl ?_
    refine xrd (xrunS (As := [.int w, .int (nI 0), .int (nI 2)]) (rest := []) S (c_X6_in l G w (nI 0) (nI 2) ) (va_cwS 3 hts gX6_wouldMake_X6_in rfl rfl rfl (by decide +kernel) ⟨Nat.le_of_ble_eq_true rfl, Nat.le_of_ble_eq_true rfl⟩) hE hS hA trivial rfl rfl hl.1 (Nat.le_of_ble_eq_true rfl) dX6_wouldMake_13 ⟨Nat.le_of_ble_eq_true rfl, Nat.le_of_ble_eq_true rfl⟩) ?_
    refine b_if_ne (tgt := 22) hx hb dX6_wouldMake_16 (by decide) (fun c_16 => ?_) (fun c_16 => ?_)
    · refine lv_aload_n hx hb dX6_wouldMake_22 rfl (lv_at hl 0 rfl) ?_
      refine lv_iload_n hx hb dX6_wouldMake_23 rfl (lv_at hl 1 rfl) ?_
      refine xrd (xrunV (As := [.int (nI k)]) (rest := []) S (c_X6_rowLength l G m0 aN aH aS aT N Hs Sl tx kept fil ty at_ nu k hN (by omega)) (cwV 1 hts gX6_wouldMake_X6_rowLength rfl rfl rfl (by decide +kernel) ⟨Nat.le_of_ble_eq_true rfl, Nat.le_of_ble_eq_true rfl⟩) hE hS hA 0 6 hP rfl rfl rfl hP rfl rfl hl.1 (Nat.le_of_ble_eq_true rfl) dX6_wouldMake_24 ⟨Nat.le_of_ble_eq_true rfl, Nat.le_of_ble_eq_true rfl⟩) ?_
      refine lv_istore_n (lv' := [(3, .int (nI (N (403 * k)))), (0, .ref m0), (1, .int (nI k)), (2, .int w)]) hx hb dX6_wouldMake_27 rfl hl (by decide) rfl (fun ls hl => ?_)
      refine lv_iload_n hx hb dX6_wouldMake_28 rfl (lv_at hl 0 rfl) ?_
      refine xrd (xrunS (As := [.int (nI (N (403 * k)))]) (rest := []) S (c_X6_leaves l G (N (403 * k)) (by omega)) (va_cwS 1 hts gX6_wouldMake_X6_leaves rfl rfl rfl (by decide +kernel) ⟨Nat.le_of_ble_eq_true rfl, Nat.le_of_ble_eq_true rfl⟩) hE hS hA trivial rfl rfl hl.1 (Nat.le_of_ble_eq_true rfl) dX6_wouldMake_29 ⟨Nat.le_of_ble_eq_true rfl, Nat.le_of_ble_eq_true rfl⟩) ?_
      refine lv_istore (lv' := [(4, .int (nI (rLv (N (403 * k))))), (3, .int (nI (N (403 * k)))), (0, .ref m0), (1, .int (nI k)), (2, .int w)]) hx hb dX6_wouldMake_32 hl (by decide) rfl (fun ls hl => ?_)
      refine lv_aload_n hx hb dX6_wouldMake_34 rfl (lv_at hl 2 rfl) ?_
      refine lv_iload_n hx hb dX6_wouldMake_35 rfl (lv_at hl 3 rfl) ?_
      refine xrd (xrunV (As := [.int (nI k)]) (rest := []) S (c_X6_isWindow l G m0 aN aH aS aT N Hs Sl tx kept fil ty at_ nu k hN (by omega)) (cwV 1 hts gX6_wouldMake_X6_isWindow rfl rfl rfl (by decide +kernel) ⟨Nat.le_of_ble_eq_true rfl, Nat.le_of_ble_eq_true rfl⟩) hE hS hA 0 6 hP rfl rfl rfl hP rfl rfl hl.1 (Nat.le_of_ble_eq_true rfl) dX6_wouldMake_36 ⟨Nat.le_of_ble_eq_true rfl, Nat.le_of_ble_eq_true rfl⟩) ?_
      refine b_if_ne (tgt := 60) hx hb dX6_wouldMake_39 (by decide) (fun c_39 => ?_) (fun c_39 => ?_)
      · refine lv_bipush (v := (-4)) hx hb dX6_wouldMake_60 (by decide) ?_
        exact xret_i hx hb hr hk dX6_wouldMake_62 (by rw [rmWou, if_neg c_5b, if_neg (fun z => z c_16), hkc, rmWouK, if_pos (Or.inl c_39)])
      · refine lv_iload_n hx hb dX6_wouldMake_42 rfl (lv_at hl 4 rfl) ?_
        refine lv_if_ne (tgt := 56) hx hb dX6_wouldMake_43 (by decide) (fun c_43 => ?_) (fun c_43 => ?_)
        · refine lv_iload_n hx hb dX6_wouldMake_56 rfl (lv_at hl 1 rfl) ?_
          refine n_if_ne (tgt := 63) hx hb (by omega) dX6_wouldMake_57 (by decide) (fun c_57 => ?_) (fun c_57 => ?_)
          · have hnp : ¬ (N (10075 + 4 * k + 1) = 1 ∨ (if w = 0 then N (403 * k) = 300 else N (403 * k) = 0)) := (fun z => z.elim c_39 (fun y => by rw [if_neg c_43] at y; exact c_57 y))
            refine lv_iload_n hx hb dX6_wouldMake_63 rfl (lv_at hl 4 rfl) ?_
            refine lv_if_ne (tgt := 91) hx hb dX6_wouldMake_64 (by decide) (fun c_64 => ?_) (fun c_64 => ?_)
            · refine lv_iload_n hx hb dX6_wouldMake_91 rfl (lv_at hl 4 rfl) ?_
              refine lv_iconst (v := nI 2) hx hb dX6_wouldMake_92 rfl ?_
              refine lv_icmp_ne (tgt := 113) hx hb dX6_wouldMake_93 (by decide) (fun c_93 => ?_) (fun c_93 => ?_)
              · refine lv_iload_n hx hb dX6_wouldMake_113 rfl (lv_at hl 1 rfl) ?_
                refine lv_iconst (v := nI 1) hx hb dX6_wouldMake_114 rfl ?_
                refine n_isub hx hb (by omega) dX6_wouldMake_115 ?_
                refine xrd (xrunS (As := [.int (nI ((N (403 * k)) - 1))]) (rest := []) S (c_X6_leaves l G ((N (403 * k)) - 1) (by omega)) (va_cwS 1 hts gX6_wouldMake_X6_leaves rfl rfl rfl (by decide +kernel) ⟨Nat.le_of_ble_eq_true rfl, Nat.le_of_ble_eq_true rfl⟩) hE hS hA trivial rfl rfl hl.1 (Nat.le_of_ble_eq_true rfl) dX6_wouldMake_116 ⟨Nat.le_of_ble_eq_true rfl, Nat.le_of_ble_eq_true rfl⟩) ?_
                refine lv_istore (lv' := [(5, .int (nI (rLv ((N (403 * k)) - 1)))), (4, .int (nI (rLv (N (403 * k))))), (3, .int (nI (N (403 * k)))), (0, .ref m0), (1, .int (nI k)), (2, .int w)]) hx hb dX6_wouldMake_119 hl (by decide) rfl (fun ls hl => ?_)
                refine lv_iconst (v := nI 0) hx hb dX6_wouldMake_121 rfl ?_
                refine lv_istore (lv' := [(6, .int (nI 0)), (5, .int (nI (rLv ((N (403 * k)) - 1)))), (4, .int (nI (rLv (N (403 * k))))), (3, .int (nI (N (403 * k)))), (0, .ref m0), (1, .int (nI k)), (2, .int w)]) hx hb dX6_wouldMake_122 hl (by decide) rfl (fun ls hl => ?_)
                refine lv_iconst (v := nI 1) hx hb dX6_wouldMake_124 rfl ?_
                refine lv_istore (lv' := [(7, .int (nI 1)), (6, .int (nI 0)), (5, .int (nI (rLv ((N (403 * k)) - 1)))), (4, .int (nI (rLv (N (403 * k))))), (3, .int (nI (N (403 * k)))), (0, .ref m0), (1, .int (nI k)), (2, .int w)]) hx hb dX6_wouldMake_125 hl (by decide) rfl (fun ls hl => ?_)
                have hl : lv_has ls 8 [(7, .int (nI (0 + 1))), (6, .int (nI (sumN (rWo (rLv (N (403 * k) - 1)) 0) 0))), (5, .int (nI (rLv (N (403 * k) - 1)))), (4, .int (nI (rLv (N (403 * k))))), (3, .int (nI (N (403 * k)))), (0, .ref m0), (1, .int (nI k)), (2, .int w)] := lv_sub hl [0, 1, 2, 3, 4, 5, 6, 7] rfl
                refine xloopR (σ := Nat) (C := (fun (x_ : Nat) ls => (x_ ≤ rCt (rLv (N (403 * k) - 1))) ∧ (x_ = 0 ∨ rLv (N (403 * k) - 1) < rLv (N (403 * k))) ∧ lv_has ls 8 [(7, .int (nI (x_ + 1))), (6, .int (nI (sumN (rWo (rLv (N (403 * k) - 1)) 0) x_))), (5, .int (nI (rLv (N (403 * k) - 1)))), (4, .int (nI (rLv (N (403 * k))))), (3, .int (nI (N (403 * k)))), (0, .ref m0), (1, .int (nI k)), (2, .int w)])) (μ := (fun (x_ : Nat) => rCt (rLv (N (403 * k) - 1)) - x_)) (W' := fun ls => W p l e _ s m _ below meth c _ _ _ _ _ (F0 m 127 ls [])) ?_ 0 _ ⟨(Nat.zero_le _), (Or.inl rfl), hl⟩
                intro x_ ls hC ih_127
                obtain ⟨j, rfl⟩ : ∃ z, z = x_ := ⟨x_, rfl⟩
                obtain ⟨hj, hjl, hl⟩ := hC
                replace hj : j ≤ rCt (rLv (N (403 * k) - 1)) := hj
                replace hjl : j = 0 ∨ rLv (N (403 * k) - 1) < rLv (N (403 * k)) := hjl
                replace hl : lv_has ls 8 [(7, .int (nI (j + 1))), (6, .int (nI (sumN (rWo (rLv (N (403 * k) - 1)) 0) j))), (5, .int (nI (rLv (N (403 * k) - 1)))), (4, .int (nI (rLv (N (403 * k))))), (3, .int (nI (N (403 * k)))), (0, .ref m0), (1, .int (nI k)), (2, .int w)] := hl
                refine id ?_
                have ht74 : rLv (N (403 * k) - 1) ≤ 74 := rLv_le (by omega)
                have hr4 := rCt_le (rLv (N (403 * k) - 1))
                have hl74 : rLv (N (403 * k)) ≤ 74 := rLv_le (by omega)
                refine lv_iload hx hb dX6_wouldMake_127 (lv_at hl 0 rfl) ?_
                refine lv_iload hx hb dX6_wouldMake_129 (lv_at hl 2 rfl) ?_
                refine xrd (xrunS (As := [.int (nI (rLv (N (403 * k) - 1)))]) (rest := [.int (nI (j + 1))]) S (c_X6_rootLevel l G (rLv (N (403 * k) - 1)) (by omega)) (va_cwS 1 hts gX6_wouldMake_X6_rootLevel rfl rfl rfl (by decide +kernel) ⟨Nat.le_of_ble_eq_true rfl, Nat.le_of_ble_eq_true rfl⟩) hE hS hA trivial rfl rfl hl.1 (Nat.le_of_ble_eq_true rfl) dX6_wouldMake_131 ⟨Nat.le_of_ble_eq_true rfl, Nat.le_of_ble_eq_true rfl⟩) ?_
                refine lv_icmp_gt (tgt := 178) hx hb dX6_wouldMake_134 (by decide) (fun c_134 => ?_) (fun c_134 => ?_)
                · have c_134 : ¬ (rLv (N (403 * k) - 1) ≠ 0 ∧ j + 1 ≤ rRt (rLv (N (403 * k) - 1))) := fun q => absurd c_134 (Int32.not_lt.mpr ((rRI_le (by omega)).mpr q))
                  refine lv_iload hx hb dX6_wouldMake_178 (lv_at hl 1 rfl) ?_
                  exact xret_i hx hb hr hk dX6_wouldMake_180 (by rw [rmWou, if_neg c_5b, if_neg (fun z => z c_16), hkc, rmWouK, if_neg hnp, if_neg c_43, if_neg c_93, ← rWo_e1 c_134 hj hjl])
                · have c_134b := rCt_ge ((rRI_le (by omega)).mp (Int32.not_lt.mp c_134))
                  refine lv_iload hx hb dX6_wouldMake_137 (lv_at hl 2 rfl) ?_
                  refine lv_iload hx hb dX6_wouldMake_139 (lv_at hl 3 rfl) ?_
                  refine n_icmp_ge (tgt := 178) hx hb (by have := hN (403 * k); omega) (by have := hN (403 * k); omega) dX6_wouldMake_141 (by decide) (fun c_141 => ?_) (fun c_141 => ?_)
                  · refine lv_iload hx hb dX6_wouldMake_178 (lv_at hl 1 rfl) ?_
                    exact xret_i hx hb hr hk dX6_wouldMake_180 (by rw [rmWou, if_neg c_5b, if_neg (fun z => z c_16), hkc, rmWouK, if_neg hnp, if_neg c_43, if_neg c_93, ← rWo_e2 c_141 hjl])
                  · refine lv_iload hx hb dX6_wouldMake_144 (lv_at hl 1 rfl) ?_
                    refine lv_iload hx hb dX6_wouldMake_146 (lv_at hl 2 rfl) ?_
                    refine lv_iload hx hb dX6_wouldMake_148 (lv_at hl 0 rfl) ?_
                    refine xrd (xrunS (As := [.int (nI (j + 1))]) (rest := [.int (nI (rLv (N (403 * k) - 1))), .int (nI (sumN (rWo (rLv (N (403 * k) - 1)) 0) j))]) S (c_X6_power l G (j + 1) (by omega)) (va_cwS 1 hts gX6_wouldMake_X6_power rfl rfl rfl (by decide +kernel) ⟨Nat.le_of_ble_eq_true rfl, Nat.le_of_ble_eq_true rfl⟩) hE hS hA trivial rfl rfl hl.1 (Nat.le_of_ble_eq_true rfl) dX6_wouldMake_150 ⟨Nat.le_of_ble_eq_true rfl, Nat.le_of_ble_eq_true rfl⟩) ?_
                    refine n_idiv hx hb (by omega) (Nat.pow_pos (by decide)) (by have := xpow_lt (k := j + 1) (by omega); omega) dX6_wouldMake_153 ?_
                    refine lv_iload hx hb dX6_wouldMake_154 (lv_at hl 2 rfl) ?_
                    refine lv_iload hx hb dX6_wouldMake_156 (lv_at hl 0 rfl) ?_
                    refine xrd (xrunS (As := [.int (nI (rLv (N (403 * k) - 1))), .int (nI (j + 1))]) (rest := [.int (nI ((rLv (N (403 * k) - 1)) / (4 ^ (j + 1)))), .int (nI (sumN (rWo (rLv (N (403 * k) - 1)) 0) j))]) S (c_X6_blocks l G (rLv (N (403 * k) - 1)) (j + 1) (by omega) (by omega)) (va_cwS 2 hts gX6_wouldMake_X6_blocks rfl rfl rfl (by decide +kernel) ⟨Nat.le_of_ble_eq_true rfl, Nat.le_of_ble_eq_true rfl⟩) hE hS hA trivial rfl rfl hl.1 (Nat.le_of_ble_eq_true rfl) dX6_wouldMake_158 ⟨Nat.le_of_ble_eq_true rfl, Nat.le_of_ble_eq_true rfl⟩) ?_
                    refine n_icmp_ge (tgt := 168) hx hb (Nat.lt_of_le_of_lt (Nat.div_le_self _ _) (by omega)) (by have := rBl_lt (j + 1) ht74; omega) dX6_wouldMake_161 (by decide) (fun c_161 => ?_) (fun c_161 => ?_)
                    · refine lv_iconst (v := nI 0) hx hb dX6_wouldMake_168 rfl ?_
                      refine n_top (y := nI (rWo (rLv (N (403 * k) - 1)) 0 j)) (by rw [rWo, if_neg (Nat.not_lt.mpr c_161)]) ?_
                      refine n_iadd hx hb dX6_wouldMake_169 ?_
                      refine lv_istore (lv' := [(6, .int (nI ((sumN (rWo (rLv (N (403 * k) - 1)) 0) j) + (rWo (rLv (N (403 * k) - 1)) 0 j)))), (7, .int (nI (j + 1))), (5, .int (nI (rLv (N (403 * k) - 1)))), (4, .int (nI (rLv (N (403 * k))))), (3, .int (nI (N (403 * k)))), (0, .ref m0), (1, .int (nI k)), (2, .int w)]) hx hb dX6_wouldMake_170 hl (by decide) rfl (fun ls hl => ?_)
                      refine lv_iinc (v := nI (j + 1 + 1)) (lv' := [(7, .int (nI (j + 1 + 1))), (6, .int (nI ((sumN (rWo (rLv (N (403 * k) - 1)) 0) j) + (rWo (rLv (N (403 * k) - 1)) 0 j)))), (5, .int (nI (rLv (N (403 * k) - 1)))), (4, .int (nI (rLv (N (403 * k))))), (3, .int (nI (N (403 * k)))), (0, .ref m0), (1, .int (nI k)), (2, .int w)]) hx hb dX6_wouldMake_172 hl (k := 1) rfl (nI_add (j + 1) 1) (by decide) rfl (fun ls hl => ?_)
                      refine lv_goto (tgt := 127) hx hb dX6_wouldMake_175 (by decide) ?_
                      have hl : lv_has ls 8 [(7, .int (nI ((j + 1) + 1))), (6, .int (nI (sumN (rWo (rLv (N (403 * k) - 1)) 0) (j + 1)))), (5, .int (nI (rLv (N (403 * k) - 1)))), (4, .int (nI (rLv (N (403 * k))))), (3, .int (nI (N (403 * k)))), (0, .ref m0), (1, .int (nI k)), (2, .int w)] := lv_sub hl [0, 1, 2, 3, 4, 5, 6, 7] rfl
                      exact ih_127 (j + 1) _ (by show rCt (rLv (N (403 * k) - 1)) - (j + 1) < rCt (rLv (N (403 * k) - 1)) - j; omega) ⟨c_134b, (Or.inr c_141), hl⟩
                    · refine lv_iconst (v := nI 1) hx hb dX6_wouldMake_164 rfl ?_
                      refine n_top (y := nI (rWo (rLv (N (403 * k) - 1)) 0 j)) (by rw [rWo, if_pos c_161]) ?_
                      refine lv_goto (tgt := 169) hx hb dX6_wouldMake_165 (by decide) ?_
                      refine n_iadd hx hb dX6_wouldMake_169 ?_
                      refine lv_istore (lv' := [(6, .int (nI ((sumN (rWo (rLv (N (403 * k) - 1)) 0) j) + (rWo (rLv (N (403 * k) - 1)) 0 j)))), (7, .int (nI (j + 1))), (5, .int (nI (rLv (N (403 * k) - 1)))), (4, .int (nI (rLv (N (403 * k))))), (3, .int (nI (N (403 * k)))), (0, .ref m0), (1, .int (nI k)), (2, .int w)]) hx hb dX6_wouldMake_170 hl (by decide) rfl (fun ls hl => ?_)
                      refine lv_iinc (v := nI (j + 1 + 1)) (lv' := [(7, .int (nI (j + 1 + 1))), (6, .int (nI ((sumN (rWo (rLv (N (403 * k) - 1)) 0) j) + (rWo (rLv (N (403 * k) - 1)) 0 j)))), (5, .int (nI (rLv (N (403 * k) - 1)))), (4, .int (nI (rLv (N (403 * k))))), (3, .int (nI (N (403 * k)))), (0, .ref m0), (1, .int (nI k)), (2, .int w)]) hx hb dX6_wouldMake_172 hl (k := 1) rfl (nI_add (j + 1) 1) (by decide) rfl (fun ls hl => ?_)
                      refine lv_goto (tgt := 127) hx hb dX6_wouldMake_175 (by decide) ?_
                      have hl : lv_has ls 8 [(7, .int (nI ((j + 1) + 1))), (6, .int (nI (sumN (rWo (rLv (N (403 * k) - 1)) 0) (j + 1)))), (5, .int (nI (rLv (N (403 * k) - 1)))), (4, .int (nI (rLv (N (403 * k))))), (3, .int (nI (N (403 * k)))), (0, .ref m0), (1, .int (nI k)), (2, .int w)] := lv_sub hl [0, 1, 2, 3, 4, 5, 6, 7] rfl
                      exact ih_127 (j + 1) _ (by show rCt (rLv (N (403 * k) - 1)) - (j + 1) < rCt (rLv (N (403 * k) - 1)) - j; omega) ⟨c_134b, (Or.inr c_141), hl⟩
              · refine lv_iload hx hb dX6_wouldMake_96 (lv_at hl 0 rfl) ?_
                refine n_if_ne (tgt := 105) hx hb (by have := rLv_le hrk; omega) dX6_wouldMake_98 (by decide) (fun c_98 => ?_) (fun c_98 => ?_)
                · refine lv_iconst (v := nI 1) hx hb dX6_wouldMake_105 rfl ?_
                  refine lv_iload hx hb dX6_wouldMake_106 (lv_at hl 0 rfl) ?_
                  refine xrd (xrunS (As := [.int (nI (rLv (N (403 * k))))]) (rest := [.int (nI 1)]) S (c_X6_rootLevel l G (rLv (N (403 * k))) (by have := rLv_le hrk; omega)) (va_cwS 1 hts gX6_wouldMake_X6_rootLevel rfl rfl rfl (by decide +kernel) ⟨Nat.le_of_ble_eq_true rfl, Nat.le_of_ble_eq_true rfl⟩) hE hS hA trivial rfl rfl hl.1 (Nat.le_of_ble_eq_true rfl) dX6_wouldMake_108 ⟨Nat.le_of_ble_eq_true rfl, Nat.le_of_ble_eq_true rfl⟩) ?_
                  refine n_top (y := nI (rRt (rLv (N (403 * k))))) (rRI_pos c_98) ?_
                  refine n_iadd hx hb dX6_wouldMake_111 ?_
                  exact xret_i hx hb hr hk dX6_wouldMake_112 (by rw [rmWou, if_neg c_5b, if_neg (fun z => z c_16), hkc, rmWouK, if_neg hnp, if_neg c_43, if_pos c_93, if_neg c_98])
                · refine lv_iconst (v := nI 0) hx hb dX6_wouldMake_101 rfl ?_
                  refine lv_goto (tgt := 112) hx hb dX6_wouldMake_102 (by decide) ?_
                  exact xret_i hx hb hr hk dX6_wouldMake_112 (by rw [rmWou, if_neg c_5b, if_neg (fun z => z c_16), hkc, rmWouK, if_neg hnp, if_neg c_43, if_pos c_93, if_pos c_98] <;> rfl)
            · exact absurd c_64 c_43
          · refine lv_bipush (v := (-4)) hx hb dX6_wouldMake_60 (by decide) ?_
            exact xret_i hx hb hr hk dX6_wouldMake_62 (by rw [rmWou, if_neg c_5b, if_neg (fun z => z c_16), hkc, rmWouK, if_pos (Or.inr (by rw [if_neg c_43]; exact c_57))])
        · refine lv_iload_n hx hb dX6_wouldMake_46 rfl (lv_at hl 1 rfl) ?_
          refine lv_sipush (v := nI 300) hx hb dX6_wouldMake_47 (by decide) ?_
          refine n_icmp_ne (tgt := 63) hx hb (by omega) (by omega) dX6_wouldMake_50 (by decide) (fun c_50 => ?_) (fun c_50 => ?_)
          · have hnp : ¬ (N (10075 + 4 * k + 1) = 1 ∨ (if w = 0 then N (403 * k) = 300 else N (403 * k) = 0)) := (fun z => z.elim c_39 (fun y => by rw [if_pos c_43] at y; exact c_50 y))
            refine lv_iload_n hx hb dX6_wouldMake_63 rfl (lv_at hl 4 rfl) ?_
            refine lv_if_ne (tgt := 91) hx hb dX6_wouldMake_64 (by decide) (fun c_64 => ?_) (fun c_64 => ?_)
            · exact absurd c_43 c_64
            · refine lv_iload_n hx hb dX6_wouldMake_67 rfl (lv_at hl 1 rfl) ?_
              refine n_if_le (tgt := 89) hx hb (by omega) dX6_wouldMake_68 (by decide) (fun c_68 => ?_) (fun c_68 => ?_)
              · refine lv_iconst (v := nI 0) hx hb dX6_wouldMake_89 rfl ?_
                exact xret_i hx hb hr hk dX6_wouldMake_90 (by rw [rmWou, if_neg c_5b, if_neg (fun z => z c_16), hkc, rmWouK, if_neg hnp, if_pos c_43, if_neg (fun z => absurd z.1 (Nat.not_lt.mpr c_68))] <;> rfl)
              · refine lv_iload_n hx hb dX6_wouldMake_71 rfl (lv_at hl 1 rfl) ?_
                refine lv_iconst (v := nI 4) hx hb dX6_wouldMake_72 rfl ?_
                refine n_irem hx hb (by have := hN (403 * k); omega) (by omega) (by omega) dX6_wouldMake_73 ?_
                refine n_if_ne (tgt := 89) hx hb (by omega) dX6_wouldMake_74 (by decide) (fun c_74 => ?_) (fun c_74 => ?_)
                · refine lv_iconst (v := nI 0) hx hb dX6_wouldMake_89 rfl ?_
                  exact xret_i hx hb hr hk dX6_wouldMake_90 (by rw [rmWou, if_neg c_5b, if_neg (fun z => z c_16), hkc, rmWouK, if_neg hnp, if_pos c_43, if_neg (fun z => c_74 z.2)] <;> rfl)
                · refine lv_iconst (v := nI 1) hx hb dX6_wouldMake_77 rfl ?_
                  refine lv_iload hx hb dX6_wouldMake_78 (lv_at hl 0 rfl) ?_
                  refine lv_iconst (v := nI 1) hx hb dX6_wouldMake_80 rfl ?_
                  refine n_iadd hx hb dX6_wouldMake_81 ?_
                  refine xrd (xrunS (As := [.int (nI ((rLv (N (403 * k))) + 1))]) (rest := [.int (nI 1)]) S (c_X6_rootLevel l G ((rLv (N (403 * k))) + 1) (by have := rLv_le hrk; omega)) (va_cwS 1 hts gX6_wouldMake_X6_rootLevel rfl rfl rfl (by decide +kernel) ⟨Nat.le_of_ble_eq_true rfl, Nat.le_of_ble_eq_true rfl⟩) hE hS hA trivial rfl rfl hl.1 (Nat.le_of_ble_eq_true rfl) dX6_wouldMake_82 ⟨Nat.le_of_ble_eq_true rfl, Nat.le_of_ble_eq_true rfl⟩) ?_
                  refine n_top (y := nI (rRt (rLv (N (403 * k)) + 1))) (rRI_pos (by omega)) ?_
                  refine n_iadd hx hb dX6_wouldMake_85 ?_
                  refine lv_goto (tgt := 90) hx hb dX6_wouldMake_86 (by decide) ?_
                  exact xret_i hx hb hr hk dX6_wouldMake_90 (by rw [rmWou, if_neg c_5b, if_neg (fun z => z c_16), hkc, rmWouK, if_neg hnp, if_pos c_43, if_pos ⟨c_68, c_74⟩])
          · refine lv_goto (tgt := 60) hx hb dX6_wouldMake_53 (by decide) ?_
            refine lv_bipush (v := (-4)) hx hb dX6_wouldMake_60 (by decide) ?_
            exact xret_i hx hb hr hk dX6_wouldMake_62 (by rw [rmWou, if_neg c_5b, if_neg (fun z => z c_16), hkc, rmWouK, if_pos (Or.inr (by rw [if_pos c_43]; exact c_50))])
    · refine lv_bipush (v := (-2)) hx hb dX6_wouldMake_19 (by decide) ?_
      exact xret_i hx hb hr hk dX6_wouldMake_21 (by rw [rmWou, if_neg c_5b, if_pos c_16])
  · refine lv_iconst (v := (-1)) hx hb dX6_wouldMake_8 rfl ?_
    exact xret_i hx hb hr hk dX6_wouldMake_9 (by rw [rmWou, if_pos c_5])

set_option maxHeartbeats 4000000 in
set_option maxRecDepth 100000 in
theorem c_X6_edit (l : Launch) (G : xG) (m0 : Nat) (aN : Nat) (aH : Nat) (aS : Nat) (aT : Nat) (N : Nat → Nat) (Hs : Nat → Nat) (Sl : Nat → Nat) (tx : Nat → Nat) (kept : Nat) (fil : Nat) (ty : Nat) (at_ : Nat) (nu : Nat) (w : Int32) (hN : ∀ j, N j < 2 ^ 24) (hev : 1 ≤ N 10171) (hev2 : N 10171 ≤ 24) (hrows : ∀ v, v ≤ 24 → N (403 * v) ≤ 300) (hwin : ∀ v, v < N 10171 → N (10075 + 4 * v + 2) + rLen N v ≤ N (403 * v)) : Met l yX6_edit wsX6_edit ({ frames := 6, cells := 0, slots := 0, locals := 136 } : Room) (xPc G [.ref m0, .int w] (fun H => va_P G.1 vwCl [(m0, .inr (6, [.ref aN, .ref aH, .int (nI kept), .ref aS, .int (nI fil), .int (nI ty), .ref aT, .int (nI at_), .int (nI nu)])), (aN, .inl (xcI G, 10276, .inl (nf N))), (aH, .inl (xcI G, 41104, .inl (nf Hs))), (aS, .inl (xcI G, 10276, .inl (nf Sl))), (aT, .inl (xcC G, 60, .inl (nf tx)))] H)) (k2_QcV (.int (rmEdi N w))) 0 0 (fun _ => False) := by
  refine xMet (cc := cX6_edit) (nL := 3) (ret := (some (.int))) (by decide) rfl (Nat.le_of_ble_eq_true rfl) ?_
  intro p e s m below meth c S hr hk hnm hE hP ls hl
  obtain ⟨hx, hb, hml, hown, hts⟩ := id S
  have hown : s.vm.findClass RX6 = some m.cls := hown
  have hK := hE.1
  have hS : va_S (fun _ : Nat => False) s.heap s.heap [] := va_S.rf
  have hA : ∀ q, (fun _ : Nat => False) q → xB0 G ≤ q := fun _ h => h.elim
  have hP : va_P G.1 vwCl [(m0, .inr (6, [.ref aN, .ref aH, .int (nI kept), .ref aS, .int (nI fil), .int (nI ty), .ref aT, .int (nI at_), .int (nI nu)])), (aN, .inl (xcI G, 10276, .inl (nf N))), (aH, .inl (xcI G, 41104, .inl (nf Hs))), (aS, .inl (xcI G, 10276, .inl (nf Sl))), (aT, .inl (xcC G, 60, .inl (nf tx)))] s.heap := hP
  have hl : lv_has ls 3 [(0, .ref m0), (1, .int w)] := hl
  refine lv_iload_n hx hb dX6_edit_0 rfl (lv_at hl 1 rfl) ?_
  refine lv_iconst (v := nI 0) hx hb dX6_edit_1 rfl ?_
  refine lv_iconst (v := nI 4) hx hb dX6_edit_2 rfl ?_
  refine xrd (xrunS (As := [.int w, .int (nI 0), .int (nI 4)]) (rest := []) S (c_X6_in l G w (nI 0) (nI 4) ) (va_cwS 3 hts gX6_edit_X6_in rfl rfl rfl (by decide +kernel) ⟨Nat.le_of_ble_eq_true rfl, Nat.le_of_ble_eq_true rfl⟩) hE hS hA trivial rfl rfl hl.1 (Nat.le_of_ble_eq_true rfl) dX6_edit_3 ⟨Nat.le_of_ble_eq_true rfl, Nat.le_of_ble_eq_true rfl⟩) ?_
  refine b_if_ne (tgt := 12) hx hb dX6_edit_6 (by decide) (fun c_6 => ?_) (fun c_6 => ?_)
  · refine lv_aload_n hx hb dX6_edit_12 rfl (lv_at hl 0 rfl) ?_
    refine xrd (xrunV (As := []) (rest := []) S (c_X6_noEdit l G m0 aN aH aS aT N Hs Sl tx kept fil ty at_ nu hN) (cwV 0 hts gX6_edit_X6_noEdit rfl rfl rfl (by decide +kernel) ⟨Nat.le_of_ble_eq_true rfl, Nat.le_of_ble_eq_true rfl⟩) hE hS hA 0 6 hP rfl rfl rfl hP rfl rfl hl.1 (Nat.le_of_ble_eq_true rfl) dX6_edit_13 ⟨Nat.le_of_ble_eq_true rfl, Nat.le_of_ble_eq_true rfl⟩) ?_
    refine b_if_eq (tgt := 22) hx hb dX6_edit_16 (by decide) (fun c_16 => ?_) (fun c_16 => ?_)
    · refine lv_aload_n hx hb dX6_edit_22 rfl (lv_at hl 0 rfl) ?_
      refine lv_bipush (v := nI 24) hx hb dX6_edit_23 (by decide) ?_
      have hl74 : rLv (N (403 * 24)) ≤ 74 := rLv_le (hrows 24 (by omega))
      refine xrd (xrunV (As := [.int (nI 24)]) (rest := []) S (c_X6_rowLength l G m0 aN aH aS aT N Hs Sl tx kept fil ty at_ nu 24 hN (by omega)) (cwV 1 hts gX6_edit_X6_rowLength rfl rfl rfl (by decide +kernel) ⟨Nat.le_of_ble_eq_true rfl, Nat.le_of_ble_eq_true rfl⟩) hE hS hA 0 6 hP rfl rfl rfl hP rfl rfl hl.1 (Nat.le_of_ble_eq_true rfl) dX6_edit_25 ⟨Nat.le_of_ble_eq_true rfl, Nat.le_of_ble_eq_true rfl⟩) ?_
      refine xrd (xrunS (As := [.int (nI (N (403 * 24)))]) (rest := []) S (c_X6_leaves l G (N (403 * 24)) (by have := hrows 24 (by omega); omega)) (va_cwS 1 hts gX6_edit_X6_leaves rfl rfl rfl (by decide +kernel) ⟨Nat.le_of_ble_eq_true rfl, Nat.le_of_ble_eq_true rfl⟩) hE hS hA trivial rfl rfl hl.1 (Nat.le_of_ble_eq_true rfl) dX6_edit_28 ⟨Nat.le_of_ble_eq_true rfl, Nat.le_of_ble_eq_true rfl⟩) ?_
      refine lv_istore_n (lv' := [(2, .int (nI (rLv (N (403 * 24))))), (0, .ref m0), (1, .int w)]) hx hb dX6_edit_31 rfl hl (by decide) rfl (fun ls hl => ?_)
      refine lv_iload_n hx hb dX6_edit_32 rfl (lv_at hl 2 rfl) ?_
      by_cases c_33 : 0 ≤ (w).toInt ∧ (w).toInt ≤ 3
      · obtain ⟨j33, hj33⟩ : ∃ j : Nat, j = (w).toInt.toNat := ⟨_, rfl⟩
        have hx33 : (w).toInt = (j33 : Int) + 0 := by omega
        rcases (show j33 = 0 ∨ j33 = 1 ∨ j33 = 2 ∨ j33 = 3 by omega) with hz | hz | hz | hz
        · have hw33 : w = 0 := Int32.toInt_inj.mp (by rw [hx33, hz]; rfl)
          refine lv_tableIn (off := 31) (tgt := 64) hx hb dX6_edit_33 (by rw [hw33]; decide) (by rw [hw33]; decide) (by rw [hw33]; rfl) (by decide) ?_
          refine lv_aload_n hx hb dX6_edit_64 rfl (lv_at hl 1 rfl) ?_
          refine lv_bipush (v := nI 24) hx hb dX6_edit_65 (by decide) ?_
          refine xrd (xrunV (As := [.int (nI 24)]) (rest := []) S (c_X6_rowLength l G m0 aN aH aS aT N Hs Sl tx kept fil ty at_ nu 24 hN (by omega)) (cwV 1 hts gX6_edit_X6_rowLength rfl rfl rfl (by decide +kernel) ⟨Nat.le_of_ble_eq_true rfl, Nat.le_of_ble_eq_true rfl⟩) hE hS hA 0 6 hP rfl rfl rfl hP rfl rfl hl.1 (Nat.le_of_ble_eq_true rfl) dX6_edit_67 ⟨Nat.le_of_ble_eq_true rfl, Nat.le_of_ble_eq_true rfl⟩) ?_
          exact xret_i hx hb hr hk dX6_edit_70 (by rw [rmEdi, if_neg (fun z => z c_6), if_neg c_16, hw33]; rfl)
        · have hw33 : w = 1 := Int32.toInt_inj.mp (by rw [hx33, hz]; rfl)
          refine lv_tableIn (off := 38) (tgt := 71) hx hb dX6_edit_33 (by rw [hw33]; decide) (by rw [hw33]; decide) (by rw [hw33]; rfl) (by decide) ?_
          refine lv_aload_n hx hb dX6_edit_71 rfl (lv_at hl 1 rfl) ?_
          refine xrd (xrunV (As := []) (rest := []) S (c_X6_own l G m0 aN aH aS aT N Hs Sl tx kept fil ty at_ nu hN hrows) (cwV 0 hts gX6_edit_X6_own rfl rfl rfl (by decide +kernel) ⟨Nat.le_of_ble_eq_true rfl, Nat.le_of_ble_eq_true rfl⟩) hE hS hA 0 6 hP rfl rfl rfl hP rfl rfl hl.1 (Nat.le_of_ble_eq_true rfl) dX6_edit_72 ⟨Nat.le_of_ble_eq_true rfl, Nat.le_of_ble_eq_true rfl⟩) ?_
          exact xret_i hx hb hr hk dX6_edit_75 (by rw [rmEdi, if_neg (fun z => z c_6), if_neg c_16, hw33]; rfl)
        · have hw33 : w = 2 := Int32.toInt_inj.mp (by rw [hx33, hz]; rfl)
          refine lv_tableIn (off := 43) (tgt := 76) hx hb dX6_edit_33 (by rw [hw33]; decide) (by rw [hw33]; decide) (by rw [hw33]; rfl) (by decide) ?_
          refine lv_iload_n hx hb dX6_edit_76 rfl (lv_at hl 0 rfl) ?_
          refine xrd (xrunS (As := [.int (nI (rLv (N (403 * 24))))]) (rest := []) S (c_X6_allBlocks l G (rLv (N (403 * 24))) (by omega)) (va_cwS 1 hts gX6_edit_X6_allBlocks rfl rfl rfl (by decide +kernel) ⟨Nat.le_of_ble_eq_true rfl, Nat.le_of_ble_eq_true rfl⟩) hE hS hA trivial rfl rfl hl.1 (Nat.le_of_ble_eq_true rfl) dX6_edit_77 ⟨Nat.le_of_ble_eq_true rfl, Nat.le_of_ble_eq_true rfl⟩) ?_
          exact xret_i hx hb hr hk dX6_edit_80 (by rw [rmEdi, if_neg (fun z => z c_6), if_neg c_16, hw33]; rfl)
        · have hw33 : w = 3 := Int32.toInt_inj.mp (by rw [hx33, hz]; rfl)
          refine lv_tableIn (off := 48) (tgt := 81) hx hb dX6_edit_33 (by rw [hw33]; decide) (by rw [hw33]; decide) (by rw [hw33]; rfl) (by decide) ?_
          refine lv_aload_n hx hb dX6_edit_81 rfl (lv_at hl 1 rfl) ?_
          refine lv_bipush (v := nI 24) hx hb dX6_edit_82 (by decide) ?_
          refine lv_bipush (v := (-5)) hx hb dX6_edit_84 (by decide) ?_
          refine xrd (xrunV (As := [.int (nI 24), .int (-5)]) (rest := []) S (c_X6_sharedOf_n l G m0 aN aH aS aT N Hs Sl tx kept fil ty at_ nu 24 hN hrows (by omega) hev hev2) (cwV 2 hts gX6_edit_X6_sharedOf rfl rfl rfl (by decide +kernel) ⟨Nat.le_of_ble_eq_true rfl, Nat.le_of_ble_eq_true rfl⟩) hE hS hA 0 6 hP rfl rfl rfl hP rfl rfl hl.1 (Nat.le_of_ble_eq_true rfl) dX6_edit_86 ⟨Nat.le_of_ble_eq_true rfl, Nat.le_of_ble_eq_true rfl⟩) ?_
          exact xret_i hx hb hr hk dX6_edit_89 (by rw [rmEdi, if_neg (fun z => z c_6), if_neg c_16, hw33]; rfl)
      · refine lv_tableOut (tgt := 90) hx hb dX6_edit_33 (by omega) (by decide) ?_
        refine lv_iload_n hx hb dX6_edit_90 rfl (lv_at hl 0 rfl) ?_
        refine n_if_ne (tgt := 99) hx hb (by omega) dX6_edit_91 (by decide) (fun c_91 => ?_) (fun c_91 => ?_)
        · refine lv_aload_n hx hb dX6_edit_99 rfl (lv_at hl 1 rfl) ?_
          refine lv_bipush (v := nI 24) hx hb dX6_edit_100 (by decide) ?_
          refine lv_iload_n hx hb dX6_edit_102 rfl (lv_at hl 0 rfl) ?_
          refine xrd (xrunS (As := [.int (nI (rLv (N (403 * 24))))]) (rest := [.int (nI 24), .ref m0]) S (c_X6_rootLevel l G (rLv (N (403 * 24))) (by omega)) (va_cwS 1 hts gX6_edit_X6_rootLevel rfl rfl rfl (by decide +kernel) ⟨Nat.le_of_ble_eq_true rfl, Nat.le_of_ble_eq_true rfl⟩) hE hS hA trivial rfl rfl hl.1 (Nat.le_of_ble_eq_true rfl) dX6_edit_103 ⟨Nat.le_of_ble_eq_true rfl, Nat.le_of_ble_eq_true rfl⟩) ?_
          refine n_top (y := nI (rRt (rLv (N (403 * 24))))) (rRI_pos c_91) ?_
          refine lv_iconst (v := nI 0) hx hb dX6_edit_106 rfl ?_
          refine xrd (xrunV (As := [.int (nI 24), .int (nI (rRt (rLv (N (403 * 24))))), .int (nI 0)]) (rest := []) S (c_X6_id l G m0 aN aH aS aT N Hs Sl tx kept fil ty at_ nu 24 (rRt (rLv (N (403 * 24)))) 0 hN (by have := rRt_le (rLv (N (403 * 24))); omega) (by have := rBg_le (rRt (rLv (N (403 * 24)))); omega)) (cwV 3 hts gX6_edit_X6_id rfl rfl rfl (by decide +kernel) ⟨Nat.le_of_ble_eq_true rfl, Nat.le_of_ble_eq_true rfl⟩) hE hS hA 0 6 hP rfl rfl rfl hP rfl rfl hl.1 (Nat.le_of_ble_eq_true rfl) dX6_edit_107 ⟨Nat.le_of_ble_eq_true rfl, Nat.le_of_ble_eq_true rfl⟩) ?_
          exact xret_i hx hb hr hk dX6_edit_110 (by rw [rmEdi, if_neg (fun z => z c_6), if_neg c_16, rmEdiK_d c_33, if_neg c_91])
        · refine lv_bipush (v := (-5)) hx hb dX6_edit_94 (by decide) ?_
          refine lv_goto (tgt := 110) hx hb dX6_edit_96 (by decide) ?_
          exact xret_i hx hb hr hk dX6_edit_110 (by rw [rmEdi, if_neg (fun z => z c_6), if_neg c_16, rmEdiK_d c_33, if_pos c_91])
    · refine lv_bipush (v := (-4)) hx hb dX6_edit_19 (by decide) ?_
      exact xret_i hx hb hr hk dX6_edit_21 (by rw [rmEdi, if_neg (fun z => z c_6), if_pos c_16])
  · refine lv_bipush (v := (-2)) hx hb dX6_edit_9 (by decide) ?_
    exact xret_i hx hb hr hk dX6_edit_11 (by rw [rmEdi, if_pos c_6])

theorem hw_X6_count_f7 : Cond.fieldLink RX6 7 "TailVectorsModel" "now" "[I" ∈ wsX6_count := by decide +kernel
theorem hi_X6_count_RX6 : ∀ w ∈ u_ws RX6 TX6 9, w ∈ wsX6_count := by decide +kernel
theorem hw_X6_count_f39 : Cond.fieldLink RX6 39 "TailVectorsModel" "kept" "I" ∈ wsX6_count := by decide +kernel
theorem hw_X6_count_f102 : Cond.fieldLink RX6 102 "TailVectorsModel" "typed" "I" ∈ wsX6_count := by decide +kernel
set_option maxHeartbeats 4000000 in
set_option maxRecDepth 100000 in
theorem c_X6_count (l : Launch) (G : xG) (m0 : Nat) (aN : Nat) (aH : Nat) (aS : Nat) (aT : Nat) (N : Nat → Nat) (Hs : Nat → Nat) (Sl : Nat → Nat) (tx : Nat → Nat) (kept : Nat) (fil : Nat) (ty : Nat) (at_ : Nat) (nu : Nat) (w : Int32) (hN : ∀ j, N j < 2 ^ 24) (hev : 1 ≤ N 10171) (hev2 : N 10171 ≤ 24) (hrows : ∀ v, v ≤ 24 → N (403 * v) ≤ 300) (hwin : ∀ v, v < N 10171 → N (10075 + 4 * v + 2) + rLen N v ≤ N (403 * v)) : Met l yX6_count wsX6_count ({ frames := 6, cells := 0, slots := 0, locals := 131 } : Room) (xPc G [.ref m0, .int w] (fun H => va_P G.1 vwCl [(m0, .inr (6, [.ref aN, .ref aH, .int (nI kept), .ref aS, .int (nI fil), .int (nI ty), .ref aT, .int (nI at_), .int (nI nu)])), (aN, .inl (xcI G, 10276, .inl (nf N))), (aH, .inl (xcI G, 41104, .inl (nf Hs))), (aS, .inl (xcI G, 10276, .inl (nf Sl))), (aT, .inl (xcC G, 60, .inl (nf tx)))] H)) (k2_QcV (.int (rmCou N kept ty w))) 0 0 (fun _ => False) := by
  refine xMet (cc := cX6_count) (nL := 2) (ret := (some (.int))) (by decide) rfl (Nat.le_of_ble_eq_true rfl) ?_
  intro p e s m below meth c S hr hk hnm hE hP ls hl
  obtain ⟨hx, hb, hml, hown, hts⟩ := id S
  have hown : s.vm.findClass RX6 = some m.cls := hown
  have hK := hE.1
  have hS : va_S (fun _ : Nat => False) s.heap s.heap [] := va_S.rf
  have hA : ∀ q, (fun _ : Nat => False) q → xB0 G ≤ q := fun _ h => h.elim
  have hP : va_P G.1 vwCl [(m0, .inr (6, [.ref aN, .ref aH, .int (nI kept), .ref aS, .int (nI fil), .int (nI ty), .ref aT, .int (nI at_), .int (nI nu)])), (aN, .inl (xcI G, 10276, .inl (nf N))), (aH, .inl (xcI G, 41104, .inl (nf Hs))), (aS, .inl (xcI G, 10276, .inl (nf Sl))), (aT, .inl (xcC G, 60, .inl (nf tx)))] s.heap := hP
  have hl : lv_has ls 2 [(0, .ref m0), (1, .int w)] := hl
  refine lv_iload_n hx hb dX6_count_0 rfl (lv_at hl 1 rfl) ?_
  by_cases c_1 : 0 ≤ (w).toInt ∧ (w).toInt ≤ 8
  · obtain ⟨j1, hj1⟩ : ∃ j : Nat, j = (w).toInt.toNat := ⟨_, rfl⟩
    have hx1 : (w).toInt = (j1 : Int) + 0 := by omega
    rcases (show j1 = 0 ∨ j1 = 1 ∨ j1 = 2 ∨ j1 = 3 ∨ j1 = 4 ∨ j1 = 5 ∨ j1 = 6 ∨ j1 = 7 ∨ j1 = 8 by omega) with hz | hz | hz | hz | hz | hz | hz | hz | hz
    · have hw1 : w = 0 := Int32.toInt_inj.mp (by rw [hx1, hz]; rfl)
      refine lv_tableIn (off := 51) (tgt := 52) hx hb dX6_count_1 (by rw [hw1]; decide) (by rw [hw1]; decide) (by rw [hw1]; rfl) (by decide) ?_
      refine lv_aload_n hx hb dX6_count_52 rfl (lv_at hl 0 rfl) ?_
      refine va_get (D := G.1) (ci := 6) (v := .ref aN) (C := RX6) (T := TX6) (N := 9) hx hb hts hi_X6_count_RX6 hown hK hP 0 rfl rfl 0 (by decide) (hts _ hw_X6_count_f7) (fun _ h9 => h9) rfl dX6_count_53 ?_
      refine lv_sipush (v := nI 10171) hx hb dX6_count_56 (by decide) ?_
      refine n_iald hx hb hK hP 1 0 rfl rfl (by omega) (by decide) dX6_count_59 ?_
      exact xret_i hx hb hr hk dX6_count_60 (by rw [hw1]; rfl)
    · have hw1 : w = 1 := Int32.toInt_inj.mp (by rw [hx1, hz]; rfl)
      refine lv_tableIn (off := 60) (tgt := 61) hx hb dX6_count_1 (by rw [hw1]; decide) (by rw [hw1]; decide) (by rw [hw1]; rfl) (by decide) ?_
      refine lv_aload_n hx hb dX6_count_61 rfl (lv_at hl 0 rfl) ?_
      refine xrd (xrunV (As := []) (rest := []) S (c_X6_there l G m0 aN aH aS aT N Hs Sl tx kept fil ty at_ nu hN hev hev2) (cwV 0 hts gX6_count_X6_there rfl rfl rfl (by decide +kernel) ⟨Nat.le_of_ble_eq_true rfl, Nat.le_of_ble_eq_true rfl⟩) hE hS hA 0 6 hP rfl rfl rfl hP rfl rfl hl.1 (Nat.le_of_ble_eq_true rfl) dX6_count_62 ⟨Nat.le_of_ble_eq_true rfl, Nat.le_of_ble_eq_true rfl⟩) ?_
      exact xret_i hx hb hr hk dX6_count_65 (by rw [hw1]; rfl)
    · have hw1 : w = 2 := Int32.toInt_inj.mp (by rw [hx1, hz]; rfl)
      refine lv_tableIn (off := 65) (tgt := 66) hx hb dX6_count_1 (by rw [hw1]; decide) (by rw [hw1]; decide) (by rw [hw1]; rfl) (by decide) ?_
      refine lv_aload_n hx hb dX6_count_66 rfl (lv_at hl 0 rfl) ?_
      refine va_get (D := G.1) (ci := 6) (v := .ref aN) (C := RX6) (T := TX6) (N := 9) hx hb hts hi_X6_count_RX6 hown hK hP 0 rfl rfl 0 (by decide) (hts _ hw_X6_count_f7) (fun _ h9 => h9) rfl dX6_count_67 ?_
      refine lv_sipush (v := nI 10172) hx hb dX6_count_70 (by decide) ?_
      refine n_iald hx hb hK hP 1 0 rfl rfl (by omega) (by decide) dX6_count_73 ?_
      exact xret_i hx hb hr hk dX6_count_74 (by rw [hw1]; rfl)
    · have hw1 : w = 3 := Int32.toInt_inj.mp (by rw [hx1, hz]; rfl)
      refine lv_tableIn (off := 74) (tgt := 75) hx hb dX6_count_1 (by rw [hw1]; decide) (by rw [hw1]; decide) (by rw [hw1]; rfl) (by decide) ?_
      refine lv_aload_n hx hb dX6_count_75 rfl (lv_at hl 0 rfl) ?_
      refine xrd (xrunV (As := []) (rest := []) S (c_X6_used l G m0 aN aH aS aT N Hs Sl tx kept fil ty at_ nu hN hev hev2 hrows) (cwV 0 hts gX6_count_X6_used rfl rfl rfl (by decide +kernel) ⟨Nat.le_of_ble_eq_true rfl, Nat.le_of_ble_eq_true rfl⟩) hE hS hA 0 6 hP rfl rfl rfl hP rfl rfl hl.1 (Nat.le_of_ble_eq_true rfl) dX6_count_76 ⟨Nat.le_of_ble_eq_true rfl, Nat.le_of_ble_eq_true rfl⟩) ?_
      exact xret_i hx hb hr hk dX6_count_79 (by rw [hw1]; rfl)
    · have hw1 : w = 4 := Int32.toInt_inj.mp (by rw [hx1, hz]; rfl)
      refine lv_tableIn (off := 79) (tgt := 80) hx hb dX6_count_1 (by rw [hw1]; decide) (by rw [hw1]; decide) (by rw [hw1]; rfl) (by decide) ?_
      refine lv_aload_n hx hb dX6_count_80 rfl (lv_at hl 0 rfl) ?_
      refine va_get (D := G.1) (ci := 6) (v := .ref aN) (C := RX6) (T := TX6) (N := 9) hx hb hts hi_X6_count_RX6 hown hK hP 0 rfl rfl 0 (by decide) (hts _ hw_X6_count_f7) (fun _ h9 => h9) rfl dX6_count_81 ?_
      refine lv_sipush (v := nI 10172) hx hb dX6_count_84 (by decide) ?_
      refine n_iald hx hb hK hP 1 0 rfl rfl (by omega) (by decide) dX6_count_87 ?_
      refine lv_aload_n hx hb dX6_count_88 rfl (lv_at hl 0 rfl) ?_
      refine xrd (xrunV (As := []) (rest := [.int (nI (N 10172))]) S (c_X6_used l G m0 aN aH aS aT N Hs Sl tx kept fil ty at_ nu hN hev hev2 hrows) (cwV 0 hts gX6_count_X6_used rfl rfl rfl (by decide +kernel) ⟨Nat.le_of_ble_eq_true rfl, Nat.le_of_ble_eq_true rfl⟩) hE hS hA 0 6 hP rfl rfl rfl hP rfl rfl hl.1 (Nat.le_of_ble_eq_true rfl) dX6_count_89 ⟨Nat.le_of_ble_eq_true rfl, Nat.le_of_ble_eq_true rfl⟩) ?_
      refine lv_isub hx hb dX6_count_92 ?_
      exact xret_i hx hb hr hk dX6_count_93 (by rw [hw1]; rfl)
    · have hw1 : w = 5 := Int32.toInt_inj.mp (by rw [hx1, hz]; rfl)
      refine lv_tableIn (off := 93) (tgt := 94) hx hb dX6_count_1 (by rw [hw1]; decide) (by rw [hw1]; decide) (by rw [hw1]; rfl) (by decide) ?_
      refine lv_aload_n hx hb dX6_count_94 rfl (lv_at hl 0 rfl) ?_
      refine va_get (D := G.1) (ci := 6) (v := .ref aN) (C := RX6) (T := TX6) (N := 9) hx hb hts hi_X6_count_RX6 hown hK hP 0 rfl rfl 0 (by decide) (hts _ hw_X6_count_f7) (fun _ h9 => h9) rfl dX6_count_95 ?_
      refine lv_sipush (v := nI 10173) hx hb dX6_count_98 (by decide) ?_
      refine n_iald hx hb hK hP 1 0 rfl rfl (by omega) (by decide) dX6_count_101 ?_
      exact xret_i hx hb hr hk dX6_count_102 (by rw [hw1]; rfl)
    · have hw1 : w = 6 := Int32.toInt_inj.mp (by rw [hx1, hz]; rfl)
      refine lv_tableIn (off := 102) (tgt := 103) hx hb dX6_count_1 (by rw [hw1]; decide) (by rw [hw1]; decide) (by rw [hw1]; rfl) (by decide) ?_
      refine lv_aload_n hx hb dX6_count_103 rfl (lv_at hl 0 rfl) ?_
      refine xrd (xrunV (As := []) (rest := []) S (c_X6_lengths l G m0 aN aH aS aT N Hs Sl tx kept fil ty at_ nu hN hev hev2) (cwV 0 hts gX6_count_X6_lengths rfl rfl rfl (by decide +kernel) ⟨Nat.le_of_ble_eq_true rfl, Nat.le_of_ble_eq_true rfl⟩) hE hS hA 0 6 hP rfl rfl rfl hP rfl rfl hl.1 (Nat.le_of_ble_eq_true rfl) dX6_count_104 ⟨Nat.le_of_ble_eq_true rfl, Nat.le_of_ble_eq_true rfl⟩) ?_
      exact xret_i hx hb hr hk dX6_count_107 (by rw [hw1]; rfl)
    · have hw1 : w = 7 := Int32.toInt_inj.mp (by rw [hx1, hz]; rfl)
      refine lv_tableIn (off := 107) (tgt := 108) hx hb dX6_count_1 (by rw [hw1]; decide) (by rw [hw1]; decide) (by rw [hw1]; rfl) (by decide) ?_
      refine lv_aload_n hx hb dX6_count_108 rfl (lv_at hl 0 rfl) ?_
      refine va_get (D := G.1) (ci := 6) (v := .int (nI kept)) (C := RX6) (T := TX6) (N := 9) hx hb hts hi_X6_count_RX6 hown hK hP 0 rfl rfl 2 (by decide) (hts _ hw_X6_count_f39) (fun _ h9 => h9) rfl dX6_count_109 ?_
      exact xret_i hx hb hr hk dX6_count_112 (by rw [hw1]; rfl)
    · have hw1 : w = 8 := Int32.toInt_inj.mp (by rw [hx1, hz]; rfl)
      refine lv_tableIn (off := 112) (tgt := 113) hx hb dX6_count_1 (by rw [hw1]; decide) (by rw [hw1]; decide) (by rw [hw1]; rfl) (by decide) ?_
      refine lv_aload_n hx hb dX6_count_113 rfl (lv_at hl 0 rfl) ?_
      refine va_get (D := G.1) (ci := 6) (v := .int (nI ty)) (C := RX6) (T := TX6) (N := 9) hx hb hts hi_X6_count_RX6 hown hK hP 0 rfl rfl 5 (by decide) (hts _ hw_X6_count_f102) (fun _ h9 => h9) rfl dX6_count_114 ?_
      exact xret_i hx hb hr hk dX6_count_117 (by rw [hw1]; rfl)
  · refine lv_tableOut (tgt := 118) hx hb dX6_count_1 (by omega) (by decide) ?_
    refine lv_bipush (v := (-2)) hx hb dX6_count_118 (by decide) ?_
    exact xret_i hx hb hr hk dX6_count_120 (by rw [rmCou_d c_1])
