def rmGet (N : Nat → Nat) (v q : Int32) : Int32 := if rNo N v ∨ ¬ (nI 0 ≤ q ∧ q ≤ nI (rLen N v.toNatClampNeg) - nI 1) then -1 else nI (rVal N v.toNatClampNeg q.toNatClampNeg)
noncomputable def rmVecK (N : Nat → Nat) (k : Nat) (w : Int32) : Int32 :=
  if w = 0 then nI (rLen N k) else if w = 1 then bI (N (10075 + 4 * k + 1) = 1) else if w = 2 then nI (N (10075 + 4 * k + 2)) else if w = 3 then nI (N (403 * k)) else if w = 4 then nI (rLv (N (403 * k)))
  else if w = 5 then nI (sumN (rBl (rLv (N (403 * k)))) 5) else if w = 6 then (if rLv (N (403 * k)) = 0 then -5 else nI (rRt (rLv (N (403 * k))))) else if w = 7 then nI (N (403 * k) - 4 * rLv (N (403 * k)))
  else if w = 8 then nI (sumN (rVal N k) (rLen N k)) else if w = 9 then mxI (rVal N k) (rLen N k) else -2
noncomputable def rmVec (N : Nat → Nat) (v w : Int32) : Int32 := if rNo N v then -1 else rmVecK N v.toNatClampNeg w
theorem rmVecK_d {N : Nat → Nat} {k : Nat} {w : Int32} (h : ¬ (0 ≤ w.toInt ∧ w.toInt ≤ 9)) : rmVecK N k w = -2 := by
  unfold rmVecK
  repeat' rw [if_neg (fun q => h (by rw [q]; decide))]
def rmBloK (N : Nat → Nat) (k a b : Nat) : Int32 := if a < 5 ∧ b < rBl (rLv (N (403 * k))) a then nI (rId N k a b) else -5
def rmBlo (N : Nat → Nat) (v a b : Int32) : Int32 := if rNo N v then -1 else if a < 0 ∨ b < 0 then -2 else rmBloK N v.toNatClampNeg a.toNatClampNeg b.toNatClampNeg
noncomputable def rmSha (N : Nat → Nat) (v w : Int32) : Int32 := if rNo N v ∨ rNo N w then -1 else nI (sumN (rSh N v.toNatClampNeg (fun z => rHas N w.toNatClampNeg z)) 5)
def difP (f g : Nat → Nat) (n m : Nat) : Nat → Bool := fun k => !(decide (k < n) && decide (k < m) && decide (f k = g k))
def difR (f g : Nat → Nat) (n m : Nat) : Int32 := if lstN (difP f g n m) n 0 = n ∧ lstN (difP f g n m) n 0 = m then -5 else nI (lstN (difP f g n m) n 0)
def rmDif (N : Nat → Nat) (v w : Int32) : Int32 := if rNo N v ∨ rNo N w then -1 else difR (rVal N v.toNatClampNeg) (rVal N w.toNatClampNeg) (rLen N v.toNatClampNeg) (rLen N w.toNatClampNeg)
def fndP (f : Nat → Nat) (x : Int32) : Nat → Bool := fun k => decide (nI (f k) = x)
def fndR (f : Nat → Nat) (n : Nat) (x : Int32) (a : Nat) : Int32 := if lstN (fndP f x) (n - a) a < n then nI (lstN (fndP f x) (n - a) a) else -5
def rmFnd (N : Nat → Nat) (v x a : Int32) : Int32 := if rNo N v then -1 else if a < 0 then -2 else fndR (rVal N v.toNatClampNeg) (rLen N v.toNatClampNeg) x a.toNatClampNeg
def rWo (t l : Nat) : Nat → Nat := fun k => if t / 4 ^ (k + 1) < rBl t (k + 1) then 1 else 0
def rmWouK (N : Nat → Nat) (k : Nat) (w : Int32) : Int32 :=
  if N (10075 + 4 * k + 1) = 1 ∨ (if w = 0 then N (403 * k) = 300 else N (403 * k) = 0) then -4
  else if w = 0 then (if 0 < N (403 * k) ∧ N (403 * k) % 4 = 0 then nI (1 + rRt (rLv (N (403 * k)) + 1)) else 0)
  else if w = 2 then (if rLv (N (403 * k)) = 0 then 0 else nI (1 + rRt (rLv (N (403 * k)))))
  else nI (if rLv (N (403 * k) - 1) < rLv (N (403 * k)) then sumN (rWo (rLv (N (403 * k) - 1)) 0) (rCt (rLv (N (403 * k) - 1))) else 0)
def rmWou (N : Nat → Nat) (v w : Int32) : Int32 := if rNo N v then -1 else if ¬ (nI 0 ≤ w ∧ w ≤ nI 2) then -2 else rmWouK N v.toNatClampNeg w
noncomputable def rmEdiK (N : Nat → Nat) (w : Int32) : Int32 :=
  if w = 0 then nI (N (403 * 24)) else if w = 1 then nI (sumN (rOwn N) 5) else if w = 2 then nI (sumN (rBl (rLv (N (403 * 24)))) 5) else if w = 3 then nI (sumN (rSh N 24 (fun z => rIsOf N z)) 5)
  else (if rLv (N (403 * 24)) = 0 then -5 else nI (rId N 24 (rRt (rLv (N (403 * 24)))) 0))
noncomputable def rmEdi (N : Nat → Nat) (w : Int32) : Int32 := if ¬ (nI 0 ≤ w ∧ w ≤ nI 4) then -2 else if N 10173 = 0 then -4 else rmEdiK N w
noncomputable def rmCou (N : Nat → Nat) (kept ty : Nat) (w : Int32) : Int32 :=
  if w = 0 then nI (N 10171) else if w = 1 then nI (sumN (fun z => N (10075 + 4 * z)) (N 10171)) else if w = 2 then nI (N 10172) else if w = 3 then nI (sumN (fun z => bN (rUs N z)) (N 10172))
  else if w = 4 then nI (N 10172) - nI (sumN (fun z => bN (rUs N z)) (N 10172)) else if w = 5 then nI (N 10173) else if w = 6 then nI (sumN (rLs N) (N 10171)) else if w = 7 then nI kept else if w = 8 then nI ty else -2
theorem rmCou_d {N : Nat → Nat} {kept ty : Nat} {w : Int32} (h : ¬ (0 ≤ w.toInt ∧ w.toInt ≤ 8)) : rmCou N kept ty w = -2 := by
  unfold rmCou
  repeat' rw [if_neg (fun q => h (by rw [q]; decide))]

set_option maxHeartbeats 4000000 in
set_option maxRecDepth 100000 in
theorem c_X6_vector (l : Launch) (G : xG) (m0 : Nat) (aN : Nat) (aH : Nat) (aS : Nat) (aT : Nat) (N : Nat → Nat) (Hs : Nat → Nat) (Sl : Nat → Nat) (tx : Nat → Nat) (kept : Nat) (fil : Nat) (ty : Nat) (at_ : Nat) (nu : Nat) (v : Int32) (w : Int32) (hN : ∀ j, N j < 2 ^ 24) (hev : 1 ≤ N 10171) (hev2 : N 10171 ≤ 24) (hrows : ∀ v, v ≤ 24 → N (403 * v) ≤ 300) (hwin : ∀ v, v < N 10171 → N (10075 + 4 * v + 2) + rLen N v ≤ N (403 * v)) : Met l yX6_vector wsX6_vector ({ frames := 4, cells := 0, slots := 0, locals := 84 } : Room) (xPc G [.ref m0, .int v, .int w] (fun H => va_P G.1 vwCl [(m0, .inr (6, [.ref aN, .ref aH, .int (nI kept), .ref aS, .int (nI fil), .int (nI ty), .ref aT, .int (nI at_), .int (nI nu)])), (aN, .inl (xcI G, 10276, .inl (nf N))), (aH, .inl (xcI G, 41104, .inl (nf Hs))), (aS, .inl (xcI G, 10276, .inl (nf Sl))), (aT, .inl (xcC G, 60, .inl (nf tx)))] H)) (k2_QcV (.int (rmVec N v w))) 0 0 (fun _ => False) := by
  refine xMet (cc := cX6_vector) (nL := 4) (ret := (some (.int))) (by decide) rfl (Nat.le_of_ble_eq_true rfl) ?_
  intro p e s m below meth c S hr hk hnm hE hP ls hl
  obtain ⟨hx, hb, hml, hown, hts⟩ := id S
  have hown : s.vm.findClass RX6 = some m.cls := hown
  have hK := hE.1
  have hS : va_S (fun _ : Nat => False) s.heap s.heap [] := va_S.rf
  have hA : ∀ q, (fun _ : Nat => False) q → xB0 G ≤ q := fun _ h => h.elim
  have hP : va_P G.1 vwCl [(m0, .inr (6, [.ref aN, .ref aH, .int (nI kept), .ref aS, .int (nI fil), .int (nI ty), .ref aT, .int (nI at_), .int (nI nu)])), (aN, .inl (xcI G, 10276, .inl (nf N))), (aH, .inl (xcI G, 41104, .inl (nf Hs))), (aS, .inl (xcI G, 10276, .inl (nf Sl))), (aT, .inl (xcC G, 60, .inl (nf tx)))] s.heap := hP
  have hl : lv_has ls 4 [(0, .ref m0), (1, .int v), (2, .int w)] := hl
  refine lv_aload_n hx hb dX6_vector_0 rfl (lv_at hl 0 rfl) ?_
  refine lv_iload_n hx hb dX6_vector_1 rfl (lv_at hl 1 rfl) ?_
  refine xrd (xrunV (As := [.int v]) (rest := []) S (c_X6_no l G m0 aN aH aS aT N Hs Sl tx kept fil ty at_ nu v hN hev hev2) (cwV 1 hts gX6_vector_X6_no rfl rfl rfl (by decide +kernel) ⟨Nat.le_of_ble_eq_true rfl, Nat.le_of_ble_eq_true rfl⟩) hE hS hA 0 6 hP rfl rfl rfl hP rfl rfl hl.1 (Nat.le_of_ble_eq_true rfl) dX6_vector_2 ⟨Nat.le_of_ble_eq_true rfl, Nat.le_of_ble_eq_true rfl⟩) ?_
  refine b_if_eq (tgt := 10) hx hb dX6_vector_5 (by decide) (fun c_5 => ?_) (fun c_5 => ?_)
  · have c_5b := c_5
    obtain ⟨k, rfl, hk1, hk2⟩ := rNo_not hev hev2 c_5
    have hkc : (nI k).toNatClampNeg = k := nI_clamp (by omega)
    have hwk := hwin k hk1
    have hrk := hrows k (by omega)
    refine lv_aload_n hx hb dX6_vector_10 rfl (lv_at hl 0 rfl) ?_
    refine lv_iload_n hx hb dX6_vector_11 rfl (lv_at hl 1 rfl) ?_
    refine xrd (xrunV (As := [.int (nI k)]) (rest := []) S (c_X6_rowLength l G m0 aN aH aS aT N Hs Sl tx kept fil ty at_ nu k hN (by omega)) (cwV 1 hts gX6_vector_X6_rowLength rfl rfl rfl (by decide +kernel) ⟨Nat.le_of_ble_eq_true rfl, Nat.le_of_ble_eq_true rfl⟩) hE hS hA 0 6 hP rfl rfl rfl hP rfl rfl hl.1 (Nat.le_of_ble_eq_true rfl) dX6_vector_12 ⟨Nat.le_of_ble_eq_true rfl, Nat.le_of_ble_eq_true rfl⟩) ?_
    refine xrd (xrunS (As := [.int (nI (N (403 * k)))]) (rest := []) S (c_X6_leaves l G (N (403 * k)) (by omega)) (va_cwS 1 hts gX6_vector_X6_leaves rfl rfl rfl (by decide +kernel) ⟨Nat.le_of_ble_eq_true rfl, Nat.le_of_ble_eq_true rfl⟩) hE hS hA trivial rfl rfl hl.1 (Nat.le_of_ble_eq_true rfl) dX6_vector_15 ⟨Nat.le_of_ble_eq_true rfl, Nat.le_of_ble_eq_true rfl⟩) ?_
    refine lv_istore_n (lv' := [(3, .int (nI (rLv (N (403 * k))))), (0, .ref m0), (1, .int (nI k)), (2, .int w)]) hx hb dX6_vector_18 rfl hl (by decide) rfl (fun ls hl => ?_)
    refine lv_iload_n hx hb dX6_vector_19 rfl (lv_at hl 3 rfl) ?_
    by_cases c_20 : 0 ≤ (w).toInt ∧ (w).toInt ≤ 9
    · obtain ⟨j20, hj20⟩ : ∃ j : Nat, j = (w).toInt.toNat := ⟨_, rfl⟩
      have hx20 : (w).toInt = (j20 : Int) + 0 := by omega
      rcases (show j20 = 0 ∨ j20 = 1 ∨ j20 = 2 ∨ j20 = 3 ∨ j20 = 4 ∨ j20 = 5 ∨ j20 = 6 ∨ j20 = 7 ∨ j20 = 8 ∨ j20 = 9 by omega) with hz | hz | hz | hz | hz | hz | hz | hz | hz | hz
      · have hw20 : w = 0 := Int32.toInt_inj.mp (by rw [hx20, hz]; rfl)
        refine lv_tableIn (off := 56) (tgt := 76) hx hb dX6_vector_20 (by rw [hw20]; decide) (by rw [hw20]; decide) (by rw [hw20]; rfl) (by decide) ?_
        refine lv_aload_n hx hb dX6_vector_76 rfl (lv_at hl 1 rfl) ?_
        refine lv_iload_n hx hb dX6_vector_77 rfl (lv_at hl 2 rfl) ?_
        refine xrd (xrunV (As := [.int (nI k)]) (rest := []) S (c_X6_length l G m0 aN aH aS aT N Hs Sl tx kept fil ty at_ nu k hN (by omega)) (cwV 1 hts gX6_vector_X6_length rfl rfl rfl (by decide +kernel) ⟨Nat.le_of_ble_eq_true rfl, Nat.le_of_ble_eq_true rfl⟩) hE hS hA 0 6 hP rfl rfl rfl hP rfl rfl hl.1 (Nat.le_of_ble_eq_true rfl) dX6_vector_78 ⟨Nat.le_of_ble_eq_true rfl, Nat.le_of_ble_eq_true rfl⟩) ?_
        exact xret_i hx hb hr hk dX6_vector_81 (by rw [rmVec, if_neg c_5b, hkc, hw20]; rfl)
      · have hw20 : w = 1 := Int32.toInt_inj.mp (by rw [hx20, hz]; rfl)
        refine lv_tableIn (off := 62) (tgt := 82) hx hb dX6_vector_20 (by rw [hw20]; decide) (by rw [hw20]; decide) (by rw [hw20]; rfl) (by decide) ?_
        refine lv_aload_n hx hb dX6_vector_82 rfl (lv_at hl 1 rfl) ?_
        refine lv_iload_n hx hb dX6_vector_83 rfl (lv_at hl 2 rfl) ?_
        refine xrd (xrunV (As := [.int (nI k)]) (rest := []) S (c_X6_isWindow l G m0 aN aH aS aT N Hs Sl tx kept fil ty at_ nu k hN (by omega)) (cwV 1 hts gX6_vector_X6_isWindow rfl rfl rfl (by decide +kernel) ⟨Nat.le_of_ble_eq_true rfl, Nat.le_of_ble_eq_true rfl⟩) hE hS hA 0 6 hP rfl rfl rfl hP rfl rfl hl.1 (Nat.le_of_ble_eq_true rfl) dX6_vector_84 ⟨Nat.le_of_ble_eq_true rfl, Nat.le_of_ble_eq_true rfl⟩) ?_
        refine b_if_eq (tgt := 94) hx hb dX6_vector_87 (by decide) (fun c_87 => ?_) (fun c_87 => ?_)
        · refine lv_iconst (v := nI 0) hx hb dX6_vector_94 rfl ?_
          exact xret_i hx hb hr hk dX6_vector_95 (by rw [rmVec, if_neg c_5b, hkc, hw20]; exact (xb0 c_87))
        · refine lv_iconst (v := nI 1) hx hb dX6_vector_90 rfl ?_
          refine lv_goto (tgt := 95) hx hb dX6_vector_91 (by decide) ?_
          exact xret_i hx hb hr hk dX6_vector_95 (by rw [rmVec, if_neg c_5b, hkc, hw20]; exact (xb1 c_87))
      · have hw20 : w = 2 := Int32.toInt_inj.mp (by rw [hx20, hz]; rfl)
        refine lv_tableIn (off := 76) (tgt := 96) hx hb dX6_vector_20 (by rw [hw20]; decide) (by rw [hw20]; decide) (by rw [hw20]; rfl) (by decide) ?_
        refine lv_aload_n hx hb dX6_vector_96 rfl (lv_at hl 1 rfl) ?_
        refine lv_iload_n hx hb dX6_vector_97 rfl (lv_at hl 2 rfl) ?_
        refine xrd (xrunV (As := [.int (nI k)]) (rest := []) S (c_X6_first l G m0 aN aH aS aT N Hs Sl tx kept fil ty at_ nu k hN (by omega)) (cwV 1 hts gX6_vector_X6_first rfl rfl rfl (by decide +kernel) ⟨Nat.le_of_ble_eq_true rfl, Nat.le_of_ble_eq_true rfl⟩) hE hS hA 0 6 hP rfl rfl rfl hP rfl rfl hl.1 (Nat.le_of_ble_eq_true rfl) dX6_vector_98 ⟨Nat.le_of_ble_eq_true rfl, Nat.le_of_ble_eq_true rfl⟩) ?_
        exact xret_i hx hb hr hk dX6_vector_101 (by rw [rmVec, if_neg c_5b, hkc, hw20]; rfl)
      · have hw20 : w = 3 := Int32.toInt_inj.mp (by rw [hx20, hz]; rfl)
        refine lv_tableIn (off := 82) (tgt := 102) hx hb dX6_vector_20 (by rw [hw20]; decide) (by rw [hw20]; decide) (by rw [hw20]; rfl) (by decide) ?_
        refine lv_aload_n hx hb dX6_vector_102 rfl (lv_at hl 1 rfl) ?_
        refine lv_iload_n hx hb dX6_vector_103 rfl (lv_at hl 2 rfl) ?_
        refine xrd (xrunV (As := [.int (nI k)]) (rest := []) S (c_X6_rowLength l G m0 aN aH aS aT N Hs Sl tx kept fil ty at_ nu k hN (by omega)) (cwV 1 hts gX6_vector_X6_rowLength rfl rfl rfl (by decide +kernel) ⟨Nat.le_of_ble_eq_true rfl, Nat.le_of_ble_eq_true rfl⟩) hE hS hA 0 6 hP rfl rfl rfl hP rfl rfl hl.1 (Nat.le_of_ble_eq_true rfl) dX6_vector_104 ⟨Nat.le_of_ble_eq_true rfl, Nat.le_of_ble_eq_true rfl⟩) ?_
        exact xret_i hx hb hr hk dX6_vector_107 (by rw [rmVec, if_neg c_5b, hkc, hw20]; rfl)
      · have hw20 : w = 4 := Int32.toInt_inj.mp (by rw [hx20, hz]; rfl)
        refine lv_tableIn (off := 88) (tgt := 108) hx hb dX6_vector_20 (by rw [hw20]; decide) (by rw [hw20]; decide) (by rw [hw20]; rfl) (by decide) ?_
        refine lv_iload_n hx hb dX6_vector_108 rfl (lv_at hl 0 rfl) ?_
        exact xret_i hx hb hr hk dX6_vector_109 (by rw [rmVec, if_neg c_5b, hkc, hw20]; rfl)
      · have hw20 : w = 5 := Int32.toInt_inj.mp (by rw [hx20, hz]; rfl)
        refine lv_tableIn (off := 90) (tgt := 110) hx hb dX6_vector_20 (by rw [hw20]; decide) (by rw [hw20]; decide) (by rw [hw20]; rfl) (by decide) ?_
        refine lv_iload_n hx hb dX6_vector_110 rfl (lv_at hl 0 rfl) ?_
        refine xrd (xrunS (As := [.int (nI (rLv (N (403 * k))))]) (rest := []) S (c_X6_allBlocks l G (rLv (N (403 * k))) (by have := rLv_le hrk; omega)) (va_cwS 1 hts gX6_vector_X6_allBlocks rfl rfl rfl (by decide +kernel) ⟨Nat.le_of_ble_eq_true rfl, Nat.le_of_ble_eq_true rfl⟩) hE hS hA trivial rfl rfl hl.1 (Nat.le_of_ble_eq_true rfl) dX6_vector_111 ⟨Nat.le_of_ble_eq_true rfl, Nat.le_of_ble_eq_true rfl⟩) ?_
        exact xret_i hx hb hr hk dX6_vector_114 (by rw [rmVec, if_neg c_5b, hkc, hw20]; rfl)
      · have hw20 : w = 6 := Int32.toInt_inj.mp (by rw [hx20, hz]; rfl)
        refine lv_tableIn (off := 95) (tgt := 115) hx hb dX6_vector_20 (by rw [hw20]; decide) (by rw [hw20]; decide) (by rw [hw20]; rfl) (by decide) ?_
        refine lv_iload_n hx hb dX6_vector_115 rfl (lv_at hl 0 rfl) ?_
        refine n_if_ne (tgt := 124) hx hb (by have := rLv_le hrk; omega) dX6_vector_116 (by decide) (fun c_116 => ?_) (fun c_116 => ?_)
        · refine lv_iload_n hx hb dX6_vector_124 rfl (lv_at hl 0 rfl) ?_
          refine xrd (xrunS (As := [.int (nI (rLv (N (403 * k))))]) (rest := []) S (c_X6_rootLevel l G (rLv (N (403 * k))) (by have := rLv_le hrk; omega)) (va_cwS 1 hts gX6_vector_X6_rootLevel rfl rfl rfl (by decide +kernel) ⟨Nat.le_of_ble_eq_true rfl, Nat.le_of_ble_eq_true rfl⟩) hE hS hA trivial rfl rfl hl.1 (Nat.le_of_ble_eq_true rfl) dX6_vector_125 ⟨Nat.le_of_ble_eq_true rfl, Nat.le_of_ble_eq_true rfl⟩) ?_
          refine n_top (y := nI (rRt (rLv (N (403 * k))))) (rRI_pos c_116) ?_
          exact xret_i hx hb hr hk dX6_vector_128 (by rw [rmVec, if_neg c_5b, hkc, hw20]; exact (if_neg c_116).symm)
        · refine lv_bipush (v := (-5)) hx hb dX6_vector_119 (by decide) ?_
          refine lv_goto (tgt := 128) hx hb dX6_vector_121 (by decide) ?_
          exact xret_i hx hb hr hk dX6_vector_128 (by rw [rmVec, if_neg c_5b, hkc, hw20]; exact (if_pos c_116).symm)
      · have hw20 : w = 7 := Int32.toInt_inj.mp (by rw [hx20, hz]; rfl)
        refine lv_tableIn (off := 109) (tgt := 129) hx hb dX6_vector_20 (by rw [hw20]; decide) (by rw [hw20]; decide) (by rw [hw20]; rfl) (by decide) ?_
        refine lv_aload_n hx hb dX6_vector_129 rfl (lv_at hl 1 rfl) ?_
        refine lv_iload_n hx hb dX6_vector_130 rfl (lv_at hl 2 rfl) ?_
        refine xrd (xrunV (As := [.int (nI k)]) (rest := []) S (c_X6_rowLength l G m0 aN aH aS aT N Hs Sl tx kept fil ty at_ nu k hN (by omega)) (cwV 1 hts gX6_vector_X6_rowLength rfl rfl rfl (by decide +kernel) ⟨Nat.le_of_ble_eq_true rfl, Nat.le_of_ble_eq_true rfl⟩) hE hS hA 0 6 hP rfl rfl rfl hP rfl rfl hl.1 (Nat.le_of_ble_eq_true rfl) dX6_vector_131 ⟨Nat.le_of_ble_eq_true rfl, Nat.le_of_ble_eq_true rfl⟩) ?_
        refine lv_iconst (v := nI 4) hx hb dX6_vector_134 rfl ?_
        refine lv_iload_n hx hb dX6_vector_135 rfl (lv_at hl 0 rfl) ?_
        refine n_imul hx hb dX6_vector_136 ?_
        refine n_isub hx hb (by unfold rLv; split <;> omega) dX6_vector_137 ?_
        exact xret_i hx hb hr hk dX6_vector_138 (by rw [rmVec, if_neg c_5b, hkc, hw20]; rfl)
      · have hw20 : w = 8 := Int32.toInt_inj.mp (by rw [hx20, hz]; rfl)
        refine lv_tableIn (off := 119) (tgt := 139) hx hb dX6_vector_20 (by rw [hw20]; decide) (by rw [hw20]; decide) (by rw [hw20]; rfl) (by decide) ?_
        refine lv_aload_n hx hb dX6_vector_139 rfl (lv_at hl 1 rfl) ?_
        refine lv_iload_n hx hb dX6_vector_140 rfl (lv_at hl 2 rfl) ?_
        refine xrd (xrunV (As := [.int (nI k)]) (rest := []) S (c_X6_sum l G m0 aN aH aS aT N Hs Sl tx kept fil ty at_ nu k hN (by omega) (by omega)) (cwV 1 hts gX6_vector_X6_sum rfl rfl rfl (by decide +kernel) ⟨Nat.le_of_ble_eq_true rfl, Nat.le_of_ble_eq_true rfl⟩) hE hS hA 0 6 hP rfl rfl rfl hP rfl rfl hl.1 (Nat.le_of_ble_eq_true rfl) dX6_vector_141 ⟨Nat.le_of_ble_eq_true rfl, Nat.le_of_ble_eq_true rfl⟩) ?_
        exact xret_i hx hb hr hk dX6_vector_144 (by rw [rmVec, if_neg c_5b, hkc, hw20]; rfl)
      · have hw20 : w = 9 := Int32.toInt_inj.mp (by rw [hx20, hz]; rfl)
        refine lv_tableIn (off := 125) (tgt := 145) hx hb dX6_vector_20 (by rw [hw20]; decide) (by rw [hw20]; decide) (by rw [hw20]; rfl) (by decide) ?_
        refine lv_aload_n hx hb dX6_vector_145 rfl (lv_at hl 1 rfl) ?_
        refine lv_iload_n hx hb dX6_vector_146 rfl (lv_at hl 2 rfl) ?_
        refine xrd (xrunV (As := [.int (nI k)]) (rest := []) S (c_X6_greatest l G m0 aN aH aS aT N Hs Sl tx kept fil ty at_ nu k hN (by omega) (by omega)) (cwV 1 hts gX6_vector_X6_greatest rfl rfl rfl (by decide +kernel) ⟨Nat.le_of_ble_eq_true rfl, Nat.le_of_ble_eq_true rfl⟩) hE hS hA 0 6 hP rfl rfl rfl hP rfl rfl hl.1 (Nat.le_of_ble_eq_true rfl) dX6_vector_147 ⟨Nat.le_of_ble_eq_true rfl, Nat.le_of_ble_eq_true rfl⟩) ?_
        exact xret_i hx hb hr hk dX6_vector_150 (by rw [rmVec, if_neg c_5b, hkc, hw20]; rfl)
    · refine lv_tableOut (tgt := 151) hx hb dX6_vector_20 (by omega) (by decide) ?_
      refine lv_bipush (v := (-2)) hx hb dX6_vector_151 (by decide) ?_
      exact xret_i hx hb hr hk dX6_vector_153 (by rw [rmVec, if_neg c_5b, hkc, rmVecK_d c_20])
  · refine lv_iconst (v := (-1)) hx hb dX6_vector_8 rfl ?_
    exact xret_i hx hb hr hk dX6_vector_9 (by rw [rmVec, if_pos c_5])
