def cpyN (N : Nat → Nat) (f t i : Nat) : Nat → Nat := fun j => if 403 * t ≤ j ∧ j < 403 * t + i then N (403 * f + (j - 403 * t)) else N j
theorem cpyN_0 (N : Nat → Nat) (f t : Nat) : cpyN N f t 0 = N := by
  funext j
  unfold cpyN
  rw [if_neg (by omega)]
theorem cpyN_s (N : Nat → Nat) (f t i : Nat) (hi : i < 403) : updN (cpyN N f t i) (403 * t + i) (cpyN N f t i (403 * f + i)) = cpyN N f t (i + 1) := by
  have e : cpyN N f t i (403 * f + i) = N (403 * f + i) := by
    unfold cpyN
    by_cases h : f = t
    · subst h; rw [if_neg (by omega)]
    · rw [if_neg (by omega)]
  rw [e]
  funext j
  unfold updN cpyN
  by_cases h : j = 403 * t + i
  · subst h
    rw [if_pos rfl, if_pos (by omega)]
    congr 1
    omega
  · rw [if_neg h]
    by_cases h2 : 403 * t ≤ j ∧ j < 403 * t + i
    · rw [if_pos h2, if_pos (by omega)]
    · rw [if_neg h2, if_neg (by omega)]
def recA (H : Nat → Nat) (i : Nat) : Nat → Nat := fun j => if j < i then H (j + 10276) else H j
theorem recA_0 (H : Nat → Nat) : recA H 0 = H := by
  funext j
  unfold recA
  rw [if_neg (by omega)]
theorem recA_s (H : Nat → Nat) (i : Nat) : updN (recA H i) i (recA H i (i + 10276)) = recA H (i + 1) := by
  funext j
  unfold updN recA
  by_cases h : j = i
  · subst h
    rw [if_pos rfl, if_neg (by omega), if_pos (by omega)]
  · rw [if_neg h]
    by_cases h2 : j < i
    · rw [if_pos h2, if_pos (by omega)]
    · rw [if_neg h2, if_neg (by omega)]
def recB (H N : Nat → Nat) (k i : Nat) : Nat → Nat := fun j => if 10276 * k ≤ j ∧ j < 10276 * k + i then N (j - 10276 * k) else H j
theorem recB_0 (H N : Nat → Nat) (k : Nat) : recB H N k 0 = H := by
  funext j
  unfold recB
  rw [if_neg (by omega)]
theorem recB_s (H N : Nat → Nat) (k i : Nat) : updN (recB H N k i) (10276 * k + i) (N i) = recB H N k (i + 1) := by
  funext j
  unfold updN recB
  by_cases h : j = 10276 * k + i
  · subst h
    rw [if_pos rfl, if_pos (by omega), Nat.add_sub_cancel_left]
  · rw [if_neg h]
    by_cases h2 : 10276 * k ≤ j ∧ j < 10276 * k + i
    · rw [if_pos h2, if_pos (by omega)]
    · rw [if_neg h2, if_neg (by omega)]
def rRecH (H N : Nat → Nat) (k : Nat) : Nat → Nat := recB (if k = 4 then recA H 30828 else H) N (if k = 4 then 3 else k) 10276
def rRecK (k : Nat) : Nat := if k = 4 then 4 else k + 1
def rMk (N : Nat → Nat) (r k q w : Nat) : Nat → Nat :=
  if r = 24 ∧ w ≠ 0 ∧ N (10174 + (rBg k + q)) = 1 then N
  else if r = 24 then updN (updN (updN N (403 * r + 301 + (rBg k + q)) (N 10172)) 10172 (updN N (403 * r + 301 + (rBg k + q)) (N 10172) 10172 + 1)) (10174 + (rBg k + q)) 1
  else updN (updN N (403 * r + 301 + (rBg k + q)) (N 10172)) 10172 (updN N (403 * r + 301 + (rBg k + q)) (N 10172) 10172 + 1)
theorem rMk_lt {N : Nat → Nat} {r k q w : Nat} (hN : ∀ j, N j < 2 ^ 24) (hr : r ≤ 24) (hq : rBg k + q < 102) (hM : N 10172 + 1 < 2 ^ 24) : (∀ j, rMk N r k q w j < 2 ^ 24) ∧ rMk N r k q w 10172 ≤ N 10172 + 1 := by
  have e : updN N (403 * r + 301 + (rBg k + q)) (N 10172) 10172 = N 10172 := updN_n (by omega)
  have h1 : ∀ j, updN (updN N (403 * r + 301 + (rBg k + q)) (N 10172)) 10172 (updN N (403 * r + 301 + (rBg k + q)) (N 10172) 10172 + 1) j < 2 ^ 24 := updN_lt (updN_lt hN (by omega)) (by rw [e]; omega)
  unfold rMk
  split
  · exact ⟨hN, by omega⟩
  · split
    · refine ⟨updN_lt h1 (by omega), ?_⟩
      rw [updN_n (by omega), updN_s, e]
      exact Nat.le_refl _
    · refine ⟨h1, ?_⟩
      rw [updN_s, e]
      exact Nat.le_refl _
def rPl (N : Nat → Nat) (r l : Nat) : Nat → Nat → Nat
  | 0 => rMk N r 0 l 0
  | k + 1 => rMk (rPl N r l k) r (k + 1) (l / 4 ^ (k + 1)) (if l / 4 ^ (k + 1) < rBl l (k + 1) then 1 else 0)
def rPu (N : Nat → Nat) (r x : Nat) : Nat → Nat :=
  let l := rLv (N (403 * r))
  let N1 := if 0 < N (403 * r) ∧ N (403 * r) % 4 = 0 then rPl N r l (rRt (l + 1)) else N
  updN (updN N1 (403 * r + 1 + N (403 * r)) x) (403 * r) (N (403 * r) + 1)
def rSl (N : Nat → Nat) (r lf : Nat) : Nat → Nat → Nat
  | 0 => N
  | k + 1 => rMk (rSl N r lf k) r k (lf / 4 ^ k) 1
def rSe (N : Nat → Nat) (r q x : Nat) : Nat → Nat :=
  updN (if q < 4 * rLv (N (403 * r)) then rSl N r (q / 4) (rRt (rLv (N (403 * r))) + 1) else N) (403 * r + 1 + q) x
def rOl (N : Nat → Nat) (r t : Nat) : Nat → Nat → Nat
  | 0 => N
  | k + 1 => if t / 4 ^ (k + 1) < rBl t (k + 1) then rMk (rOl N r t k) r (k + 1) (t / 4 ^ (k + 1)) 1 else rOl N r t k
def rCt (t : Nat) : Nat := if t = 0 then 0 else rRt t
def rPo (N : Nat → Nat) (r : Nat) : Nat → Nat :=
  updN (if rLv (N (403 * r) - 1) < rLv (N (403 * r) - 1 + 1) then rOl N r (rLv (N (403 * r) - 1)) (rCt (rLv (N (403 * r) - 1))) else N) (403 * r) (N (403 * r) - 1)
noncomputable def rCo (N : Nat → Nat) (f : Nat) (P : Prop) (fi ma : Nat) : Nat → Nat :=
  let v := N 10171
  let N5 := updN (updN (updN (updN (cpyN N f v 403) (10075 + 4 * v) 1) (10075 + 4 * v + 1) (bN P)) (10075 + 4 * v + 2) fi) (10075 + 4 * v + 3) ma
  updN N5 10171 (N5 10171 + 1)
theorem rCt_le (t : Nat) : rCt t ≤ 4 := by unfold rCt; split; omega; exact rRt_le t
theorem rCt_ge {t k : Nat} (h : t ≠ 0 ∧ k ≤ rRt t) : k ≤ rCt t := by unfold rCt; rw [if_neg h.1]; exact h.2
theorem rCt_end {t k : Nat} (h : ¬ (t ≠ 0 ∧ k + 1 ≤ rRt t)) (h2 : k ≤ rCt t) : k = rCt t := by
  unfold rCt at h2 ⊢
  by_cases h3 : t = 0
  · rw [if_pos h3] at h2 ⊢; omega
  · rw [if_neg h3] at h2 ⊢
    have : ¬ k + 1 ≤ rRt t := fun q => h ⟨h3, q⟩
    omega
/-- a block's place among a row's numbers: by its leaf -/
theorem rBg_dv {k l : Nat} (hk : k ≤ 4) (hl : l ≤ 74) : rBg k + l / 4 ^ k < 102 := by
  rcases (show k = 0 ∨ k = 1 ∨ k = 2 ∨ k = 3 ∨ k = 4 by omega) with rfl | rfl | rfl | rfl | rfl <;> simp [rBg] <;> omega
theorem rPl_lt {N : Nat → Nat} {r l : Nat} (hN : ∀ j, N j < 2 ^ 24) (hr : r ≤ 24) (hl : l ≤ 74) (hM : N 10172 < 2 ^ 23) : ∀ k, k ≤ 4 → (∀ j, rPl N r l k j < 2 ^ 24) ∧ rPl N r l k 10172 ≤ N 10172 + k + 1 := by
  intro k
  induction k with
  | zero => intro _; exact rMk_lt hN hr (by have := rBg_dv (k := 0) (l := l) (by omega) hl; simpa using this) (by omega)
  | succ k ih =>
    intro hk
    obtain ⟨h1, h2⟩ := ih (by omega)
    have h3 := rMk_lt (w := if l / 4 ^ (k + 1) < rBl l (k + 1) then 1 else 0) h1 hr (rBg_dv hk hl) (by omega)
    exact ⟨h3.1, Nat.le_trans h3.2 (by omega)⟩
theorem rSl_lt {N : Nat → Nat} {r l : Nat} (hN : ∀ j, N j < 2 ^ 24) (hr : r ≤ 24) (hl : l ≤ 74) (hM : N 10172 < 2 ^ 23) : ∀ k, k ≤ 5 → (∀ j, rSl N r l k j < 2 ^ 24) ∧ rSl N r l k 10172 ≤ N 10172 + k := by
  intro k
  induction k with
  | zero => intro _; exact ⟨hN, Nat.le_refl _⟩
  | succ k ih =>
    intro hk
    obtain ⟨h1, h2⟩ := ih (by omega)
    have h3 := rMk_lt (w := 1) h1 hr (rBg_dv (k := k) (by omega) hl) (by omega)
    exact ⟨h3.1, Nat.le_trans h3.2 (by omega)⟩
theorem rOl_lt {N : Nat → Nat} {r l : Nat} (hN : ∀ j, N j < 2 ^ 24) (hr : r ≤ 24) (hl : l ≤ 74) (hM : N 10172 < 2 ^ 23) : ∀ k, k ≤ 4 → (∀ j, rOl N r l k j < 2 ^ 24) ∧ rOl N r l k 10172 ≤ N 10172 + k := by
  intro k
  induction k with
  | zero => intro _; exact ⟨hN, Nat.le_refl _⟩
  | succ k ih =>
    intro hk
    obtain ⟨h1, h2⟩ := ih (by omega)
    unfold rOl
    split
    · have h3 := rMk_lt (w := 1) h1 hr (rBg_dv (k := k + 1) (by omega) hl) (by omega)
      exact ⟨h3.1, Nat.le_trans h3.2 (by omega)⟩
    · exact ⟨h1, by omega⟩
theorem rRI_pos {n : Nat} (h : n ≠ 0) : rRI n = nI (rRt n) := if_neg h

theorem hw_X6_copies_f7 : Cond.fieldLink RX6 7 "TailVectorsModel" "now" "[I" ∈ wsX6_copies := by decide +kernel
theorem hi_X6_copies_RX6 : ∀ w ∈ u_ws RX6 TX6 9, w ∈ wsX6_copies := by decide +kernel
set_option maxHeartbeats 4000000 in
set_option maxRecDepth 100000 in
theorem c_X6_copies (l : Launch) (G : xG) (m0 : Nat) (aN : Nat) (aH : Nat) (aS : Nat) (aT : Nat) (N : Nat → Nat) (Hs : Nat → Nat) (Sl : Nat → Nat) (tx : Nat → Nat) (kept : Nat) (fil : Nat) (ty : Nat) (at_ : Nat) (nu : Nat) (f : Nat) (t : Nat) (hN : ∀ j, N j < 2 ^ 24) (hdis : xDis (xB0 G) [m0, aN, aH, aS, aT]) (hf24 : f ≤ 24) (ht24 : t ≤ 24) : Met l yX6_copies wsX6_copies ({ frames := 0, cells := 0, slots := 0, locals := 0 } : Room) (xPc G [.ref m0, .int (nI f), .int (nI t)] (fun H => va_P G.1 vwCl [(m0, .inr (6, [.ref aN, .ref aH, .int (nI kept), .ref aS, .int (nI fil), .int (nI ty), .ref aT, .int (nI at_), .int (nI nu)])), (aN, .inl (xcI G, 10276, .inl (nf N))), (aH, .inl (xcI G, 41104, .inl (nf Hs))), (aS, .inl (xcI G, 10276, .inl (nf Sl))), (aT, .inl (xcC G, 60, .inl (nf tx)))] H)) (xQ (σ := Unit) (fun _ => none) (fun _ H => va_P G.1 vwCl [(m0, .inr (6, [.ref aN, .ref aH, .int (nI kept), .ref aS, .int (nI fil), .int (nI ty), .ref aT, .int (nI at_), .int (nI nu)])), (aN, .inl (xcI G, 10276, .inl (nf (cpyN N f t 403)))), (aH, .inl (xcI G, 41104, .inl (nf Hs))), (aS, .inl (xcI G, 10276, .inl (nf Sl))), (aT, .inl (xcC G, 60, .inl (nf tx)))] H) (fun q => q ∈ [m0, aN, aH, aS, aT])) 0 0 (fun q => q ∈ [m0, aN, aH, aS, aT]) := by
  refine xMet (cc := cX6_copies) (nL := 4) (ret := none) (by decide) rfl (Nat.le_of_ble_eq_true rfl) ?_
  intro p e s m below meth c S hr hk hnm hE hP ls hl
  obtain ⟨hx, hb, hml, hown, hts⟩ := id S
  have hown : s.vm.findClass RX6 = some m.cls := hown
  have hK := hE.1
  have hS : va_S (fun q => q ∈ [m0, aN, aH, aS, aT]) s.heap s.heap [] := va_S.rf
  have hA : ∀ q, (fun q => q ∈ [m0, aN, aH, aS, aT]) q → xB0 G ≤ q := hdis.2
  have hP : va_P G.1 vwCl [(m0, .inr (6, [.ref aN, .ref aH, .int (nI kept), .ref aS, .int (nI fil), .int (nI ty), .ref aT, .int (nI at_), .int (nI nu)])), (aN, .inl (xcI G, 10276, .inl (nf N))), (aH, .inl (xcI G, 41104, .inl (nf Hs))), (aS, .inl (xcI G, 10276, .inl (nf Sl))), (aT, .inl (xcC G, 60, .inl (nf tx)))] s.heap := hP
  have hD : va_D (fun q => q ∈ [m0, aN, aH, aS, aT]) [(m0, .inr (6, [.ref aN, .ref aH, .int (nI kept), .ref aS, .int (nI fil), .int (nI ty), .ref aT, .int (nI at_), .int (nI nu)])), (aN, .inl (xcI G, 10276, .inl (nf N))), (aH, .inl (xcI G, 41104, .inl (nf Hs))), (aS, .inl (xcI G, 10276, .inl (nf Sl))), (aT, .inl (xcC G, 60, .inl (nf tx)))] := (hdis.to rfl)
  have hl : lv_has ls 4 [(0, .ref m0), (1, .int (nI f)), (2, .int (nI t))] := hl
  refine lv_iconst (v := nI 0) hx hb dX6_copies_0 rfl ?_
  refine lv_istore_n (lv' := [(3, .int (nI 0)), (0, .ref m0), (1, .int (nI f)), (2, .int (nI t))]) hx hb dX6_copies_1 rfl hl (by decide) rfl (fun ls hl => ?_)
  have hP : va_P G.1 vwCl [(m0, .inr (6, [.ref aN, .ref aH, .int (nI kept), .ref aS, .int (nI fil), .int (nI ty), .ref aT, .int (nI at_), .int (nI nu)])), (aN, .inl (xcI G, 10276, .inl (nf (cpyN N f t 0)))), (aH, .inl (xcI G, 41104, .inl (nf Hs))), (aS, .inl (xcI G, 10276, .inl (nf Sl))), (aT, .inl (xcC G, 60, .inl (nf tx)))] s.heap := (by rw [cpyN_0]; exact hP)
  have hl : lv_has ls 4 [(3, .int (nI 0)), (0, .ref m0), (1, .int (nI f)), (2, .int (nI t))] := lv_sub hl [0, 1, 2, 3] rfl
  refine xloop (σ := Nat) (C := (fun (x_ : Nat) H locs ls => (x_ ≤ 403) ∧ va_P G.1 vwCl [(m0, .inr (6, [.ref aN, .ref aH, .int (nI kept), .ref aS, .int (nI fil), .int (nI ty), .ref aT, .int (nI at_), .int (nI nu)])), (aN, .inl (xcI G, 10276, .inl (nf (cpyN N f t x_)))), (aH, .inl (xcI G, 41104, .inl (nf Hs))), (aS, .inl (xcI G, 10276, .inl (nf Sl))), (aT, .inl (xcC G, 60, .inl (nf tx)))] H ∧ va_S (fun q => q ∈ [m0, aN, aH, aS, aT]) s.heap H locs ∧ lv_has ls 4 [(3, .int (nI x_)), (0, .ref m0), (1, .int (nI f)), (2, .int (nI t))])) (μ := (fun (x_ : Nat) => 403 - x_)) (W' := fun H locs ls => W p l e _ s m _ below meth c H locs _ _ _ (F0 m 2 ls [])) ?_ 0 _ _ _ ⟨(by omega), hP, hS, hl⟩
  intro x_ H locs ls hC ih_2
  obtain ⟨i, rfl⟩ : ∃ z, z = x_ := ⟨x_, rfl⟩
  obtain ⟨hi, hP, hS, hl⟩ := hC
  have hi : i ≤ 403 := hi
  have hP : va_P G.1 vwCl [(m0, .inr (6, [.ref aN, .ref aH, .int (nI kept), .ref aS, .int (nI fil), .int (nI ty), .ref aT, .int (nI at_), .int (nI nu)])), (aN, .inl (xcI G, 10276, .inl (nf (cpyN N f t i)))), (aH, .inl (xcI G, 41104, .inl (nf Hs))), (aS, .inl (xcI G, 10276, .inl (nf Sl))), (aT, .inl (xcC G, 60, .inl (nf tx)))] H := hP
  have hD : va_D (fun q => q ∈ [m0, aN, aH, aS, aT]) [(m0, .inr (6, [.ref aN, .ref aH, .int (nI kept), .ref aS, .int (nI fil), .int (nI ty), .ref aT, .int (nI at_), .int (nI nu)])), (aN, .inl (xcI G, 10276, .inl (nf (cpyN N f t i)))), (aH, .inl (xcI G, 41104, .inl (nf Hs))), (aS, .inl (xcI G, 10276, .inl (nf Sl))), (aT, .inl (xcC G, 60, .inl (nf tx)))] := (hdis.to rfl)
  have hl : lv_has ls 4 [(3, .int (nI i)), (0, .ref m0), (1, .int (nI f)), (2, .int (nI t))] := hl
  refine id ?_
  refine lv_iload_n hx hb dX6_copies_2 rfl (lv_at hl 0 rfl) ?_
  refine lv_sipush (v := nI 403) hx hb dX6_copies_3 (by decide) ?_
  refine n_icmp_ge (tgt := 39) hx hb (by omega) (by omega) dX6_copies_6 (by decide) (fun c_6 => ?_) (fun c_6 => ?_)
  · have e9 : i = 403 := by omega
    subst e9
    exact xend_v () hx hb hr hk hS (fun _ h => h) dX6_copies_39 rfl hP (Nat.le_refl _) (Nat.le_refl _)
  · refine lv_aload_n hx hb dX6_copies_9 rfl (lv_at hl 1 rfl) ?_
    refine va_get (D := G.1) (ci := 6) (v := .ref aN) (C := RX6) (T := TX6) (N := 9) hx hb hts hi_X6_copies_RX6 hown hK hP 0 rfl rfl 0 (by decide) (hts _ hw_X6_copies_f7) (fun _ h9 => h9) rfl dX6_copies_10 ?_
    refine lv_sipush (v := nI 403) hx hb dX6_copies_13 (by decide) ?_
    refine lv_iload_n hx hb dX6_copies_16 rfl (lv_at hl 3 rfl) ?_
    refine n_imul hx hb dX6_copies_17 ?_
    refine lv_iload_n hx hb dX6_copies_18 rfl (lv_at hl 0 rfl) ?_
    refine n_iadd hx hb dX6_copies_19 ?_
    refine lv_aload_n hx hb dX6_copies_20 rfl (lv_at hl 1 rfl) ?_
    refine va_get (D := G.1) (ci := 6) (v := .ref aN) (C := RX6) (T := TX6) (N := 9) hx hb hts hi_X6_copies_RX6 hown hK hP 0 rfl rfl 0 (by decide) (hts _ hw_X6_copies_f7) (fun _ h9 => h9) rfl dX6_copies_21 ?_
    refine lv_sipush (v := nI 403) hx hb dX6_copies_24 (by decide) ?_
    refine lv_iload_n hx hb dX6_copies_27 rfl (lv_at hl 2 rfl) ?_
    refine n_imul hx hb dX6_copies_28 ?_
    refine lv_iload_n hx hb dX6_copies_29 rfl (lv_at hl 0 rfl) ?_
    refine n_iadd hx hb dX6_copies_30 ?_
    refine n_iald hx hb hK hP 1 0 rfl rfl (by omega) (by decide) dX6_copies_31 ?_
    refine n_iast hx hb hK hP hD hS 1 0 rfl rfl (by omega) (by decide) dX6_copies_32 (fun H locs hP hD hS => ?_)
    have hP : va_P G.1 vwCl [(m0, .inr (6, [.ref aN, .ref aH, .int (nI kept), .ref aS, .int (nI fil), .int (nI ty), .ref aT, .int (nI at_), .int (nI nu)])), (aN, .inl (xcI G, 10276, .inl (nf (updN (cpyN N f t i) ((403 * t) + i) ((cpyN N f t i) ((403 * f) + i)))))), (aH, .inl (xcI G, 41104, .inl (nf Hs))), (aS, .inl (xcI G, 10276, .inl (nf Sl))), (aT, .inl (xcC G, 60, .inl (nf tx)))] H := hP
    have hD : va_D (fun q => q ∈ [m0, aN, aH, aS, aT]) [(m0, .inr (6, [.ref aN, .ref aH, .int (nI kept), .ref aS, .int (nI fil), .int (nI ty), .ref aT, .int (nI at_), .int (nI nu)])), (aN, .inl (xcI G, 10276, .inl (nf (updN (cpyN N f t i) ((403 * t) + i) ((cpyN N f t i) ((403 * f) + i)))))), (aH, .inl (xcI G, 41104, .inl (nf Hs))), (aS, .inl (xcI G, 10276, .inl (nf Sl))), (aT, .inl (xcC G, 60, .inl (nf tx)))] := hD
    refine lv_iinc (v := nI (i + 1)) (lv' := [(3, .int (nI (i + 1))), (0, .ref m0), (1, .int (nI f)), (2, .int (nI t))]) hx hb dX6_copies_33 hl (k := 0) rfl (nI_add i 1) (by decide) rfl (fun ls hl => ?_)
    refine lv_goto (tgt := 2) hx hb dX6_copies_36 (by decide) ?_
    have hl : lv_has ls 4 [(3, .int (nI (i + 1))), (0, .ref m0), (1, .int (nI f)), (2, .int (nI t))] := lv_sub hl [0, 1, 2, 3] rfl
    have hP : va_P G.1 vwCl [(m0, .inr (6, [.ref aN, .ref aH, .int (nI kept), .ref aS, .int (nI fil), .int (nI ty), .ref aT, .int (nI at_), .int (nI nu)])), (aN, .inl (xcI G, 10276, .inl (nf (cpyN N f t (i + 1))))), (aH, .inl (xcI G, 41104, .inl (nf Hs))), (aS, .inl (xcI G, 10276, .inl (nf Sl))), (aT, .inl (xcC G, 60, .inl (nf tx)))] H := (by rw [← cpyN_s N f t i c_6]; exact hP)
    exact ih_2 (i + 1) _ _ _ (by show 403 - (i + 1) < 403 - i; omega) ⟨(by omega), hP, hS, hl⟩

theorem hw_X6_record_f39 : Cond.fieldLink RX6 39 "TailVectorsModel" "kept" "I" ∈ wsX6_record := by decide +kernel
theorem hi_X6_record_RX6 : ∀ w ∈ u_ws RX6 TX6 9, w ∈ wsX6_record := by decide +kernel
theorem hw_X6_record_f14 : Cond.fieldLink RX6 14 "TailVectorsModel" "history" "[I" ∈ wsX6_record := by decide +kernel
theorem hw_X6_record_f7 : Cond.fieldLink RX6 7 "TailVectorsModel" "now" "[I" ∈ wsX6_record := by decide +kernel
set_option maxHeartbeats 4000000 in
set_option maxRecDepth 100000 in
theorem c_X6_record (l : Launch) (G : xG) (m0 : Nat) (aN : Nat) (aH : Nat) (aS : Nat) (aT : Nat) (N : Nat → Nat) (Hs : Nat → Nat) (Sl : Nat → Nat) (tx : Nat → Nat) (kept : Nat) (fil : Nat) (ty : Nat) (at_ : Nat) (nu : Nat) (hN : ∀ j, N j < 2 ^ 24) (hdis : xDis (xB0 G) [m0, aN, aH, aS, aT]) (hk4 : kept ≤ 4) : Met l yX6_record wsX6_record ({ frames := 0, cells := 0, slots := 0, locals := 0 } : Room) (xPc G [.ref m0] (fun H => va_P G.1 vwCl [(m0, .inr (6, [.ref aN, .ref aH, .int (nI kept), .ref aS, .int (nI fil), .int (nI ty), .ref aT, .int (nI at_), .int (nI nu)])), (aN, .inl (xcI G, 10276, .inl (nf N))), (aH, .inl (xcI G, 41104, .inl (nf Hs))), (aS, .inl (xcI G, 10276, .inl (nf Sl))), (aT, .inl (xcC G, 60, .inl (nf tx)))] H)) (xQ (σ := Unit) (fun _ => none) (fun _ H => va_P G.1 vwCl [(m0, .inr (6, [.ref aN, .ref aH, .int (nI (rRecK kept)), .ref aS, .int (nI fil), .int (nI ty), .ref aT, .int (nI at_), .int (nI nu)])), (aN, .inl (xcI G, 10276, .inl (nf N))), (aH, .inl (xcI G, 41104, .inl (nf (rRecH Hs N kept)))), (aS, .inl (xcI G, 10276, .inl (nf Sl))), (aT, .inl (xcC G, 60, .inl (nf tx)))] H) (fun q => q ∈ [m0, aN, aH, aS, aT])) 0 0 (fun q => q ∈ [m0, aN, aH, aS, aT]) := by
  refine xMet (cc := cX6_record) (nL := 2) (ret := none) (by decide) rfl (Nat.le_of_ble_eq_true rfl) ?_
  intro p e s m below meth c S hr hk hnm hE hP ls hl
  obtain ⟨hx, hb, hml, hown, hts⟩ := id S
  have hown : s.vm.findClass RX6 = some m.cls := hown
  have hK := hE.1
  have hS : va_S (fun q => q ∈ [m0, aN, aH, aS, aT]) s.heap s.heap [] := va_S.rf
  have hA : ∀ q, (fun q => q ∈ [m0, aN, aH, aS, aT]) q → xB0 G ≤ q := hdis.2
  have hP : va_P G.1 vwCl [(m0, .inr (6, [.ref aN, .ref aH, .int (nI kept), .ref aS, .int (nI fil), .int (nI ty), .ref aT, .int (nI at_), .int (nI nu)])), (aN, .inl (xcI G, 10276, .inl (nf N))), (aH, .inl (xcI G, 41104, .inl (nf Hs))), (aS, .inl (xcI G, 10276, .inl (nf Sl))), (aT, .inl (xcC G, 60, .inl (nf tx)))] s.heap := hP
  have hD : va_D (fun q => q ∈ [m0, aN, aH, aS, aT]) [(m0, .inr (6, [.ref aN, .ref aH, .int (nI kept), .ref aS, .int (nI fil), .int (nI ty), .ref aT, .int (nI at_), .int (nI nu)])), (aN, .inl (xcI G, 10276, .inl (nf N))), (aH, .inl (xcI G, 41104, .inl (nf Hs))), (aS, .inl (xcI G, 10276, .inl (nf Sl))), (aT, .inl (xcC G, 60, .inl (nf tx)))] := (hdis.to rfl)
  have hl : lv_has ls 2 [(0, .ref m0)] := hl
  refine lv_aload_n hx hb dX6_record_0 rfl (lv_at hl 0 rfl) ?_
  refine va_get (D := G.1) (ci := 6) (v := .int (nI kept)) (C := RX6) (T := TX6) (N := 9) hx hb hts hi_X6_record_RX6 hown hK hP 0 rfl rfl 2 (by decide) (hts _ hw_X6_record_f39) (fun _ h9 => h9) rfl dX6_record_1 ?_
  refine lv_iconst (v := nI 4) hx hb dX6_record_4 rfl ?_
  refine n_icmp_ne (tgt := 49) hx hb (by omega) (by omega) dX6_record_5 (by decide) (fun c_5 => ?_) (fun c_5 => ?_)
  · refine lv_iconst (v := nI 0) hx hb dX6_record_49 rfl ?_
    refine lv_istore_n (lv' := [(1, .int (nI 0)), (0, .ref m0)]) hx hb dX6_record_50 rfl hl (by decide) rfl (fun ls hl => ?_)
    have hP : va_P G.1 vwCl [(m0, .inr (6, [.ref aN, .ref aH, .int (nI kept), .ref aS, .int (nI fil), .int (nI ty), .ref aT, .int (nI at_), .int (nI nu)])), (aN, .inl (xcI G, 10276, .inl (nf N))), (aH, .inl (xcI G, 41104, .inl (nf (recB Hs N kept 0)))), (aS, .inl (xcI G, 10276, .inl (nf Sl))), (aT, .inl (xcC G, 60, .inl (nf tx)))] s.heap := (by rw [recB_0]; exact hP)
    have hl : lv_has ls 2 [(1, .int (nI 0)), (0, .ref m0)] := lv_sub hl [0, 1] rfl
    refine xloop (σ := Nat) (C := (fun (x_ : Nat) H locs ls => (x_ ≤ 10276) ∧ va_P G.1 vwCl [(m0, .inr (6, [.ref aN, .ref aH, .int (nI kept), .ref aS, .int (nI fil), .int (nI ty), .ref aT, .int (nI at_), .int (nI nu)])), (aN, .inl (xcI G, 10276, .inl (nf N))), (aH, .inl (xcI G, 41104, .inl (nf (recB Hs N kept x_)))), (aS, .inl (xcI G, 10276, .inl (nf Sl))), (aT, .inl (xcC G, 60, .inl (nf tx)))] H ∧ va_S (fun q => q ∈ [m0, aN, aH, aS, aT]) s.heap H locs ∧ lv_has ls 2 [(1, .int (nI x_)), (0, .ref m0)])) (μ := (fun (x_ : Nat) => 10276 - x_)) (W' := fun H locs ls => W p l e _ s m _ below meth c H locs _ _ _ (F0 m 51 ls [])) ?_ 0 _ _ _ ⟨(by omega), hP, hS, hl⟩
    intro x_ H locs ls hC ih_51
    obtain ⟨i, rfl⟩ : ∃ z, z = x_ := ⟨x_, rfl⟩
    obtain ⟨hi, hP, hS, hl⟩ := hC
    have hi : i ≤ 10276 := hi
    have hP : va_P G.1 vwCl [(m0, .inr (6, [.ref aN, .ref aH, .int (nI kept), .ref aS, .int (nI fil), .int (nI ty), .ref aT, .int (nI at_), .int (nI nu)])), (aN, .inl (xcI G, 10276, .inl (nf N))), (aH, .inl (xcI G, 41104, .inl (nf (recB Hs N kept i)))), (aS, .inl (xcI G, 10276, .inl (nf Sl))), (aT, .inl (xcC G, 60, .inl (nf tx)))] H := hP
    have hD : va_D (fun q => q ∈ [m0, aN, aH, aS, aT]) [(m0, .inr (6, [.ref aN, .ref aH, .int (nI kept), .ref aS, .int (nI fil), .int (nI ty), .ref aT, .int (nI at_), .int (nI nu)])), (aN, .inl (xcI G, 10276, .inl (nf N))), (aH, .inl (xcI G, 41104, .inl (nf (recB Hs N kept i)))), (aS, .inl (xcI G, 10276, .inl (nf Sl))), (aT, .inl (xcC G, 60, .inl (nf tx)))] := (hdis.to rfl)
    have hl : lv_has ls 2 [(1, .int (nI i)), (0, .ref m0)] := hl
    refine id ?_
    refine lv_iload_n hx hb dX6_record_51 rfl (lv_at hl 0 rfl) ?_
    refine lv_sipush (v := nI 10276) hx hb dX6_record_52 (by decide) ?_
    refine n_icmp_ge (tgt := 85) hx hb (by omega) (by omega) dX6_record_55 (by decide) (fun c_55 => ?_) (fun c_55 => ?_)
    · refine lv_aload_n hx hb dX6_record_85 rfl (lv_at hl 1 rfl) ?_
      refine lv_dup hx hb dX6_record_86 rfl ?_
      refine va_get (D := G.1) (ci := 6) (v := .int (nI kept)) (C := RX6) (T := TX6) (N := 9) hx hb hts hi_X6_record_RX6 hown hK hP 0 rfl rfl 2 (by decide) (hts _ hw_X6_record_f39) (fun _ h9 => h9) rfl dX6_record_87 ?_
      refine lv_iconst (v := nI 1) hx hb dX6_record_90 rfl ?_
      refine n_iadd hx hb dX6_record_91 ?_
      refine va_put (D := G.1) (ci := 6) (v := .int (nI (kept + 1))) (ty := .int) (C := RX6) (T := TX6) (N := 9) hx hb hts hi_X6_record_RX6 tyX6 tyX6_ok nmX6 hown hK hP hD hS 0 rfl rfl 2 (by decide) (hts _ hw_X6_record_f39) (fun _ h9 => h9) rfl (by decide +kernel) rfl rfl (Nat.le_of_ble_eq_true rfl) dX6_record_92 (fun H locs hP hD hS => ?_)
      have hP : va_P G.1 vwCl [(m0, .inr (6, [.ref aN, .ref aH, .int (nI (kept + 1)), .ref aS, .int (nI fil), .int (nI ty), .ref aT, .int (nI at_), .int (nI nu)])), (aN, .inl (xcI G, 10276, .inl (nf N))), (aH, .inl (xcI G, 41104, .inl (nf (recB Hs N kept i)))), (aS, .inl (xcI G, 10276, .inl (nf Sl))), (aT, .inl (xcC G, 60, .inl (nf tx)))] H := hP
      have hD : va_D (fun q => q ∈ [m0, aN, aH, aS, aT]) [(m0, .inr (6, [.ref aN, .ref aH, .int (nI (kept + 1)), .ref aS, .int (nI fil), .int (nI ty), .ref aT, .int (nI at_), .int (nI nu)])), (aN, .inl (xcI G, 10276, .inl (nf N))), (aH, .inl (xcI G, 41104, .inl (nf (recB Hs N kept i)))), (aS, .inl (xcI G, 10276, .inl (nf Sl))), (aT, .inl (xcC G, 60, .inl (nf tx)))] := hD
      have hi9 : i = 10276 := by omega
      subst hi9
      exact xend_v () hx hb hr hk hS (fun _ h => h) dX6_record_95 rfl (by rw [rRecH, rRecK, if_neg c_5, if_neg c_5, if_neg c_5]; exact hP) (Nat.le_refl _) (Nat.le_refl _)
    · refine lv_aload_n hx hb dX6_record_58 rfl (lv_at hl 1 rfl) ?_
      refine va_get (D := G.1) (ci := 6) (v := .ref aH) (C := RX6) (T := TX6) (N := 9) hx hb hts hi_X6_record_RX6 hown hK hP 0 rfl rfl 1 (by decide) (hts _ hw_X6_record_f14) (fun _ h9 => h9) rfl dX6_record_59 ?_
      refine lv_sipush (v := nI 10276) hx hb dX6_record_62 (by decide) ?_
      refine lv_aload_n hx hb dX6_record_65 rfl (lv_at hl 1 rfl) ?_
      refine va_get (D := G.1) (ci := 6) (v := .int (nI kept)) (C := RX6) (T := TX6) (N := 9) hx hb hts hi_X6_record_RX6 hown hK hP 0 rfl rfl 2 (by decide) (hts _ hw_X6_record_f39) (fun _ h9 => h9) rfl dX6_record_66 ?_
      refine n_imul hx hb dX6_record_69 ?_
      refine lv_iload_n hx hb dX6_record_70 rfl (lv_at hl 0 rfl) ?_
      refine n_iadd hx hb dX6_record_71 ?_
      refine lv_aload_n hx hb dX6_record_72 rfl (lv_at hl 1 rfl) ?_
      refine va_get (D := G.1) (ci := 6) (v := .ref aN) (C := RX6) (T := TX6) (N := 9) hx hb hts hi_X6_record_RX6 hown hK hP 0 rfl rfl 0 (by decide) (hts _ hw_X6_record_f7) (fun _ h9 => h9) rfl dX6_record_73 ?_
      refine lv_iload_n hx hb dX6_record_76 rfl (lv_at hl 0 rfl) ?_
      refine n_iald hx hb hK hP 1 0 rfl rfl (by omega) (by decide) dX6_record_77 ?_
      refine n_iast hx hb hK hP hD hS 2 0 rfl rfl (by omega) (by decide) dX6_record_78 (fun H locs hP hD hS => ?_)
      have hP : va_P G.1 vwCl [(m0, .inr (6, [.ref aN, .ref aH, .int (nI kept), .ref aS, .int (nI fil), .int (nI ty), .ref aT, .int (nI at_), .int (nI nu)])), (aN, .inl (xcI G, 10276, .inl (nf N))), (aH, .inl (xcI G, 41104, .inl (nf (updN (recB Hs N kept i) ((10276 * kept) + i) (N i))))), (aS, .inl (xcI G, 10276, .inl (nf Sl))), (aT, .inl (xcC G, 60, .inl (nf tx)))] H := hP
      have hD : va_D (fun q => q ∈ [m0, aN, aH, aS, aT]) [(m0, .inr (6, [.ref aN, .ref aH, .int (nI kept), .ref aS, .int (nI fil), .int (nI ty), .ref aT, .int (nI at_), .int (nI nu)])), (aN, .inl (xcI G, 10276, .inl (nf N))), (aH, .inl (xcI G, 41104, .inl (nf (updN (recB Hs N kept i) ((10276 * kept) + i) (N i))))), (aS, .inl (xcI G, 10276, .inl (nf Sl))), (aT, .inl (xcC G, 60, .inl (nf tx)))] := hD
      refine lv_iinc (v := nI (i + 1)) (lv' := [(1, .int (nI (i + 1))), (0, .ref m0)]) hx hb dX6_record_79 hl (k := 0) rfl (nI_add i 1) (by decide) rfl (fun ls hl => ?_)
      refine lv_goto (tgt := 51) hx hb dX6_record_82 (by decide) ?_
      have hl : lv_has ls 2 [(1, .int (nI (i + 1))), (0, .ref m0)] := lv_sub hl [0, 1] rfl
      have hP : va_P G.1 vwCl [(m0, .inr (6, [.ref aN, .ref aH, .int (nI kept), .ref aS, .int (nI fil), .int (nI ty), .ref aT, .int (nI at_), .int (nI nu)])), (aN, .inl (xcI G, 10276, .inl (nf N))), (aH, .inl (xcI G, 41104, .inl (nf (recB Hs N kept (i + 1))))), (aS, .inl (xcI G, 10276, .inl (nf Sl))), (aT, .inl (xcC G, 60, .inl (nf tx)))] H := (by rw [← recB_s Hs N kept i]; exact hP)
      exact ih_51 (i + 1) _ _ _ (by show 10276 - (i + 1) < 10276 - i; omega) ⟨(by omega), hP, hS, hl⟩
  · subst c_5
    refine lv_iconst (v := nI 0) hx hb dX6_record_8 rfl ?_
    refine lv_istore_n (lv' := [(1, .int (nI 0)), (0, .ref m0)]) hx hb dX6_record_9 rfl hl (by decide) rfl (fun ls hl => ?_)
    have hP : va_P G.1 vwCl [(m0, .inr (6, [.ref aN, .ref aH, .int (nI 4), .ref aS, .int (nI fil), .int (nI ty), .ref aT, .int (nI at_), .int (nI nu)])), (aN, .inl (xcI G, 10276, .inl (nf N))), (aH, .inl (xcI G, 41104, .inl (nf (recA Hs 0)))), (aS, .inl (xcI G, 10276, .inl (nf Sl))), (aT, .inl (xcC G, 60, .inl (nf tx)))] s.heap := (by rw [recA_0]; exact hP)
    have hl : lv_has ls 2 [(1, .int (nI 0)), (0, .ref m0)] := lv_sub hl [0, 1] rfl
    refine xloop (σ := Nat) (C := (fun (x_ : Nat) H locs ls => (x_ ≤ 30828) ∧ va_P G.1 vwCl [(m0, .inr (6, [.ref aN, .ref aH, .int (nI 4), .ref aS, .int (nI fil), .int (nI ty), .ref aT, .int (nI at_), .int (nI nu)])), (aN, .inl (xcI G, 10276, .inl (nf N))), (aH, .inl (xcI G, 41104, .inl (nf (recA Hs x_)))), (aS, .inl (xcI G, 10276, .inl (nf Sl))), (aT, .inl (xcC G, 60, .inl (nf tx)))] H ∧ va_S (fun q => q ∈ [m0, aN, aH, aS, aT]) s.heap H locs ∧ lv_has ls 2 [(1, .int (nI x_)), (0, .ref m0)])) (μ := (fun (x_ : Nat) => 30828 - x_)) (W' := fun H locs ls => W p l e _ s m _ below meth c H locs _ _ _ (F0 m 10 ls [])) ?_ 0 _ _ _ ⟨(by omega), hP, hS, hl⟩
    intro x_ H locs ls hC ih_10
    obtain ⟨i, rfl⟩ : ∃ z, z = x_ := ⟨x_, rfl⟩
    obtain ⟨hi, hP, hS, hl⟩ := hC
    have hi : i ≤ 30828 := hi
    have hP : va_P G.1 vwCl [(m0, .inr (6, [.ref aN, .ref aH, .int (nI 4), .ref aS, .int (nI fil), .int (nI ty), .ref aT, .int (nI at_), .int (nI nu)])), (aN, .inl (xcI G, 10276, .inl (nf N))), (aH, .inl (xcI G, 41104, .inl (nf (recA Hs i)))), (aS, .inl (xcI G, 10276, .inl (nf Sl))), (aT, .inl (xcC G, 60, .inl (nf tx)))] H := hP
    have hD : va_D (fun q => q ∈ [m0, aN, aH, aS, aT]) [(m0, .inr (6, [.ref aN, .ref aH, .int (nI 4), .ref aS, .int (nI fil), .int (nI ty), .ref aT, .int (nI at_), .int (nI nu)])), (aN, .inl (xcI G, 10276, .inl (nf N))), (aH, .inl (xcI G, 41104, .inl (nf (recA Hs i)))), (aS, .inl (xcI G, 10276, .inl (nf Sl))), (aT, .inl (xcC G, 60, .inl (nf tx)))] := (hdis.to rfl)
    have hl : lv_has ls 2 [(1, .int (nI i)), (0, .ref m0)] := hl
    refine id ?_
    refine lv_iload_n hx hb dX6_record_10 rfl (lv_at hl 0 rfl) ?_
    refine lv_sipush (v := nI 30828) hx hb dX6_record_11 (by decide) ?_
    refine n_icmp_ge (tgt := 39) hx hb (by omega) (by omega) dX6_record_14 (by decide) (fun c_14 => ?_) (fun c_14 => ?_)
    · have hi8 : i = 30828 := by omega
      subst hi8
      refine lv_aload_n hx hb dX6_record_39 rfl (lv_at hl 1 rfl) ?_
      refine lv_dup hx hb dX6_record_40 rfl ?_
      refine va_get (D := G.1) (ci := 6) (v := .int (nI 4)) (C := RX6) (T := TX6) (N := 9) hx hb hts hi_X6_record_RX6 hown hK hP 0 rfl rfl 2 (by decide) (hts _ hw_X6_record_f39) (fun _ h9 => h9) rfl dX6_record_41 ?_
      refine lv_iconst (v := nI 1) hx hb dX6_record_44 rfl ?_
      refine n_isub hx hb (by omega) dX6_record_45 ?_
      refine va_put (D := G.1) (ci := 6) (v := .int (nI (4 - 1))) (ty := .int) (C := RX6) (T := TX6) (N := 9) hx hb hts hi_X6_record_RX6 tyX6 tyX6_ok nmX6 hown hK hP hD hS 0 rfl rfl 2 (by decide) (hts _ hw_X6_record_f39) (fun _ h9 => h9) rfl (by decide +kernel) rfl rfl (Nat.le_of_ble_eq_true rfl) dX6_record_46 (fun H locs hP hD hS => ?_)
      have hP : va_P G.1 vwCl [(m0, .inr (6, [.ref aN, .ref aH, .int (nI (4 - 1)), .ref aS, .int (nI fil), .int (nI ty), .ref aT, .int (nI at_), .int (nI nu)])), (aN, .inl (xcI G, 10276, .inl (nf N))), (aH, .inl (xcI G, 41104, .inl (nf (recA Hs 30828)))), (aS, .inl (xcI G, 10276, .inl (nf Sl))), (aT, .inl (xcC G, 60, .inl (nf tx)))] H := hP
      have hD : va_D (fun q => q ∈ [m0, aN, aH, aS, aT]) [(m0, .inr (6, [.ref aN, .ref aH, .int (nI (4 - 1)), .ref aS, .int (nI fil), .int (nI ty), .ref aT, .int (nI at_), .int (nI nu)])), (aN, .inl (xcI G, 10276, .inl (nf N))), (aH, .inl (xcI G, 41104, .inl (nf (recA Hs 30828)))), (aS, .inl (xcI G, 10276, .inl (nf Sl))), (aT, .inl (xcC G, 60, .inl (nf tx)))] := hD
      refine lv_iconst (v := nI 0) hx hb dX6_record_49 rfl ?_
      refine lv_istore_n (lv' := [(1, .int (nI 0)), (0, .ref m0)]) hx hb dX6_record_50 rfl hl (by decide) rfl (fun ls hl => ?_)
      have hP : va_P G.1 vwCl [(m0, .inr (6, [.ref aN, .ref aH, .int (nI (4 - 1)), .ref aS, .int (nI fil), .int (nI ty), .ref aT, .int (nI at_), .int (nI nu)])), (aN, .inl (xcI G, 10276, .inl (nf N))), (aH, .inl (xcI G, 41104, .inl (nf (recB (recA Hs 30828) N (4 - 1) 0)))), (aS, .inl (xcI G, 10276, .inl (nf Sl))), (aT, .inl (xcC G, 60, .inl (nf tx)))] H := (by rw [recB_0]; exact hP)
      have hl : lv_has ls 2 [(1, .int (nI 0)), (0, .ref m0)] := lv_sub hl [0, 1] rfl
      refine xloop (σ := Nat) (C := (fun (x_ : Nat) H locs ls => (x_ ≤ 10276) ∧ va_P G.1 vwCl [(m0, .inr (6, [.ref aN, .ref aH, .int (nI (4 - 1)), .ref aS, .int (nI fil), .int (nI ty), .ref aT, .int (nI at_), .int (nI nu)])), (aN, .inl (xcI G, 10276, .inl (nf N))), (aH, .inl (xcI G, 41104, .inl (nf (recB (recA Hs 30828) N (4 - 1) x_)))), (aS, .inl (xcI G, 10276, .inl (nf Sl))), (aT, .inl (xcC G, 60, .inl (nf tx)))] H ∧ va_S (fun q => q ∈ [m0, aN, aH, aS, aT]) s.heap H locs ∧ lv_has ls 2 [(1, .int (nI x_)), (0, .ref m0)])) (μ := (fun (x_ : Nat) => 10276 - x_)) (W' := fun H locs ls => W p l e _ s m _ below meth c H locs _ _ _ (F0 m 51 ls [])) ?_ 0 _ _ _ ⟨(by omega), hP, hS, hl⟩
      intro x_ H locs ls hC ih_51
      obtain ⟨i, rfl⟩ : ∃ z, z = x_ := ⟨x_, rfl⟩
      obtain ⟨hi, hP, hS, hl⟩ := hC
      have hi : i ≤ 10276 := hi
      have hP : va_P G.1 vwCl [(m0, .inr (6, [.ref aN, .ref aH, .int (nI (4 - 1)), .ref aS, .int (nI fil), .int (nI ty), .ref aT, .int (nI at_), .int (nI nu)])), (aN, .inl (xcI G, 10276, .inl (nf N))), (aH, .inl (xcI G, 41104, .inl (nf (recB (recA Hs 30828) N (4 - 1) i)))), (aS, .inl (xcI G, 10276, .inl (nf Sl))), (aT, .inl (xcC G, 60, .inl (nf tx)))] H := hP
      have hD : va_D (fun q => q ∈ [m0, aN, aH, aS, aT]) [(m0, .inr (6, [.ref aN, .ref aH, .int (nI (4 - 1)), .ref aS, .int (nI fil), .int (nI ty), .ref aT, .int (nI at_), .int (nI nu)])), (aN, .inl (xcI G, 10276, .inl (nf N))), (aH, .inl (xcI G, 41104, .inl (nf (recB (recA Hs 30828) N (4 - 1) i)))), (aS, .inl (xcI G, 10276, .inl (nf Sl))), (aT, .inl (xcC G, 60, .inl (nf tx)))] := (hdis.to rfl)
      have hl : lv_has ls 2 [(1, .int (nI i)), (0, .ref m0)] := hl
      refine id ?_
      refine lv_iload_n hx hb dX6_record_51 rfl (lv_at hl 0 rfl) ?_
      refine lv_sipush (v := nI 10276) hx hb dX6_record_52 (by decide) ?_
      refine n_icmp_ge (tgt := 85) hx hb (by omega) (by omega) dX6_record_55 (by decide) (fun c_55 => ?_) (fun c_55 => ?_)
      · refine lv_aload_n hx hb dX6_record_85 rfl (lv_at hl 1 rfl) ?_
        refine lv_dup hx hb dX6_record_86 rfl ?_
        refine va_get (D := G.1) (ci := 6) (v := .int (nI (4 - 1))) (C := RX6) (T := TX6) (N := 9) hx hb hts hi_X6_record_RX6 hown hK hP 0 rfl rfl 2 (by decide) (hts _ hw_X6_record_f39) (fun _ h9 => h9) rfl dX6_record_87 ?_
        refine lv_iconst (v := nI 1) hx hb dX6_record_90 rfl ?_
        refine n_iadd hx hb dX6_record_91 ?_
        refine va_put (D := G.1) (ci := 6) (v := .int (nI ((4 - 1) + 1))) (ty := .int) (C := RX6) (T := TX6) (N := 9) hx hb hts hi_X6_record_RX6 tyX6 tyX6_ok nmX6 hown hK hP hD hS 0 rfl rfl 2 (by decide) (hts _ hw_X6_record_f39) (fun _ h9 => h9) rfl (by decide +kernel) rfl rfl (Nat.le_of_ble_eq_true rfl) dX6_record_92 (fun H locs hP hD hS => ?_)
        have hP : va_P G.1 vwCl [(m0, .inr (6, [.ref aN, .ref aH, .int (nI ((4 - 1) + 1)), .ref aS, .int (nI fil), .int (nI ty), .ref aT, .int (nI at_), .int (nI nu)])), (aN, .inl (xcI G, 10276, .inl (nf N))), (aH, .inl (xcI G, 41104, .inl (nf (recB (recA Hs 30828) N (4 - 1) i)))), (aS, .inl (xcI G, 10276, .inl (nf Sl))), (aT, .inl (xcC G, 60, .inl (nf tx)))] H := hP
        have hD : va_D (fun q => q ∈ [m0, aN, aH, aS, aT]) [(m0, .inr (6, [.ref aN, .ref aH, .int (nI ((4 - 1) + 1)), .ref aS, .int (nI fil), .int (nI ty), .ref aT, .int (nI at_), .int (nI nu)])), (aN, .inl (xcI G, 10276, .inl (nf N))), (aH, .inl (xcI G, 41104, .inl (nf (recB (recA Hs 30828) N (4 - 1) i)))), (aS, .inl (xcI G, 10276, .inl (nf Sl))), (aT, .inl (xcC G, 60, .inl (nf tx)))] := hD
        have hi9 : i = 10276 := by omega
        subst hi9
        exact xend_v () hx hb hr hk hS (fun _ h => h) dX6_record_95 rfl hP (Nat.le_refl _) (Nat.le_refl _)
      · refine lv_aload_n hx hb dX6_record_58 rfl (lv_at hl 1 rfl) ?_
        refine va_get (D := G.1) (ci := 6) (v := .ref aH) (C := RX6) (T := TX6) (N := 9) hx hb hts hi_X6_record_RX6 hown hK hP 0 rfl rfl 1 (by decide) (hts _ hw_X6_record_f14) (fun _ h9 => h9) rfl dX6_record_59 ?_
        refine lv_sipush (v := nI 10276) hx hb dX6_record_62 (by decide) ?_
        refine lv_aload_n hx hb dX6_record_65 rfl (lv_at hl 1 rfl) ?_
        refine va_get (D := G.1) (ci := 6) (v := .int (nI (4 - 1))) (C := RX6) (T := TX6) (N := 9) hx hb hts hi_X6_record_RX6 hown hK hP 0 rfl rfl 2 (by decide) (hts _ hw_X6_record_f39) (fun _ h9 => h9) rfl dX6_record_66 ?_
        refine n_imul hx hb dX6_record_69 ?_
        refine lv_iload_n hx hb dX6_record_70 rfl (lv_at hl 0 rfl) ?_
        refine n_iadd hx hb dX6_record_71 ?_
        refine lv_aload_n hx hb dX6_record_72 rfl (lv_at hl 1 rfl) ?_
        refine va_get (D := G.1) (ci := 6) (v := .ref aN) (C := RX6) (T := TX6) (N := 9) hx hb hts hi_X6_record_RX6 hown hK hP 0 rfl rfl 0 (by decide) (hts _ hw_X6_record_f7) (fun _ h9 => h9) rfl dX6_record_73 ?_
        refine lv_iload_n hx hb dX6_record_76 rfl (lv_at hl 0 rfl) ?_
        refine n_iald hx hb hK hP 1 0 rfl rfl (by omega) (by decide) dX6_record_77 ?_
        refine n_iast hx hb hK hP hD hS 2 0 rfl rfl (by omega) (by decide) dX6_record_78 (fun H locs hP hD hS => ?_)
        have hP : va_P G.1 vwCl [(m0, .inr (6, [.ref aN, .ref aH, .int (nI (4 - 1)), .ref aS, .int (nI fil), .int (nI ty), .ref aT, .int (nI at_), .int (nI nu)])), (aN, .inl (xcI G, 10276, .inl (nf N))), (aH, .inl (xcI G, 41104, .inl (nf (updN (recB (recA Hs 30828) N (4 - 1) i) ((10276 * (4 - 1)) + i) (N i))))), (aS, .inl (xcI G, 10276, .inl (nf Sl))), (aT, .inl (xcC G, 60, .inl (nf tx)))] H := hP
        have hD : va_D (fun q => q ∈ [m0, aN, aH, aS, aT]) [(m0, .inr (6, [.ref aN, .ref aH, .int (nI (4 - 1)), .ref aS, .int (nI fil), .int (nI ty), .ref aT, .int (nI at_), .int (nI nu)])), (aN, .inl (xcI G, 10276, .inl (nf N))), (aH, .inl (xcI G, 41104, .inl (nf (updN (recB (recA Hs 30828) N (4 - 1) i) ((10276 * (4 - 1)) + i) (N i))))), (aS, .inl (xcI G, 10276, .inl (nf Sl))), (aT, .inl (xcC G, 60, .inl (nf tx)))] := hD
        refine lv_iinc (v := nI (i + 1)) (lv' := [(1, .int (nI (i + 1))), (0, .ref m0)]) hx hb dX6_record_79 hl (k := 0) rfl (nI_add i 1) (by decide) rfl (fun ls hl => ?_)
        refine lv_goto (tgt := 51) hx hb dX6_record_82 (by decide) ?_
        have hl : lv_has ls 2 [(1, .int (nI (i + 1))), (0, .ref m0)] := lv_sub hl [0, 1] rfl
        have hP : va_P G.1 vwCl [(m0, .inr (6, [.ref aN, .ref aH, .int (nI (4 - 1)), .ref aS, .int (nI fil), .int (nI ty), .ref aT, .int (nI at_), .int (nI nu)])), (aN, .inl (xcI G, 10276, .inl (nf N))), (aH, .inl (xcI G, 41104, .inl (nf (recB (recA Hs 30828) N (4 - 1) (i + 1))))), (aS, .inl (xcI G, 10276, .inl (nf Sl))), (aT, .inl (xcC G, 60, .inl (nf tx)))] H := (by rw [← recB_s (recA Hs 30828) N (4 - 1) i]; exact hP)
        exact ih_51 (i + 1) _ _ _ (by show 10276 - (i + 1) < 10276 - i; omega) ⟨(by omega), hP, hS, hl⟩
    · refine lv_aload_n hx hb dX6_record_17 rfl (lv_at hl 1 rfl) ?_
      refine va_get (D := G.1) (ci := 6) (v := .ref aH) (C := RX6) (T := TX6) (N := 9) hx hb hts hi_X6_record_RX6 hown hK hP 0 rfl rfl 1 (by decide) (hts _ hw_X6_record_f14) (fun _ h9 => h9) rfl dX6_record_18 ?_
      refine lv_iload_n hx hb dX6_record_21 rfl (lv_at hl 0 rfl) ?_
      refine lv_aload_n hx hb dX6_record_22 rfl (lv_at hl 1 rfl) ?_
      refine va_get (D := G.1) (ci := 6) (v := .ref aH) (C := RX6) (T := TX6) (N := 9) hx hb hts hi_X6_record_RX6 hown hK hP 0 rfl rfl 1 (by decide) (hts _ hw_X6_record_f14) (fun _ h9 => h9) rfl dX6_record_23 ?_
      refine lv_iload_n hx hb dX6_record_26 rfl (lv_at hl 0 rfl) ?_
      refine lv_sipush (v := nI 10276) hx hb dX6_record_27 (by decide) ?_
      refine n_iadd hx hb dX6_record_30 ?_
      refine n_iald hx hb hK hP 2 0 rfl rfl (by omega) (by decide) dX6_record_31 ?_
      refine n_iast hx hb hK hP hD hS 2 0 rfl rfl (by omega) (by decide) dX6_record_32 (fun H locs hP hD hS => ?_)
      have hP : va_P G.1 vwCl [(m0, .inr (6, [.ref aN, .ref aH, .int (nI 4), .ref aS, .int (nI fil), .int (nI ty), .ref aT, .int (nI at_), .int (nI nu)])), (aN, .inl (xcI G, 10276, .inl (nf N))), (aH, .inl (xcI G, 41104, .inl (nf (updN (recA Hs i) i ((recA Hs i) (i + 10276)))))), (aS, .inl (xcI G, 10276, .inl (nf Sl))), (aT, .inl (xcC G, 60, .inl (nf tx)))] H := hP
      have hD : va_D (fun q => q ∈ [m0, aN, aH, aS, aT]) [(m0, .inr (6, [.ref aN, .ref aH, .int (nI 4), .ref aS, .int (nI fil), .int (nI ty), .ref aT, .int (nI at_), .int (nI nu)])), (aN, .inl (xcI G, 10276, .inl (nf N))), (aH, .inl (xcI G, 41104, .inl (nf (updN (recA Hs i) i ((recA Hs i) (i + 10276)))))), (aS, .inl (xcI G, 10276, .inl (nf Sl))), (aT, .inl (xcC G, 60, .inl (nf tx)))] := hD
      refine lv_iinc (v := nI (i + 1)) (lv' := [(1, .int (nI (i + 1))), (0, .ref m0)]) hx hb dX6_record_33 hl (k := 0) rfl (nI_add i 1) (by decide) rfl (fun ls hl => ?_)
      refine lv_goto (tgt := 10) hx hb dX6_record_36 (by decide) ?_
      have hl : lv_has ls 2 [(1, .int (nI (i + 1))), (0, .ref m0)] := lv_sub hl [0, 1] rfl
      have hP : va_P G.1 vwCl [(m0, .inr (6, [.ref aN, .ref aH, .int (nI 4), .ref aS, .int (nI fil), .int (nI ty), .ref aT, .int (nI at_), .int (nI nu)])), (aN, .inl (xcI G, 10276, .inl (nf N))), (aH, .inl (xcI G, 41104, .inl (nf (recA Hs (i + 1))))), (aS, .inl (xcI G, 10276, .inl (nf Sl))), (aT, .inl (xcC G, 60, .inl (nf tx)))] H := (by rw [← recA_s Hs i]; exact hP)
      exact ih_10 (i + 1) _ _ _ (by show 30828 - (i + 1) < 30828 - i; omega) ⟨(by omega), hP, hS, hl⟩

theorem hw_X6_makes_f7 : Cond.fieldLink RX6 7 "TailVectorsModel" "now" "[I" ∈ wsX6_makes := by decide +kernel
theorem hi_X6_makes_RX6 : ∀ w ∈ u_ws RX6 TX6 9, w ∈ wsX6_makes := by decide +kernel
set_option maxHeartbeats 4000000 in
set_option maxRecDepth 100000 in
theorem c_X6_makes (l : Launch) (G : xG) (m0 : Nat) (aN : Nat) (aH : Nat) (aS : Nat) (aT : Nat) (N : Nat → Nat) (Hs : Nat → Nat) (Sl : Nat → Nat) (tx : Nat → Nat) (kept : Nat) (fil : Nat) (ty : Nat) (at_ : Nat) (nu : Nat) (r : Nat) (k : Nat) (q : Nat) (w : Nat) (hN : ∀ j, N j < 2 ^ 24) (hdis : xDis (xB0 G) [m0, aN, aH, aS, aT]) (hr24 : r ≤ 24) (hk8 : k ≤ 8) (hq : rBg k + q < 102) (hw2 : w < 2) : Met l yX6_makes wsX6_makes ({ frames := 1, cells := 0, slots := 0, locals := 20 } : Room) (xPc G [.ref m0, .int (nI r), .int (nI k), .int (nI q), .int (nI w)] (fun H => va_P G.1 vwCl [(m0, .inr (6, [.ref aN, .ref aH, .int (nI kept), .ref aS, .int (nI fil), .int (nI ty), .ref aT, .int (nI at_), .int (nI nu)])), (aN, .inl (xcI G, 10276, .inl (nf N))), (aH, .inl (xcI G, 41104, .inl (nf Hs))), (aS, .inl (xcI G, 10276, .inl (nf Sl))), (aT, .inl (xcC G, 60, .inl (nf tx)))] H)) (xQ (σ := Unit) (fun _ => none) (fun _ H => va_P G.1 vwCl [(m0, .inr (6, [.ref aN, .ref aH, .int (nI kept), .ref aS, .int (nI fil), .int (nI ty), .ref aT, .int (nI at_), .int (nI nu)])), (aN, .inl (xcI G, 10276, .inl (nf (rMk N r k q w)))), (aH, .inl (xcI G, 41104, .inl (nf Hs))), (aS, .inl (xcI G, 10276, .inl (nf Sl))), (aT, .inl (xcC G, 60, .inl (nf tx)))] H) (fun q => q ∈ [m0, aN, aH, aS, aT])) 0 0 (fun q => q ∈ [m0, aN, aH, aS, aT]) := by
  refine xMet (cc := cX6_makes) (nL := 6) (ret := none) (by decide) rfl (Nat.le_of_ble_eq_true rfl) ?_
  intro p e s m below meth c S hr hk hnm hE hP ls hl
  obtain ⟨hx, hb, hml, hown, hts⟩ := id S
  have hown : s.vm.findClass RX6 = some m.cls := hown
  have hK := hE.1
  have hS : va_S (fun q => q ∈ [m0, aN, aH, aS, aT]) s.heap s.heap [] := va_S.rf
  have hA : ∀ q, (fun q => q ∈ [m0, aN, aH, aS, aT]) q → xB0 G ≤ q := hdis.2
  have hP : va_P G.1 vwCl [(m0, .inr (6, [.ref aN, .ref aH, .int (nI kept), .ref aS, .int (nI fil), .int (nI ty), .ref aT, .int (nI at_), .int (nI nu)])), (aN, .inl (xcI G, 10276, .inl (nf N))), (aH, .inl (xcI G, 41104, .inl (nf Hs))), (aS, .inl (xcI G, 10276, .inl (nf Sl))), (aT, .inl (xcC G, 60, .inl (nf tx)))] s.heap := hP
  have hD : va_D (fun q => q ∈ [m0, aN, aH, aS, aT]) [(m0, .inr (6, [.ref aN, .ref aH, .int (nI kept), .ref aS, .int (nI fil), .int (nI ty), .ref aT, .int (nI at_), .int (nI nu)])), (aN, .inl (xcI G, 10276, .inl (nf N))), (aH, .inl (xcI G, 41104, .inl (nf Hs))), (aS, .inl (xcI G, 10276, .inl (nf Sl))), (aT, .inl (xcC G, 60, .inl (nf tx)))] := (hdis.to rfl)
  have hl : lv_has ls 6 [(0, .ref m0), (1, .int (nI r)), (2, .int (nI k)), (3, .int (nI q)), (4, .int (nI w))] := hl
  refine lv_iload_n hx hb dX6_makes_0 rfl (lv_at hl 2 rfl) ?_
  refine xrd (xrunS (As := [.int (nI k)]) (rest := []) S (c_X6_begins l G k (by omega)) (va_cwS 1 hts gX6_makes_X6_begins rfl rfl rfl (by decide +kernel) ⟨Nat.le_of_ble_eq_true rfl, Nat.le_of_ble_eq_true rfl⟩) hE hS hA trivial rfl rfl hl.1 (Nat.le_of_ble_eq_true rfl) dX6_makes_1 ⟨Nat.le_of_ble_eq_true rfl, Nat.le_of_ble_eq_true rfl⟩) ?_
  refine lv_iload_n hx hb dX6_makes_4 rfl (lv_at hl 3 rfl) ?_
  refine n_iadd hx hb dX6_makes_5 ?_
  refine lv_istore (lv' := [(5, .int (nI ((rBg k) + q))), (0, .ref m0), (1, .int (nI r)), (2, .int (nI k)), (3, .int (nI q)), (4, .int (nI w))]) hx hb dX6_makes_6 hl (by decide) rfl (fun ls hl => ?_)
  refine lv_iload_n hx hb dX6_makes_8 rfl (lv_at hl 2 rfl) ?_
  refine lv_bipush (v := nI 24) hx hb dX6_makes_9 (by decide) ?_
  refine n_icmp_ne (tgt := 35) hx hb (by omega) (by omega) dX6_makes_11 (by decide) (fun c_11 => ?_) (fun c_11 => ?_)
  · refine lv_aload_n hx hb dX6_makes_35 rfl (lv_at hl 1 rfl) ?_
    refine va_get (D := G.1) (ci := 6) (v := .ref aN) (C := RX6) (T := TX6) (N := 9) hx hb hts hi_X6_makes_RX6 hown hK hP 0 rfl rfl 0 (by decide) (hts _ hw_X6_makes_f7) (fun _ h9 => h9) rfl dX6_makes_36 ?_
    refine lv_sipush (v := nI 403) hx hb dX6_makes_39 (by decide) ?_
    refine lv_iload_n hx hb dX6_makes_42 rfl (lv_at hl 2 rfl) ?_
    refine n_imul hx hb dX6_makes_43 ?_
    refine lv_sipush (v := nI 301) hx hb dX6_makes_44 (by decide) ?_
    refine n_iadd hx hb dX6_makes_47 ?_
    refine lv_iload hx hb dX6_makes_48 (lv_at hl 0 rfl) ?_
    refine n_iadd hx hb dX6_makes_50 ?_
    refine lv_aload_n hx hb dX6_makes_51 rfl (lv_at hl 1 rfl) ?_
    refine va_get (D := G.1) (ci := 6) (v := .ref aN) (C := RX6) (T := TX6) (N := 9) hx hb hts hi_X6_makes_RX6 hown hK hP 0 rfl rfl 0 (by decide) (hts _ hw_X6_makes_f7) (fun _ h9 => h9) rfl dX6_makes_52 ?_
    refine lv_sipush (v := nI 10172) hx hb dX6_makes_55 (by decide) ?_
    refine n_iald hx hb hK hP 1 0 rfl rfl (by omega) (by decide) dX6_makes_58 ?_
    refine n_iast hx hb hK hP hD hS 1 0 rfl rfl (by omega) (by decide) dX6_makes_59 (fun H locs hP hD hS => ?_)
    have hP : va_P G.1 vwCl [(m0, .inr (6, [.ref aN, .ref aH, .int (nI kept), .ref aS, .int (nI fil), .int (nI ty), .ref aT, .int (nI at_), .int (nI nu)])), (aN, .inl (xcI G, 10276, .inl (nf (updN N (((403 * r) + 301) + ((rBg k) + q)) (N 10172))))), (aH, .inl (xcI G, 41104, .inl (nf Hs))), (aS, .inl (xcI G, 10276, .inl (nf Sl))), (aT, .inl (xcC G, 60, .inl (nf tx)))] H := hP
    have hD : va_D (fun q => q ∈ [m0, aN, aH, aS, aT]) [(m0, .inr (6, [.ref aN, .ref aH, .int (nI kept), .ref aS, .int (nI fil), .int (nI ty), .ref aT, .int (nI at_), .int (nI nu)])), (aN, .inl (xcI G, 10276, .inl (nf (updN N (((403 * r) + 301) + ((rBg k) + q)) (N 10172))))), (aH, .inl (xcI G, 41104, .inl (nf Hs))), (aS, .inl (xcI G, 10276, .inl (nf Sl))), (aT, .inl (xcC G, 60, .inl (nf tx)))] := hD
    refine lv_aload_n hx hb dX6_makes_60 rfl (lv_at hl 1 rfl) ?_
    refine va_get (D := G.1) (ci := 6) (v := .ref aN) (C := RX6) (T := TX6) (N := 9) hx hb hts hi_X6_makes_RX6 hown hK hP 0 rfl rfl 0 (by decide) (hts _ hw_X6_makes_f7) (fun _ h9 => h9) rfl dX6_makes_61 ?_
    refine lv_sipush (v := nI 10172) hx hb dX6_makes_64 (by decide) ?_
    refine lv_dup2_11 hx hb dX6_makes_67 rfl rfl ?_
    refine n_iald hx hb hK hP 1 0 rfl rfl (by omega) (by decide) dX6_makes_68 ?_
    refine lv_iconst (v := nI 1) hx hb dX6_makes_69 rfl ?_
    refine n_iadd hx hb dX6_makes_70 ?_
    refine n_iast hx hb hK hP hD hS 1 0 rfl rfl (by omega) (by decide) dX6_makes_71 (fun H locs hP hD hS => ?_)
    have hP : va_P G.1 vwCl [(m0, .inr (6, [.ref aN, .ref aH, .int (nI kept), .ref aS, .int (nI fil), .int (nI ty), .ref aT, .int (nI at_), .int (nI nu)])), (aN, .inl (xcI G, 10276, .inl (nf (updN (updN N (((403 * r) + 301) + ((rBg k) + q)) (N 10172)) 10172 (((updN N (((403 * r) + 301) + ((rBg k) + q)) (N 10172)) 10172) + 1))))), (aH, .inl (xcI G, 41104, .inl (nf Hs))), (aS, .inl (xcI G, 10276, .inl (nf Sl))), (aT, .inl (xcC G, 60, .inl (nf tx)))] H := hP
    have hD : va_D (fun q => q ∈ [m0, aN, aH, aS, aT]) [(m0, .inr (6, [.ref aN, .ref aH, .int (nI kept), .ref aS, .int (nI fil), .int (nI ty), .ref aT, .int (nI at_), .int (nI nu)])), (aN, .inl (xcI G, 10276, .inl (nf (updN (updN N (((403 * r) + 301) + ((rBg k) + q)) (N 10172)) 10172 (((updN N (((403 * r) + 301) + ((rBg k) + q)) (N 10172)) 10172) + 1))))), (aH, .inl (xcI G, 41104, .inl (nf Hs))), (aS, .inl (xcI G, 10276, .inl (nf Sl))), (aT, .inl (xcC G, 60, .inl (nf tx)))] := hD
    refine lv_iload_n hx hb dX6_makes_72 rfl (lv_at hl 2 rfl) ?_
    refine lv_bipush (v := nI 24) hx hb dX6_makes_73 (by decide) ?_
    refine n_icmp_ne (tgt := 90) hx hb (by omega) (by omega) dX6_makes_75 (by decide) (fun c_75 => ?_) (fun c_75 => ?_)
    · exact xend_v () hx hb hr hk hS (fun _ h => h) dX6_makes_90 rfl (by rw [rMk, if_neg (fun q => c_11 q.1), if_neg c_11]; exact hP) (Nat.le_refl _) (Nat.le_refl _)
    · exact absurd c_75 c_11
  · refine lv_iload hx hb dX6_makes_14 (lv_at hl 5 rfl) ?_
    refine n_if_eq (tgt := 35) hx hb (by omega) dX6_makes_16 (by decide) (fun c_16 => ?_) (fun c_16 => ?_)
    · refine lv_aload_n hx hb dX6_makes_35 rfl (lv_at hl 1 rfl) ?_
      refine va_get (D := G.1) (ci := 6) (v := .ref aN) (C := RX6) (T := TX6) (N := 9) hx hb hts hi_X6_makes_RX6 hown hK hP 0 rfl rfl 0 (by decide) (hts _ hw_X6_makes_f7) (fun _ h9 => h9) rfl dX6_makes_36 ?_
      refine lv_sipush (v := nI 403) hx hb dX6_makes_39 (by decide) ?_
      refine lv_iload_n hx hb dX6_makes_42 rfl (lv_at hl 2 rfl) ?_
      refine n_imul hx hb dX6_makes_43 ?_
      refine lv_sipush (v := nI 301) hx hb dX6_makes_44 (by decide) ?_
      refine n_iadd hx hb dX6_makes_47 ?_
      refine lv_iload hx hb dX6_makes_48 (lv_at hl 0 rfl) ?_
      refine n_iadd hx hb dX6_makes_50 ?_
      refine lv_aload_n hx hb dX6_makes_51 rfl (lv_at hl 1 rfl) ?_
      refine va_get (D := G.1) (ci := 6) (v := .ref aN) (C := RX6) (T := TX6) (N := 9) hx hb hts hi_X6_makes_RX6 hown hK hP 0 rfl rfl 0 (by decide) (hts _ hw_X6_makes_f7) (fun _ h9 => h9) rfl dX6_makes_52 ?_
      refine lv_sipush (v := nI 10172) hx hb dX6_makes_55 (by decide) ?_
      refine n_iald hx hb hK hP 1 0 rfl rfl (by omega) (by decide) dX6_makes_58 ?_
      refine n_iast hx hb hK hP hD hS 1 0 rfl rfl (by omega) (by decide) dX6_makes_59 (fun H locs hP hD hS => ?_)
      have hP : va_P G.1 vwCl [(m0, .inr (6, [.ref aN, .ref aH, .int (nI kept), .ref aS, .int (nI fil), .int (nI ty), .ref aT, .int (nI at_), .int (nI nu)])), (aN, .inl (xcI G, 10276, .inl (nf (updN N (((403 * r) + 301) + ((rBg k) + q)) (N 10172))))), (aH, .inl (xcI G, 41104, .inl (nf Hs))), (aS, .inl (xcI G, 10276, .inl (nf Sl))), (aT, .inl (xcC G, 60, .inl (nf tx)))] H := hP
      have hD : va_D (fun q => q ∈ [m0, aN, aH, aS, aT]) [(m0, .inr (6, [.ref aN, .ref aH, .int (nI kept), .ref aS, .int (nI fil), .int (nI ty), .ref aT, .int (nI at_), .int (nI nu)])), (aN, .inl (xcI G, 10276, .inl (nf (updN N (((403 * r) + 301) + ((rBg k) + q)) (N 10172))))), (aH, .inl (xcI G, 41104, .inl (nf Hs))), (aS, .inl (xcI G, 10276, .inl (nf Sl))), (aT, .inl (xcC G, 60, .inl (nf tx)))] := hD
      refine lv_aload_n hx hb dX6_makes_60 rfl (lv_at hl 1 rfl) ?_
      refine va_get (D := G.1) (ci := 6) (v := .ref aN) (C := RX6) (T := TX6) (N := 9) hx hb hts hi_X6_makes_RX6 hown hK hP 0 rfl rfl 0 (by decide) (hts _ hw_X6_makes_f7) (fun _ h9 => h9) rfl dX6_makes_61 ?_
      refine lv_sipush (v := nI 10172) hx hb dX6_makes_64 (by decide) ?_
      refine lv_dup2_11 hx hb dX6_makes_67 rfl rfl ?_
      refine n_iald hx hb hK hP 1 0 rfl rfl (by omega) (by decide) dX6_makes_68 ?_
      refine lv_iconst (v := nI 1) hx hb dX6_makes_69 rfl ?_
      refine n_iadd hx hb dX6_makes_70 ?_
      refine n_iast hx hb hK hP hD hS 1 0 rfl rfl (by omega) (by decide) dX6_makes_71 (fun H locs hP hD hS => ?_)
      have hP : va_P G.1 vwCl [(m0, .inr (6, [.ref aN, .ref aH, .int (nI kept), .ref aS, .int (nI fil), .int (nI ty), .ref aT, .int (nI at_), .int (nI nu)])), (aN, .inl (xcI G, 10276, .inl (nf (updN (updN N (((403 * r) + 301) + ((rBg k) + q)) (N 10172)) 10172 (((updN N (((403 * r) + 301) + ((rBg k) + q)) (N 10172)) 10172) + 1))))), (aH, .inl (xcI G, 41104, .inl (nf Hs))), (aS, .inl (xcI G, 10276, .inl (nf Sl))), (aT, .inl (xcC G, 60, .inl (nf tx)))] H := hP
      have hD : va_D (fun q => q ∈ [m0, aN, aH, aS, aT]) [(m0, .inr (6, [.ref aN, .ref aH, .int (nI kept), .ref aS, .int (nI fil), .int (nI ty), .ref aT, .int (nI at_), .int (nI nu)])), (aN, .inl (xcI G, 10276, .inl (nf (updN (updN N (((403 * r) + 301) + ((rBg k) + q)) (N 10172)) 10172 (((updN N (((403 * r) + 301) + ((rBg k) + q)) (N 10172)) 10172) + 1))))), (aH, .inl (xcI G, 41104, .inl (nf Hs))), (aS, .inl (xcI G, 10276, .inl (nf Sl))), (aT, .inl (xcC G, 60, .inl (nf tx)))] := hD
      refine lv_iload_n hx hb dX6_makes_72 rfl (lv_at hl 2 rfl) ?_
      refine lv_bipush (v := nI 24) hx hb dX6_makes_73 (by decide) ?_
      refine n_icmp_ne (tgt := 90) hx hb (by omega) (by omega) dX6_makes_75 (by decide) (fun c_75 => ?_) (fun c_75 => ?_)
      · exact absurd c_11 c_75
      · refine lv_aload_n hx hb dX6_makes_78 rfl (lv_at hl 1 rfl) ?_
        refine va_get (D := G.1) (ci := 6) (v := .ref aN) (C := RX6) (T := TX6) (N := 9) hx hb hts hi_X6_makes_RX6 hown hK hP 0 rfl rfl 0 (by decide) (hts _ hw_X6_makes_f7) (fun _ h9 => h9) rfl dX6_makes_79 ?_
        refine lv_sipush (v := nI 10174) hx hb dX6_makes_82 (by decide) ?_
        refine lv_iload hx hb dX6_makes_85 (lv_at hl 0 rfl) ?_
        refine n_iadd hx hb dX6_makes_87 ?_
        refine lv_iconst (v := nI 1) hx hb dX6_makes_88 rfl ?_
        refine n_iast hx hb hK hP hD hS 1 0 rfl rfl (by omega) (by decide) dX6_makes_89 (fun H locs hP hD hS => ?_)
        have hP : va_P G.1 vwCl [(m0, .inr (6, [.ref aN, .ref aH, .int (nI kept), .ref aS, .int (nI fil), .int (nI ty), .ref aT, .int (nI at_), .int (nI nu)])), (aN, .inl (xcI G, 10276, .inl (nf (updN (updN (updN N (((403 * r) + 301) + ((rBg k) + q)) (N 10172)) 10172 (((updN N (((403 * r) + 301) + ((rBg k) + q)) (N 10172)) 10172) + 1)) (10174 + ((rBg k) + q)) 1)))), (aH, .inl (xcI G, 41104, .inl (nf Hs))), (aS, .inl (xcI G, 10276, .inl (nf Sl))), (aT, .inl (xcC G, 60, .inl (nf tx)))] H := hP
        have hD : va_D (fun q => q ∈ [m0, aN, aH, aS, aT]) [(m0, .inr (6, [.ref aN, .ref aH, .int (nI kept), .ref aS, .int (nI fil), .int (nI ty), .ref aT, .int (nI at_), .int (nI nu)])), (aN, .inl (xcI G, 10276, .inl (nf (updN (updN (updN N (((403 * r) + 301) + ((rBg k) + q)) (N 10172)) 10172 (((updN N (((403 * r) + 301) + ((rBg k) + q)) (N 10172)) 10172) + 1)) (10174 + ((rBg k) + q)) 1)))), (aH, .inl (xcI G, 41104, .inl (nf Hs))), (aS, .inl (xcI G, 10276, .inl (nf Sl))), (aT, .inl (xcC G, 60, .inl (nf tx)))] := hD
        exact xend_v () hx hb hr hk hS (fun _ h => h) dX6_makes_90 rfl (by rw [rMk, if_neg (fun q => q.2.1 c_16), if_pos c_11]; exact hP) (Nat.le_refl _) (Nat.le_refl _)
    · refine lv_aload_n hx hb dX6_makes_19 rfl (lv_at hl 1 rfl) ?_
      refine va_get (D := G.1) (ci := 6) (v := .ref aN) (C := RX6) (T := TX6) (N := 9) hx hb hts hi_X6_makes_RX6 hown hK hP 0 rfl rfl 0 (by decide) (hts _ hw_X6_makes_f7) (fun _ h9 => h9) rfl dX6_makes_20 ?_
      refine lv_sipush (v := nI 10174) hx hb dX6_makes_23 (by decide) ?_
      refine lv_iload hx hb dX6_makes_26 (lv_at hl 0 rfl) ?_
      refine n_iadd hx hb dX6_makes_28 ?_
      refine n_iald hx hb hK hP 1 0 rfl rfl (by omega) (by decide) dX6_makes_29 ?_
      refine lv_iconst (v := nI 1) hx hb dX6_makes_30 rfl ?_
      refine n_icmp_ne (tgt := 35) hx hb (by have := hN (10174 + ((rBg k) + q)); omega) (by omega) dX6_makes_31 (by decide) (fun c_31 => ?_) (fun c_31 => ?_)
      · refine lv_aload_n hx hb dX6_makes_35 rfl (lv_at hl 1 rfl) ?_
        refine va_get (D := G.1) (ci := 6) (v := .ref aN) (C := RX6) (T := TX6) (N := 9) hx hb hts hi_X6_makes_RX6 hown hK hP 0 rfl rfl 0 (by decide) (hts _ hw_X6_makes_f7) (fun _ h9 => h9) rfl dX6_makes_36 ?_
        refine lv_sipush (v := nI 403) hx hb dX6_makes_39 (by decide) ?_
        refine lv_iload_n hx hb dX6_makes_42 rfl (lv_at hl 2 rfl) ?_
        refine n_imul hx hb dX6_makes_43 ?_
        refine lv_sipush (v := nI 301) hx hb dX6_makes_44 (by decide) ?_
        refine n_iadd hx hb dX6_makes_47 ?_
        refine lv_iload hx hb dX6_makes_48 (lv_at hl 0 rfl) ?_
        refine n_iadd hx hb dX6_makes_50 ?_
        refine lv_aload_n hx hb dX6_makes_51 rfl (lv_at hl 1 rfl) ?_
        refine va_get (D := G.1) (ci := 6) (v := .ref aN) (C := RX6) (T := TX6) (N := 9) hx hb hts hi_X6_makes_RX6 hown hK hP 0 rfl rfl 0 (by decide) (hts _ hw_X6_makes_f7) (fun _ h9 => h9) rfl dX6_makes_52 ?_
        refine lv_sipush (v := nI 10172) hx hb dX6_makes_55 (by decide) ?_
        refine n_iald hx hb hK hP 1 0 rfl rfl (by omega) (by decide) dX6_makes_58 ?_
        refine n_iast hx hb hK hP hD hS 1 0 rfl rfl (by omega) (by decide) dX6_makes_59 (fun H locs hP hD hS => ?_)
        have hP : va_P G.1 vwCl [(m0, .inr (6, [.ref aN, .ref aH, .int (nI kept), .ref aS, .int (nI fil), .int (nI ty), .ref aT, .int (nI at_), .int (nI nu)])), (aN, .inl (xcI G, 10276, .inl (nf (updN N (((403 * r) + 301) + ((rBg k) + q)) (N 10172))))), (aH, .inl (xcI G, 41104, .inl (nf Hs))), (aS, .inl (xcI G, 10276, .inl (nf Sl))), (aT, .inl (xcC G, 60, .inl (nf tx)))] H := hP
        have hD : va_D (fun q => q ∈ [m0, aN, aH, aS, aT]) [(m0, .inr (6, [.ref aN, .ref aH, .int (nI kept), .ref aS, .int (nI fil), .int (nI ty), .ref aT, .int (nI at_), .int (nI nu)])), (aN, .inl (xcI G, 10276, .inl (nf (updN N (((403 * r) + 301) + ((rBg k) + q)) (N 10172))))), (aH, .inl (xcI G, 41104, .inl (nf Hs))), (aS, .inl (xcI G, 10276, .inl (nf Sl))), (aT, .inl (xcC G, 60, .inl (nf tx)))] := hD
        refine lv_aload_n hx hb dX6_makes_60 rfl (lv_at hl 1 rfl) ?_
        refine va_get (D := G.1) (ci := 6) (v := .ref aN) (C := RX6) (T := TX6) (N := 9) hx hb hts hi_X6_makes_RX6 hown hK hP 0 rfl rfl 0 (by decide) (hts _ hw_X6_makes_f7) (fun _ h9 => h9) rfl dX6_makes_61 ?_
        refine lv_sipush (v := nI 10172) hx hb dX6_makes_64 (by decide) ?_
        refine lv_dup2_11 hx hb dX6_makes_67 rfl rfl ?_
        refine n_iald hx hb hK hP 1 0 rfl rfl (by omega) (by decide) dX6_makes_68 ?_
        refine lv_iconst (v := nI 1) hx hb dX6_makes_69 rfl ?_
        refine n_iadd hx hb dX6_makes_70 ?_
        refine n_iast hx hb hK hP hD hS 1 0 rfl rfl (by omega) (by decide) dX6_makes_71 (fun H locs hP hD hS => ?_)
        have hP : va_P G.1 vwCl [(m0, .inr (6, [.ref aN, .ref aH, .int (nI kept), .ref aS, .int (nI fil), .int (nI ty), .ref aT, .int (nI at_), .int (nI nu)])), (aN, .inl (xcI G, 10276, .inl (nf (updN (updN N (((403 * r) + 301) + ((rBg k) + q)) (N 10172)) 10172 (((updN N (((403 * r) + 301) + ((rBg k) + q)) (N 10172)) 10172) + 1))))), (aH, .inl (xcI G, 41104, .inl (nf Hs))), (aS, .inl (xcI G, 10276, .inl (nf Sl))), (aT, .inl (xcC G, 60, .inl (nf tx)))] H := hP
        have hD : va_D (fun q => q ∈ [m0, aN, aH, aS, aT]) [(m0, .inr (6, [.ref aN, .ref aH, .int (nI kept), .ref aS, .int (nI fil), .int (nI ty), .ref aT, .int (nI at_), .int (nI nu)])), (aN, .inl (xcI G, 10276, .inl (nf (updN (updN N (((403 * r) + 301) + ((rBg k) + q)) (N 10172)) 10172 (((updN N (((403 * r) + 301) + ((rBg k) + q)) (N 10172)) 10172) + 1))))), (aH, .inl (xcI G, 41104, .inl (nf Hs))), (aS, .inl (xcI G, 10276, .inl (nf Sl))), (aT, .inl (xcC G, 60, .inl (nf tx)))] := hD
        refine lv_iload_n hx hb dX6_makes_72 rfl (lv_at hl 2 rfl) ?_
        refine lv_bipush (v := nI 24) hx hb dX6_makes_73 (by decide) ?_
        refine n_icmp_ne (tgt := 90) hx hb (by omega) (by omega) dX6_makes_75 (by decide) (fun c_75 => ?_) (fun c_75 => ?_)
        · exact absurd c_11 c_75
        · refine lv_aload_n hx hb dX6_makes_78 rfl (lv_at hl 1 rfl) ?_
          refine va_get (D := G.1) (ci := 6) (v := .ref aN) (C := RX6) (T := TX6) (N := 9) hx hb hts hi_X6_makes_RX6 hown hK hP 0 rfl rfl 0 (by decide) (hts _ hw_X6_makes_f7) (fun _ h9 => h9) rfl dX6_makes_79 ?_
          refine lv_sipush (v := nI 10174) hx hb dX6_makes_82 (by decide) ?_
          refine lv_iload hx hb dX6_makes_85 (lv_at hl 0 rfl) ?_
          refine n_iadd hx hb dX6_makes_87 ?_
          refine lv_iconst (v := nI 1) hx hb dX6_makes_88 rfl ?_
          refine n_iast hx hb hK hP hD hS 1 0 rfl rfl (by omega) (by decide) dX6_makes_89 (fun H locs hP hD hS => ?_)
          have hP : va_P G.1 vwCl [(m0, .inr (6, [.ref aN, .ref aH, .int (nI kept), .ref aS, .int (nI fil), .int (nI ty), .ref aT, .int (nI at_), .int (nI nu)])), (aN, .inl (xcI G, 10276, .inl (nf (updN (updN (updN N (((403 * r) + 301) + ((rBg k) + q)) (N 10172)) 10172 (((updN N (((403 * r) + 301) + ((rBg k) + q)) (N 10172)) 10172) + 1)) (10174 + ((rBg k) + q)) 1)))), (aH, .inl (xcI G, 41104, .inl (nf Hs))), (aS, .inl (xcI G, 10276, .inl (nf Sl))), (aT, .inl (xcC G, 60, .inl (nf tx)))] H := hP
          have hD : va_D (fun q => q ∈ [m0, aN, aH, aS, aT]) [(m0, .inr (6, [.ref aN, .ref aH, .int (nI kept), .ref aS, .int (nI fil), .int (nI ty), .ref aT, .int (nI at_), .int (nI nu)])), (aN, .inl (xcI G, 10276, .inl (nf (updN (updN (updN N (((403 * r) + 301) + ((rBg k) + q)) (N 10172)) 10172 (((updN N (((403 * r) + 301) + ((rBg k) + q)) (N 10172)) 10172) + 1)) (10174 + ((rBg k) + q)) 1)))), (aH, .inl (xcI G, 41104, .inl (nf Hs))), (aS, .inl (xcI G, 10276, .inl (nf Sl))), (aT, .inl (xcC G, 60, .inl (nf tx)))] := hD
          exact xend_v () hx hb hr hk hS (fun _ h => h) dX6_makes_90 rfl (by rw [rMk, if_neg (fun q => c_31 q.2.2), if_pos c_11]; exact hP) (Nat.le_refl _) (Nat.le_refl _)
      · exact xend_v () hx hb hr hk hS (fun _ h => h) dX6_makes_34 rfl (by rw [rMk, if_pos ⟨c_11, c_16, c_31⟩]; exact hP) (Nat.le_refl _) (Nat.le_refl _)

theorem hw_X6_pushes_f7 : Cond.fieldLink RX6 7 "TailVectorsModel" "now" "[I" ∈ wsX6_pushes := by decide +kernel
theorem hi_X6_pushes_RX6 : ∀ w ∈ u_ws RX6 TX6 9, w ∈ wsX6_pushes := by decide +kernel
set_option maxHeartbeats 4000000 in
set_option maxRecDepth 100000 in
theorem c_X6_pushes (l : Launch) (G : xG) (m0 : Nat) (aN : Nat) (aH : Nat) (aS : Nat) (aT : Nat) (N : Nat → Nat) (Hs : Nat → Nat) (Sl : Nat → Nat) (tx : Nat → Nat) (kept : Nat) (fil : Nat) (ty : Nat) (at_ : Nat) (nu : Nat) (r : Nat) (x : Nat) (hN : ∀ j, N j < 2 ^ 24) (hdis : xDis (xB0 G) [m0, aN, aH, aS, aT]) (hr24 : r ≤ 24) (hrl : N (403 * r) < 300) (hM : N 10172 < 2 ^ 23) : Met l yX6_pushes wsX6_pushes ({ frames := 3, cells := 0, slots := 0, locals := 62 } : Room) (xPc G [.ref m0, .int (nI r), .int (nI x)] (fun H => va_P G.1 vwCl [(m0, .inr (6, [.ref aN, .ref aH, .int (nI kept), .ref aS, .int (nI fil), .int (nI ty), .ref aT, .int (nI at_), .int (nI nu)])), (aN, .inl (xcI G, 10276, .inl (nf N))), (aH, .inl (xcI G, 41104, .inl (nf Hs))), (aS, .inl (xcI G, 10276, .inl (nf Sl))), (aT, .inl (xcC G, 60, .inl (nf tx)))] H)) (xQ (σ := Unit) (fun _ => none) (fun _ H => va_P G.1 vwCl [(m0, .inr (6, [.ref aN, .ref aH, .int (nI kept), .ref aS, .int (nI fil), .int (nI ty), .ref aT, .int (nI at_), .int (nI nu)])), (aN, .inl (xcI G, 10276, .inl (nf (rPu N r x)))), (aH, .inl (xcI G, 41104, .inl (nf Hs))), (aS, .inl (xcI G, 10276, .inl (nf Sl))), (aT, .inl (xcC G, 60, .inl (nf tx)))] H) (fun q => q ∈ [m0, aN, aH, aS, aT])) 0 0 (fun q => q ∈ [m0, aN, aH, aS, aT]) := by
  refine xMet (cc := cX6_pushes) (nL := 8) (ret := none) (by decide) rfl (Nat.le_of_ble_eq_true rfl) ?_
  intro p e s m below meth c S hr hk hnm hE hP ls hl
  obtain ⟨hx, hb, hml, hown, hts⟩ := id S
  have hown : s.vm.findClass RX6 = some m.cls := hown
  have hK := hE.1
  have hS : va_S (fun q => q ∈ [m0, aN, aH, aS, aT]) s.heap s.heap [] := va_S.rf
  have hA : ∀ q, (fun q => q ∈ [m0, aN, aH, aS, aT]) q → xB0 G ≤ q := hdis.2
  have hP : va_P G.1 vwCl [(m0, .inr (6, [.ref aN, .ref aH, .int (nI kept), .ref aS, .int (nI fil), .int (nI ty), .ref aT, .int (nI at_), .int (nI nu)])), (aN, .inl (xcI G, 10276, .inl (nf N))), (aH, .inl (xcI G, 41104, .inl (nf Hs))), (aS, .inl (xcI G, 10276, .inl (nf Sl))), (aT, .inl (xcC G, 60, .inl (nf tx)))] s.heap := hP
  have hD : va_D (fun q => q ∈ [m0, aN, aH, aS, aT]) [(m0, .inr (6, [.ref aN, .ref aH, .int (nI kept), .ref aS, .int (nI fil), .int (nI ty), .ref aT, .int (nI at_), .int (nI nu)])), (aN, .inl (xcI G, 10276, .inl (nf N))), (aH, .inl (xcI G, 41104, .inl (nf Hs))), (aS, .inl (xcI G, 10276, .inl (nf Sl))), (aT, .inl (xcC G, 60, .inl (nf tx)))] := (hdis.to rfl)
  have hl : lv_has ls 8 [(0, .ref m0), (1, .int (nI r)), (2, .int (nI x))] := hl
  refine lv_aload_n hx hb dX6_pushes_0 rfl (lv_at hl 0 rfl) ?_
  refine lv_iload_n hx hb dX6_pushes_1 rfl (lv_at hl 1 rfl) ?_
  refine xrd (xrunV (As := [.int (nI r)]) (rest := []) S (c_X6_rowLength l G m0 aN aH aS aT N Hs Sl tx kept fil ty at_ nu r hN (by omega)) (cwV 1 hts gX6_pushes_X6_rowLength rfl rfl rfl (by decide +kernel) ⟨Nat.le_of_ble_eq_true rfl, Nat.le_of_ble_eq_true rfl⟩) hE hS hA 0 6 hP rfl rfl rfl hP rfl rfl hl.1 (Nat.le_of_ble_eq_true rfl) dX6_pushes_2 ⟨Nat.le_of_ble_eq_true rfl, Nat.le_of_ble_eq_true rfl⟩) ?_
  refine lv_istore_n (lv' := [(3, .int (nI (N (403 * r)))), (0, .ref m0), (1, .int (nI r)), (2, .int (nI x))]) hx hb dX6_pushes_5 rfl hl (by decide) rfl (fun ls hl => ?_)
  refine lv_iload_n hx hb dX6_pushes_6 rfl (lv_at hl 0 rfl) ?_
  refine xrd (xrunS (As := [.int (nI (N (403 * r)))]) (rest := []) S (c_X6_leaves l G (N (403 * r)) (by omega)) (va_cwS 1 hts gX6_pushes_X6_leaves rfl rfl rfl (by decide +kernel) ⟨Nat.le_of_ble_eq_true rfl, Nat.le_of_ble_eq_true rfl⟩) hE hS hA trivial rfl rfl hl.1 (Nat.le_of_ble_eq_true rfl) dX6_pushes_7 ⟨Nat.le_of_ble_eq_true rfl, Nat.le_of_ble_eq_true rfl⟩) ?_
  refine lv_istore (lv' := [(4, .int (nI (rLv (N (403 * r))))), (3, .int (nI (N (403 * r)))), (0, .ref m0), (1, .int (nI r)), (2, .int (nI x))]) hx hb dX6_pushes_10 hl (by decide) rfl (fun ls hl => ?_)
  refine lv_iload_n hx hb dX6_pushes_12 rfl (lv_at hl 1 rfl) ?_
  refine n_if_le (tgt := 92) hx hb (by have := hN (403 * r); omega) dX6_pushes_13 (by decide) (fun c_13 => ?_) (fun c_13 => ?_)
  · refine lv_aload_n hx hb dX6_pushes_92 rfl (lv_at hl 2 rfl) ?_
    refine va_get (D := G.1) (ci := 6) (v := .ref aN) (C := RX6) (T := TX6) (N := 9) hx hb hts hi_X6_pushes_RX6 hown hK hP 0 rfl rfl 0 (by decide) (hts _ hw_X6_pushes_f7) (fun _ h9 => h9) rfl dX6_pushes_93 ?_
    refine lv_sipush (v := nI 403) hx hb dX6_pushes_96 (by decide) ?_
    refine lv_iload_n hx hb dX6_pushes_99 rfl (lv_at hl 3 rfl) ?_
    refine n_imul hx hb dX6_pushes_100 ?_
    refine lv_iconst (v := nI 1) hx hb dX6_pushes_101 rfl ?_
    refine n_iadd hx hb dX6_pushes_102 ?_
    refine lv_iload_n hx hb dX6_pushes_103 rfl (lv_at hl 1 rfl) ?_
    refine n_iadd hx hb dX6_pushes_104 ?_
    refine lv_iload_n hx hb dX6_pushes_105 rfl (lv_at hl 4 rfl) ?_
    refine n_iast hx hb hK hP hD hS 1 0 rfl rfl (by have := hN (403 * r); omega) (by decide) dX6_pushes_106 (fun H locs hP hD hS => ?_)
    have hP : va_P G.1 vwCl [(m0, .inr (6, [.ref aN, .ref aH, .int (nI kept), .ref aS, .int (nI fil), .int (nI ty), .ref aT, .int (nI at_), .int (nI nu)])), (aN, .inl (xcI G, 10276, .inl (nf (updN N (((403 * r) + 1) + (N (403 * r))) x)))), (aH, .inl (xcI G, 41104, .inl (nf Hs))), (aS, .inl (xcI G, 10276, .inl (nf Sl))), (aT, .inl (xcC G, 60, .inl (nf tx)))] H := hP
    have hD : va_D (fun q => q ∈ [m0, aN, aH, aS, aT]) [(m0, .inr (6, [.ref aN, .ref aH, .int (nI kept), .ref aS, .int (nI fil), .int (nI ty), .ref aT, .int (nI at_), .int (nI nu)])), (aN, .inl (xcI G, 10276, .inl (nf (updN N (((403 * r) + 1) + (N (403 * r))) x)))), (aH, .inl (xcI G, 41104, .inl (nf Hs))), (aS, .inl (xcI G, 10276, .inl (nf Sl))), (aT, .inl (xcC G, 60, .inl (nf tx)))] := hD
    refine lv_aload_n hx hb dX6_pushes_107 rfl (lv_at hl 2 rfl) ?_
    refine va_get (D := G.1) (ci := 6) (v := .ref aN) (C := RX6) (T := TX6) (N := 9) hx hb hts hi_X6_pushes_RX6 hown hK hP 0 rfl rfl 0 (by decide) (hts _ hw_X6_pushes_f7) (fun _ h9 => h9) rfl dX6_pushes_108 ?_
    refine lv_sipush (v := nI 403) hx hb dX6_pushes_111 (by decide) ?_
    refine lv_iload_n hx hb dX6_pushes_114 rfl (lv_at hl 3 rfl) ?_
    refine n_imul hx hb dX6_pushes_115 ?_
    refine lv_iload_n hx hb dX6_pushes_116 rfl (lv_at hl 1 rfl) ?_
    refine lv_iconst (v := nI 1) hx hb dX6_pushes_117 rfl ?_
    refine n_iadd hx hb dX6_pushes_118 ?_
    refine n_iast hx hb hK hP hD hS 1 0 rfl rfl (by omega) (by decide) dX6_pushes_119 (fun H locs hP hD hS => ?_)
    have hP : va_P G.1 vwCl [(m0, .inr (6, [.ref aN, .ref aH, .int (nI kept), .ref aS, .int (nI fil), .int (nI ty), .ref aT, .int (nI at_), .int (nI nu)])), (aN, .inl (xcI G, 10276, .inl (nf (updN (updN N (((403 * r) + 1) + (N (403 * r))) x) (403 * r) ((N (403 * r)) + 1))))), (aH, .inl (xcI G, 41104, .inl (nf Hs))), (aS, .inl (xcI G, 10276, .inl (nf Sl))), (aT, .inl (xcC G, 60, .inl (nf tx)))] H := hP
    have hD : va_D (fun q => q ∈ [m0, aN, aH, aS, aT]) [(m0, .inr (6, [.ref aN, .ref aH, .int (nI kept), .ref aS, .int (nI fil), .int (nI ty), .ref aT, .int (nI at_), .int (nI nu)])), (aN, .inl (xcI G, 10276, .inl (nf (updN (updN N (((403 * r) + 1) + (N (403 * r))) x) (403 * r) ((N (403 * r)) + 1))))), (aH, .inl (xcI G, 41104, .inl (nf Hs))), (aS, .inl (xcI G, 10276, .inl (nf Sl))), (aT, .inl (xcC G, 60, .inl (nf tx)))] := hD
    exact xend_v () hx hb hr hk hS (fun _ h => h) dX6_pushes_120 rfl (by rw [rPu, if_neg (fun q => absurd q.1 (Nat.not_lt.mpr c_13))]; exact hP) (Nat.le_refl _) (Nat.le_refl _)
  · refine lv_iload_n hx hb dX6_pushes_16 rfl (lv_at hl 1 rfl) ?_
    refine lv_iconst (v := nI 4) hx hb dX6_pushes_17 rfl ?_
    refine n_irem hx hb (by have := hN (403 * r); omega) (by omega) (by omega) dX6_pushes_18 ?_
    refine n_if_ne (tgt := 92) hx hb (by have := hN (403 * r); omega) dX6_pushes_19 (by decide) (fun c_19 => ?_) (fun c_19 => ?_)
    · refine lv_aload_n hx hb dX6_pushes_92 rfl (lv_at hl 2 rfl) ?_
      refine va_get (D := G.1) (ci := 6) (v := .ref aN) (C := RX6) (T := TX6) (N := 9) hx hb hts hi_X6_pushes_RX6 hown hK hP 0 rfl rfl 0 (by decide) (hts _ hw_X6_pushes_f7) (fun _ h9 => h9) rfl dX6_pushes_93 ?_
      refine lv_sipush (v := nI 403) hx hb dX6_pushes_96 (by decide) ?_
      refine lv_iload_n hx hb dX6_pushes_99 rfl (lv_at hl 3 rfl) ?_
      refine n_imul hx hb dX6_pushes_100 ?_
      refine lv_iconst (v := nI 1) hx hb dX6_pushes_101 rfl ?_
      refine n_iadd hx hb dX6_pushes_102 ?_
      refine lv_iload_n hx hb dX6_pushes_103 rfl (lv_at hl 1 rfl) ?_
      refine n_iadd hx hb dX6_pushes_104 ?_
      refine lv_iload_n hx hb dX6_pushes_105 rfl (lv_at hl 4 rfl) ?_
      refine n_iast hx hb hK hP hD hS 1 0 rfl rfl (by have := hN (403 * r); omega) (by decide) dX6_pushes_106 (fun H locs hP hD hS => ?_)
      have hP : va_P G.1 vwCl [(m0, .inr (6, [.ref aN, .ref aH, .int (nI kept), .ref aS, .int (nI fil), .int (nI ty), .ref aT, .int (nI at_), .int (nI nu)])), (aN, .inl (xcI G, 10276, .inl (nf (updN N (((403 * r) + 1) + (N (403 * r))) x)))), (aH, .inl (xcI G, 41104, .inl (nf Hs))), (aS, .inl (xcI G, 10276, .inl (nf Sl))), (aT, .inl (xcC G, 60, .inl (nf tx)))] H := hP
      have hD : va_D (fun q => q ∈ [m0, aN, aH, aS, aT]) [(m0, .inr (6, [.ref aN, .ref aH, .int (nI kept), .ref aS, .int (nI fil), .int (nI ty), .ref aT, .int (nI at_), .int (nI nu)])), (aN, .inl (xcI G, 10276, .inl (nf (updN N (((403 * r) + 1) + (N (403 * r))) x)))), (aH, .inl (xcI G, 41104, .inl (nf Hs))), (aS, .inl (xcI G, 10276, .inl (nf Sl))), (aT, .inl (xcC G, 60, .inl (nf tx)))] := hD
      refine lv_aload_n hx hb dX6_pushes_107 rfl (lv_at hl 2 rfl) ?_
      refine va_get (D := G.1) (ci := 6) (v := .ref aN) (C := RX6) (T := TX6) (N := 9) hx hb hts hi_X6_pushes_RX6 hown hK hP 0 rfl rfl 0 (by decide) (hts _ hw_X6_pushes_f7) (fun _ h9 => h9) rfl dX6_pushes_108 ?_
      refine lv_sipush (v := nI 403) hx hb dX6_pushes_111 (by decide) ?_
      refine lv_iload_n hx hb dX6_pushes_114 rfl (lv_at hl 3 rfl) ?_
      refine n_imul hx hb dX6_pushes_115 ?_
      refine lv_iload_n hx hb dX6_pushes_116 rfl (lv_at hl 1 rfl) ?_
      refine lv_iconst (v := nI 1) hx hb dX6_pushes_117 rfl ?_
      refine n_iadd hx hb dX6_pushes_118 ?_
      refine n_iast hx hb hK hP hD hS 1 0 rfl rfl (by omega) (by decide) dX6_pushes_119 (fun H locs hP hD hS => ?_)
      have hP : va_P G.1 vwCl [(m0, .inr (6, [.ref aN, .ref aH, .int (nI kept), .ref aS, .int (nI fil), .int (nI ty), .ref aT, .int (nI at_), .int (nI nu)])), (aN, .inl (xcI G, 10276, .inl (nf (updN (updN N (((403 * r) + 1) + (N (403 * r))) x) (403 * r) ((N (403 * r)) + 1))))), (aH, .inl (xcI G, 41104, .inl (nf Hs))), (aS, .inl (xcI G, 10276, .inl (nf Sl))), (aT, .inl (xcC G, 60, .inl (nf tx)))] H := hP
      have hD : va_D (fun q => q ∈ [m0, aN, aH, aS, aT]) [(m0, .inr (6, [.ref aN, .ref aH, .int (nI kept), .ref aS, .int (nI fil), .int (nI ty), .ref aT, .int (nI at_), .int (nI nu)])), (aN, .inl (xcI G, 10276, .inl (nf (updN (updN N (((403 * r) + 1) + (N (403 * r))) x) (403 * r) ((N (403 * r)) + 1))))), (aH, .inl (xcI G, 41104, .inl (nf Hs))), (aS, .inl (xcI G, 10276, .inl (nf Sl))), (aT, .inl (xcC G, 60, .inl (nf tx)))] := hD
      exact xend_v () hx hb hr hk hS (fun _ h => h) dX6_pushes_120 rfl (by rw [rPu, if_neg (fun q => c_19 q.2)]; exact hP) (Nat.le_refl _) (Nat.le_refl _)
    · refine lv_aload_n hx hb dX6_pushes_22 rfl (lv_at hl 2 rfl) ?_
      refine lv_iload_n hx hb dX6_pushes_23 rfl (lv_at hl 3 rfl) ?_
      refine lv_iconst (v := nI 0) hx hb dX6_pushes_24 rfl ?_
      refine lv_iload hx hb dX6_pushes_25 (lv_at hl 0 rfl) ?_
      refine lv_iconst (v := nI 0) hx hb dX6_pushes_27 rfl ?_
      refine xwr (xrunV (As := [.int (nI r), .int (nI 0), .int (nI (rLv (N (403 * r)))), .int (nI 0)]) (rest := []) S (c_X6_makes l G m0 aN aH aS aT N Hs Sl tx kept fil ty at_ nu r 0 (rLv (N (403 * r))) 0 hN hdis (by omega) (by omega) (by have := rLv_le (Nat.le_of_lt hrl); show 0 + _ < 102; omega) (by omega)) (cwV 4 hts gX6_pushes_X6_makes rfl rfl rfl (by decide +kernel) ⟨Nat.le_of_ble_eq_true rfl, Nat.le_of_ble_eq_true rfl⟩) hE hS hA 0 6 hP rfl rfl rfl hP rfl rfl hl.1 (Nat.le_of_ble_eq_true rfl) dX6_pushes_28 ⟨Nat.le_of_ble_eq_true rfl, Nat.le_of_ble_eq_true rfl⟩) hS (fun _ h => h) (fun _ h => h) (fun u_ H locs hΨ hz hkp hS => ?_)
      have hP : va_P G.1 vwCl [(m0, .inr (6, [.ref aN, .ref aH, .int (nI kept), .ref aS, .int (nI fil), .int (nI ty), .ref aT, .int (nI at_), .int (nI nu)])), (aN, .inl (xcI G, 10276, .inl (nf (rMk N r 0 (rLv (N (403 * r))) 0)))), (aH, .inl (xcI G, 41104, .inl (nf Hs))), (aS, .inl (xcI G, 10276, .inl (nf Sl))), (aT, .inl (xcC G, 60, .inl (nf tx)))] H := hΨ
      have hD : va_D (fun q => q ∈ [m0, aN, aH, aS, aT]) [(m0, .inr (6, [.ref aN, .ref aH, .int (nI kept), .ref aS, .int (nI fil), .int (nI ty), .ref aT, .int (nI at_), .int (nI nu)])), (aN, .inl (xcI G, 10276, .inl (nf (rMk N r 0 (rLv (N (403 * r))) 0)))), (aH, .inl (xcI G, 41104, .inl (nf Hs))), (aS, .inl (xcI G, 10276, .inl (nf Sl))), (aT, .inl (xcC G, 60, .inl (nf tx)))] := (hdis.to rfl)
      refine W.eq (g2 := F0 m 31 ls []) rfl ?_
      refine lv_iload hx hb dX6_pushes_31 (lv_at hl 0 rfl) ?_
      refine lv_iconst (v := nI 1) hx hb dX6_pushes_33 rfl ?_
      refine n_iadd hx hb dX6_pushes_34 ?_
      refine xrd (xrunS (As := [.int (nI ((rLv (N (403 * r))) + 1))]) (rest := []) S (c_X6_rootLevel l G ((rLv (N (403 * r))) + 1) (by have := rLv_le (Nat.le_of_lt hrl); omega)) (va_cwS 1 hts gX6_pushes_X6_rootLevel rfl rfl rfl (by decide +kernel) ⟨Nat.le_of_ble_eq_true rfl, Nat.le_of_ble_eq_true rfl⟩) hE hS hA trivial rfl rfl hl.1 (Nat.le_of_ble_eq_true rfl) dX6_pushes_35 ⟨Nat.le_of_ble_eq_true rfl, Nat.le_of_ble_eq_true rfl⟩) ?_
      refine n_top (y := nI (rRt (rLv (N (403 * r)) + 1))) (rRI_pos (by omega)) ?_
      refine lv_istore (lv' := [(5, .int (nI (rRt (rLv (N (403 * r)) + 1)))), (4, .int (nI (rLv (N (403 * r))))), (3, .int (nI (N (403 * r)))), (0, .ref m0), (1, .int (nI r)), (2, .int (nI x))]) hx hb dX6_pushes_38 hl (by decide) rfl (fun ls hl => ?_)
      refine lv_iconst (v := nI 1) hx hb dX6_pushes_40 rfl ?_
      refine lv_istore (lv' := [(6, .int (nI 1)), (5, .int (nI (rRt (rLv (N (403 * r)) + 1)))), (4, .int (nI (rLv (N (403 * r))))), (3, .int (nI (N (403 * r)))), (0, .ref m0), (1, .int (nI r)), (2, .int (nI x))]) hx hb dX6_pushes_41 hl (by decide) rfl (fun ls hl => ?_)
      have hP : va_P G.1 vwCl [(m0, .inr (6, [.ref aN, .ref aH, .int (nI kept), .ref aS, .int (nI fil), .int (nI ty), .ref aT, .int (nI at_), .int (nI nu)])), (aN, .inl (xcI G, 10276, .inl (nf (rPl N r (rLv (N (403 * r))) 0)))), (aH, .inl (xcI G, 41104, .inl (nf Hs))), (aS, .inl (xcI G, 10276, .inl (nf Sl))), (aT, .inl (xcC G, 60, .inl (nf tx)))] H := hP
      have hl : lv_has ls 8 [(6, .int (nI (0 + 1))), (5, .int (nI (rRt (rLv (N (403 * r)) + 1)))), (4, .int (nI (rLv (N (403 * r))))), (3, .int (nI (N (403 * r)))), (0, .ref m0), (1, .int (nI r)), (2, .int (nI x))] := lv_sub hl [0, 1, 2, 3, 4, 5, 6] rfl
      refine xloop (σ := Nat) (C := (fun (x_ : Nat) H locs ls => (x_ ≤ rRt (rLv (N (403 * r)) + 1)) ∧ va_P G.1 vwCl [(m0, .inr (6, [.ref aN, .ref aH, .int (nI kept), .ref aS, .int (nI fil), .int (nI ty), .ref aT, .int (nI at_), .int (nI nu)])), (aN, .inl (xcI G, 10276, .inl (nf (rPl N r (rLv (N (403 * r))) x_)))), (aH, .inl (xcI G, 41104, .inl (nf Hs))), (aS, .inl (xcI G, 10276, .inl (nf Sl))), (aT, .inl (xcC G, 60, .inl (nf tx)))] H ∧ va_S (fun q => q ∈ [m0, aN, aH, aS, aT]) s.heap H locs ∧ lv_has ls 8 [(6, .int (nI (x_ + 1))), (5, .int (nI (rRt (rLv (N (403 * r)) + 1)))), (4, .int (nI (rLv (N (403 * r))))), (3, .int (nI (N (403 * r)))), (0, .ref m0), (1, .int (nI r)), (2, .int (nI x))])) (μ := (fun (x_ : Nat) => rRt (rLv (N (403 * r)) + 1) - x_)) (W' := fun H locs ls => W p l e _ s m _ below meth c H locs _ _ _ (F0 m 43 ls [])) ?_ 0 _ _ _ ⟨(Nat.zero_le _), hP, hS, hl⟩
      intro x_ H locs ls hC ih_43
      obtain ⟨j, rfl⟩ : ∃ z, z = x_ := ⟨x_, rfl⟩
      obtain ⟨hj, hP, hS, hl⟩ := hC
      have hj : j ≤ rRt (rLv (N (403 * r)) + 1) := hj
      have hP : va_P G.1 vwCl [(m0, .inr (6, [.ref aN, .ref aH, .int (nI kept), .ref aS, .int (nI fil), .int (nI ty), .ref aT, .int (nI at_), .int (nI nu)])), (aN, .inl (xcI G, 10276, .inl (nf (rPl N r (rLv (N (403 * r))) j)))), (aH, .inl (xcI G, 41104, .inl (nf Hs))), (aS, .inl (xcI G, 10276, .inl (nf Sl))), (aT, .inl (xcC G, 60, .inl (nf tx)))] H := hP
      have hD : va_D (fun q => q ∈ [m0, aN, aH, aS, aT]) [(m0, .inr (6, [.ref aN, .ref aH, .int (nI kept), .ref aS, .int (nI fil), .int (nI ty), .ref aT, .int (nI at_), .int (nI nu)])), (aN, .inl (xcI G, 10276, .inl (nf (rPl N r (rLv (N (403 * r))) j)))), (aH, .inl (xcI G, 41104, .inl (nf Hs))), (aS, .inl (xcI G, 10276, .inl (nf Sl))), (aT, .inl (xcC G, 60, .inl (nf tx)))] := (hdis.to rfl)
      have hl : lv_has ls 8 [(6, .int (nI (j + 1))), (5, .int (nI (rRt (rLv (N (403 * r)) + 1)))), (4, .int (nI (rLv (N (403 * r))))), (3, .int (nI (N (403 * r)))), (0, .ref m0), (1, .int (nI r)), (2, .int (nI x))] := hl
      refine id ?_
      have hl74 := rLv_le (Nat.le_of_lt hrl)
      have hr4 := rRt_le (rLv (N (403 * r)) + 1)
      refine lv_iload hx hb dX6_pushes_43 (lv_at hl 0 rfl) ?_
      refine lv_iload hx hb dX6_pushes_45 (lv_at hl 1 rfl) ?_
      refine n_icmp_gt (tgt := 92) hx hb (by omega) (by have := hN (403 * r); omega) dX6_pushes_47 (by decide) (fun c_47 => ?_) (fun c_47 => ?_)
      · refine lv_aload_n hx hb dX6_pushes_92 rfl (lv_at hl 4 rfl) ?_
        refine va_get (D := G.1) (ci := 6) (v := .ref aN) (C := RX6) (T := TX6) (N := 9) hx hb hts hi_X6_pushes_RX6 hown hK hP 0 rfl rfl 0 (by decide) (hts _ hw_X6_pushes_f7) (fun _ h9 => h9) rfl dX6_pushes_93 ?_
        refine lv_sipush (v := nI 403) hx hb dX6_pushes_96 (by decide) ?_
        refine lv_iload_n hx hb dX6_pushes_99 rfl (lv_at hl 5 rfl) ?_
        refine n_imul hx hb dX6_pushes_100 ?_
        refine lv_iconst (v := nI 1) hx hb dX6_pushes_101 rfl ?_
        refine n_iadd hx hb dX6_pushes_102 ?_
        refine lv_iload_n hx hb dX6_pushes_103 rfl (lv_at hl 3 rfl) ?_
        refine n_iadd hx hb dX6_pushes_104 ?_
        refine lv_iload_n hx hb dX6_pushes_105 rfl (lv_at hl 6 rfl) ?_
        refine n_iast hx hb hK hP hD hS 1 0 rfl rfl (by have := hN (403 * r); omega) (by decide) dX6_pushes_106 (fun H locs hP hD hS => ?_)
        have hP : va_P G.1 vwCl [(m0, .inr (6, [.ref aN, .ref aH, .int (nI kept), .ref aS, .int (nI fil), .int (nI ty), .ref aT, .int (nI at_), .int (nI nu)])), (aN, .inl (xcI G, 10276, .inl (nf (updN (rPl N r (rLv (N (403 * r))) j) (((403 * r) + 1) + (N (403 * r))) x)))), (aH, .inl (xcI G, 41104, .inl (nf Hs))), (aS, .inl (xcI G, 10276, .inl (nf Sl))), (aT, .inl (xcC G, 60, .inl (nf tx)))] H := hP
        have hD : va_D (fun q => q ∈ [m0, aN, aH, aS, aT]) [(m0, .inr (6, [.ref aN, .ref aH, .int (nI kept), .ref aS, .int (nI fil), .int (nI ty), .ref aT, .int (nI at_), .int (nI nu)])), (aN, .inl (xcI G, 10276, .inl (nf (updN (rPl N r (rLv (N (403 * r))) j) (((403 * r) + 1) + (N (403 * r))) x)))), (aH, .inl (xcI G, 41104, .inl (nf Hs))), (aS, .inl (xcI G, 10276, .inl (nf Sl))), (aT, .inl (xcC G, 60, .inl (nf tx)))] := hD
        refine lv_aload_n hx hb dX6_pushes_107 rfl (lv_at hl 4 rfl) ?_
        refine va_get (D := G.1) (ci := 6) (v := .ref aN) (C := RX6) (T := TX6) (N := 9) hx hb hts hi_X6_pushes_RX6 hown hK hP 0 rfl rfl 0 (by decide) (hts _ hw_X6_pushes_f7) (fun _ h9 => h9) rfl dX6_pushes_108 ?_
        refine lv_sipush (v := nI 403) hx hb dX6_pushes_111 (by decide) ?_
        refine lv_iload_n hx hb dX6_pushes_114 rfl (lv_at hl 5 rfl) ?_
        refine n_imul hx hb dX6_pushes_115 ?_
        refine lv_iload_n hx hb dX6_pushes_116 rfl (lv_at hl 3 rfl) ?_
        refine lv_iconst (v := nI 1) hx hb dX6_pushes_117 rfl ?_
        refine n_iadd hx hb dX6_pushes_118 ?_
        refine n_iast hx hb hK hP hD hS 1 0 rfl rfl (by omega) (by decide) dX6_pushes_119 (fun H locs hP hD hS => ?_)
        have hP : va_P G.1 vwCl [(m0, .inr (6, [.ref aN, .ref aH, .int (nI kept), .ref aS, .int (nI fil), .int (nI ty), .ref aT, .int (nI at_), .int (nI nu)])), (aN, .inl (xcI G, 10276, .inl (nf (updN (updN (rPl N r (rLv (N (403 * r))) j) (((403 * r) + 1) + (N (403 * r))) x) (403 * r) ((N (403 * r)) + 1))))), (aH, .inl (xcI G, 41104, .inl (nf Hs))), (aS, .inl (xcI G, 10276, .inl (nf Sl))), (aT, .inl (xcC G, 60, .inl (nf tx)))] H := hP
        have hD : va_D (fun q => q ∈ [m0, aN, aH, aS, aT]) [(m0, .inr (6, [.ref aN, .ref aH, .int (nI kept), .ref aS, .int (nI fil), .int (nI ty), .ref aT, .int (nI at_), .int (nI nu)])), (aN, .inl (xcI G, 10276, .inl (nf (updN (updN (rPl N r (rLv (N (403 * r))) j) (((403 * r) + 1) + (N (403 * r))) x) (403 * r) ((N (403 * r)) + 1))))), (aH, .inl (xcI G, 41104, .inl (nf Hs))), (aS, .inl (xcI G, 10276, .inl (nf Sl))), (aT, .inl (xcC G, 60, .inl (nf tx)))] := hD
        exact xend_v () hx hb hr hk hS (fun _ h => h) dX6_pushes_120 rfl (by rw [rPu, if_pos ⟨c_13, c_19⟩, ← show j = rRt (rLv (N (403 * r)) + 1) by omega]; exact hP) (Nat.le_refl _) (Nat.le_refl _)
      · refine lv_iload hx hb dX6_pushes_50 (lv_at hl 2 rfl) ?_
        refine lv_iload hx hb dX6_pushes_52 (lv_at hl 0 rfl) ?_
        refine xrd (xrunS (As := [.int (nI (j + 1))]) (rest := [.int (nI (rLv (N (403 * r))))]) S (c_X6_power l G (j + 1) (by omega)) (va_cwS 1 hts gX6_pushes_X6_power rfl rfl rfl (by decide +kernel) ⟨Nat.le_of_ble_eq_true rfl, Nat.le_of_ble_eq_true rfl⟩) hE hS hA trivial rfl rfl hl.1 (Nat.le_of_ble_eq_true rfl) dX6_pushes_54 ⟨Nat.le_of_ble_eq_true rfl, Nat.le_of_ble_eq_true rfl⟩) ?_
        refine n_idiv hx hb (by omega) (Nat.pow_pos (by decide)) (by have := xpow_lt (k := j + 1) (by omega); omega) dX6_pushes_57 ?_
        refine lv_istore (lv' := [(7, .int (nI ((rLv (N (403 * r))) / (4 ^ (j + 1))))), (6, .int (nI (j + 1))), (5, .int (nI (rRt (rLv (N (403 * r)) + 1)))), (4, .int (nI (rLv (N (403 * r))))), (3, .int (nI (N (403 * r)))), (0, .ref m0), (1, .int (nI r)), (2, .int (nI x))]) hx hb dX6_pushes_58 hl (by decide) rfl (fun ls hl => ?_)
        refine lv_aload_n hx hb dX6_pushes_60 rfl (lv_at hl 5 rfl) ?_
        refine lv_iload_n hx hb dX6_pushes_61 rfl (lv_at hl 6 rfl) ?_
        refine lv_iload hx hb dX6_pushes_62 (lv_at hl 1 rfl) ?_
        refine lv_iload hx hb dX6_pushes_64 (lv_at hl 0 rfl) ?_
        refine lv_iload hx hb dX6_pushes_66 (lv_at hl 0 rfl) ?_
        refine lv_iload hx hb dX6_pushes_68 (lv_at hl 3 rfl) ?_
        refine lv_iload hx hb dX6_pushes_70 (lv_at hl 1 rfl) ?_
        refine xrd (xrunS (As := [.int (nI (rLv (N (403 * r)))), .int (nI (j + 1))]) (rest := [.int (nI ((rLv (N (403 * r))) / (4 ^ (j + 1)))), .int (nI ((rLv (N (403 * r))) / (4 ^ (j + 1)))), .int (nI (j + 1)), .int (nI r), .ref m0]) S (c_X6_blocks l G (rLv (N (403 * r))) (j + 1) (by omega) (by omega)) (va_cwS 2 hts gX6_pushes_X6_blocks rfl rfl rfl (by decide +kernel) ⟨Nat.le_of_ble_eq_true rfl, Nat.le_of_ble_eq_true rfl⟩) hE hS hA trivial rfl rfl hl.1 (Nat.le_of_ble_eq_true rfl) dX6_pushes_72 ⟨Nat.le_of_ble_eq_true rfl, Nat.le_of_ble_eq_true rfl⟩) ?_
        refine n_icmp_ge (tgt := 82) hx hb (Nat.lt_of_le_of_lt (Nat.div_le_self _ _) (by omega)) (by have := rBl_lt (j + 1) hl74; omega) dX6_pushes_75 (by decide) (fun c_75 => ?_) (fun c_75 => ?_)
        · refine lv_iconst (v := nI 0) hx hb dX6_pushes_82 rfl ?_
          refine n_top (y := nI (if rLv (N (403 * r)) / 4 ^ (j + 1) < rBl (rLv (N (403 * r))) (j + 1) then 1 else 0)) (by rw [if_neg (Nat.not_lt.mpr c_75)]) ?_
          refine xwr (xrunV (As := [.int (nI r), .int (nI (j + 1)), .int (nI ((rLv (N (403 * r))) / (4 ^ (j + 1)))), .int (nI (if rLv (N (403 * r)) / 4 ^ (j + 1) < rBl (rLv (N (403 * r))) (j + 1) then 1 else 0))]) (rest := []) S (c_X6_makes l G m0 aN aH aS aT (rPl N r (rLv (N (403 * r))) j) Hs Sl tx kept fil ty at_ nu r (j + 1) ((rLv (N (403 * r))) / (4 ^ (j + 1))) (if rLv (N (403 * r)) / 4 ^ (j + 1) < rBl (rLv (N (403 * r))) (j + 1) then 1 else 0) (rPl_lt hN hr24 (rLv_le (Nat.le_of_lt hrl)) hM j (by have := rRt_le (rLv (N (403 * r)) + 1); omega)).1 hdis (by omega) (by omega) (rBg_dv (by omega) hl74) (by split <;> omega)) (cwV 4 hts gX6_pushes_X6_makes rfl rfl rfl (by decide +kernel) ⟨Nat.le_of_ble_eq_true rfl, Nat.le_of_ble_eq_true rfl⟩) hE hS hA 0 6 hP rfl rfl rfl hP rfl rfl hl.1 (Nat.le_of_ble_eq_true rfl) dX6_pushes_83 ⟨Nat.le_of_ble_eq_true rfl, Nat.le_of_ble_eq_true rfl⟩) hS (fun _ h => h) (fun _ h => h) (fun u_ H locs hΨ hz hkp hS => ?_)
          have hP : va_P G.1 vwCl [(m0, .inr (6, [.ref aN, .ref aH, .int (nI kept), .ref aS, .int (nI fil), .int (nI ty), .ref aT, .int (nI at_), .int (nI nu)])), (aN, .inl (xcI G, 10276, .inl (nf (rMk (rPl N r (rLv (N (403 * r))) j) r (j + 1) ((rLv (N (403 * r))) / (4 ^ (j + 1))) (if rLv (N (403 * r)) / 4 ^ (j + 1) < rBl (rLv (N (403 * r))) (j + 1) then 1 else 0))))), (aH, .inl (xcI G, 41104, .inl (nf Hs))), (aS, .inl (xcI G, 10276, .inl (nf Sl))), (aT, .inl (xcC G, 60, .inl (nf tx)))] H := hΨ
          have hD : va_D (fun q => q ∈ [m0, aN, aH, aS, aT]) [(m0, .inr (6, [.ref aN, .ref aH, .int (nI kept), .ref aS, .int (nI fil), .int (nI ty), .ref aT, .int (nI at_), .int (nI nu)])), (aN, .inl (xcI G, 10276, .inl (nf (rMk (rPl N r (rLv (N (403 * r))) j) r (j + 1) ((rLv (N (403 * r))) / (4 ^ (j + 1))) (if rLv (N (403 * r)) / 4 ^ (j + 1) < rBl (rLv (N (403 * r))) (j + 1) then 1 else 0))))), (aH, .inl (xcI G, 41104, .inl (nf Hs))), (aS, .inl (xcI G, 10276, .inl (nf Sl))), (aT, .inl (xcC G, 60, .inl (nf tx)))] := (hdis.to rfl)
          refine W.eq (g2 := F0 m 86 ls []) rfl ?_
          refine lv_iinc (v := nI (j + 1 + 1)) (lv' := [(6, .int (nI (j + 1 + 1))), (7, .int (nI ((rLv (N (403 * r))) / (4 ^ (j + 1))))), (5, .int (nI (rRt (rLv (N (403 * r)) + 1)))), (4, .int (nI (rLv (N (403 * r))))), (3, .int (nI (N (403 * r)))), (0, .ref m0), (1, .int (nI r)), (2, .int (nI x))]) hx hb dX6_pushes_86 hl (k := 1) rfl (nI_add (j + 1) 1) (by decide) rfl (fun ls hl => ?_)
          refine lv_goto (tgt := 43) hx hb dX6_pushes_89 (by decide) ?_
          have hl : lv_has ls 8 [(6, .int (nI ((j + 1) + 1))), (5, .int (nI (rRt (rLv (N (403 * r)) + 1)))), (4, .int (nI (rLv (N (403 * r))))), (3, .int (nI (N (403 * r)))), (0, .ref m0), (1, .int (nI r)), (2, .int (nI x))] := lv_sub hl [0, 2, 3, 4, 5, 6, 7] rfl
          have hP : va_P G.1 vwCl [(m0, .inr (6, [.ref aN, .ref aH, .int (nI kept), .ref aS, .int (nI fil), .int (nI ty), .ref aT, .int (nI at_), .int (nI nu)])), (aN, .inl (xcI G, 10276, .inl (nf (rPl N r (rLv (N (403 * r))) (j + 1))))), (aH, .inl (xcI G, 41104, .inl (nf Hs))), (aS, .inl (xcI G, 10276, .inl (nf Sl))), (aT, .inl (xcC G, 60, .inl (nf tx)))] H := hP
          exact ih_43 (j + 1) _ _ _ (by show rRt (rLv (N (403 * r)) + 1) - (j + 1) < rRt (rLv (N (403 * r)) + 1) - j; omega) ⟨(by omega), hP, hS, hl⟩
        · refine lv_iconst (v := nI 1) hx hb dX6_pushes_78 rfl ?_
          refine n_top (y := nI (if rLv (N (403 * r)) / 4 ^ (j + 1) < rBl (rLv (N (403 * r))) (j + 1) then 1 else 0)) (by rw [if_pos c_75]) ?_
          refine lv_goto (tgt := 83) hx hb dX6_pushes_79 (by decide) ?_
          refine xwr (xrunV (As := [.int (nI r), .int (nI (j + 1)), .int (nI ((rLv (N (403 * r))) / (4 ^ (j + 1)))), .int (nI (if rLv (N (403 * r)) / 4 ^ (j + 1) < rBl (rLv (N (403 * r))) (j + 1) then 1 else 0))]) (rest := []) S (c_X6_makes l G m0 aN aH aS aT (rPl N r (rLv (N (403 * r))) j) Hs Sl tx kept fil ty at_ nu r (j + 1) ((rLv (N (403 * r))) / (4 ^ (j + 1))) (if rLv (N (403 * r)) / 4 ^ (j + 1) < rBl (rLv (N (403 * r))) (j + 1) then 1 else 0) (rPl_lt hN hr24 (rLv_le (Nat.le_of_lt hrl)) hM j (by have := rRt_le (rLv (N (403 * r)) + 1); omega)).1 hdis (by omega) (by omega) (rBg_dv (by omega) hl74) (by split <;> omega)) (cwV 4 hts gX6_pushes_X6_makes rfl rfl rfl (by decide +kernel) ⟨Nat.le_of_ble_eq_true rfl, Nat.le_of_ble_eq_true rfl⟩) hE hS hA 0 6 hP rfl rfl rfl hP rfl rfl hl.1 (Nat.le_of_ble_eq_true rfl) dX6_pushes_83 ⟨Nat.le_of_ble_eq_true rfl, Nat.le_of_ble_eq_true rfl⟩) hS (fun _ h => h) (fun _ h => h) (fun u_ H locs hΨ hz hkp hS => ?_)
          have hP : va_P G.1 vwCl [(m0, .inr (6, [.ref aN, .ref aH, .int (nI kept), .ref aS, .int (nI fil), .int (nI ty), .ref aT, .int (nI at_), .int (nI nu)])), (aN, .inl (xcI G, 10276, .inl (nf (rMk (rPl N r (rLv (N (403 * r))) j) r (j + 1) ((rLv (N (403 * r))) / (4 ^ (j + 1))) (if rLv (N (403 * r)) / 4 ^ (j + 1) < rBl (rLv (N (403 * r))) (j + 1) then 1 else 0))))), (aH, .inl (xcI G, 41104, .inl (nf Hs))), (aS, .inl (xcI G, 10276, .inl (nf Sl))), (aT, .inl (xcC G, 60, .inl (nf tx)))] H := hΨ
          have hD : va_D (fun q => q ∈ [m0, aN, aH, aS, aT]) [(m0, .inr (6, [.ref aN, .ref aH, .int (nI kept), .ref aS, .int (nI fil), .int (nI ty), .ref aT, .int (nI at_), .int (nI nu)])), (aN, .inl (xcI G, 10276, .inl (nf (rMk (rPl N r (rLv (N (403 * r))) j) r (j + 1) ((rLv (N (403 * r))) / (4 ^ (j + 1))) (if rLv (N (403 * r)) / 4 ^ (j + 1) < rBl (rLv (N (403 * r))) (j + 1) then 1 else 0))))), (aH, .inl (xcI G, 41104, .inl (nf Hs))), (aS, .inl (xcI G, 10276, .inl (nf Sl))), (aT, .inl (xcC G, 60, .inl (nf tx)))] := (hdis.to rfl)
          refine W.eq (g2 := F0 m 86 ls []) rfl ?_
          refine lv_iinc (v := nI (j + 1 + 1)) (lv' := [(6, .int (nI (j + 1 + 1))), (7, .int (nI ((rLv (N (403 * r))) / (4 ^ (j + 1))))), (5, .int (nI (rRt (rLv (N (403 * r)) + 1)))), (4, .int (nI (rLv (N (403 * r))))), (3, .int (nI (N (403 * r)))), (0, .ref m0), (1, .int (nI r)), (2, .int (nI x))]) hx hb dX6_pushes_86 hl (k := 1) rfl (nI_add (j + 1) 1) (by decide) rfl (fun ls hl => ?_)
          refine lv_goto (tgt := 43) hx hb dX6_pushes_89 (by decide) ?_
          have hl : lv_has ls 8 [(6, .int (nI ((j + 1) + 1))), (5, .int (nI (rRt (rLv (N (403 * r)) + 1)))), (4, .int (nI (rLv (N (403 * r))))), (3, .int (nI (N (403 * r)))), (0, .ref m0), (1, .int (nI r)), (2, .int (nI x))] := lv_sub hl [0, 2, 3, 4, 5, 6, 7] rfl
          have hP : va_P G.1 vwCl [(m0, .inr (6, [.ref aN, .ref aH, .int (nI kept), .ref aS, .int (nI fil), .int (nI ty), .ref aT, .int (nI at_), .int (nI nu)])), (aN, .inl (xcI G, 10276, .inl (nf (rPl N r (rLv (N (403 * r))) (j + 1))))), (aH, .inl (xcI G, 41104, .inl (nf Hs))), (aS, .inl (xcI G, 10276, .inl (nf Sl))), (aT, .inl (xcC G, 60, .inl (nf tx)))] H := hP
          exact ih_43 (j + 1) _ _ _ (by show rRt (rLv (N (403 * r)) + 1) - (j + 1) < rRt (rLv (N (403 * r)) + 1) - j; omega) ⟨(by omega), hP, hS, hl⟩

theorem hw_X6_sets_f7 : Cond.fieldLink RX6 7 "TailVectorsModel" "now" "[I" ∈ wsX6_sets := by decide +kernel
theorem hi_X6_sets_RX6 : ∀ w ∈ u_ws RX6 TX6 9, w ∈ wsX6_sets := by decide +kernel
set_option maxHeartbeats 4000000 in
set_option maxRecDepth 100000 in
theorem c_X6_sets (l : Launch) (G : xG) (m0 : Nat) (aN : Nat) (aH : Nat) (aS : Nat) (aT : Nat) (N : Nat → Nat) (Hs : Nat → Nat) (Sl : Nat → Nat) (tx : Nat → Nat) (kept : Nat) (fil : Nat) (ty : Nat) (at_ : Nat) (nu : Nat) (r : Nat) (q : Nat) (x : Nat) (hN : ∀ j, N j < 2 ^ 24) (hdis : xDis (xB0 G) [m0, aN, aH, aS, aT]) (hr24 : r ≤ 24) (hrl : N (403 * r) ≤ 300) (hq300 : q < 300) (hM : N 10172 < 2 ^ 23) : Met l yX6_sets wsX6_sets ({ frames := 2, cells := 0, slots := 0, locals := 45 } : Room) (xPc G [.ref m0, .int (nI r), .int (nI q), .int (nI x)] (fun H => va_P G.1 vwCl [(m0, .inr (6, [.ref aN, .ref aH, .int (nI kept), .ref aS, .int (nI fil), .int (nI ty), .ref aT, .int (nI at_), .int (nI nu)])), (aN, .inl (xcI G, 10276, .inl (nf N))), (aH, .inl (xcI G, 41104, .inl (nf Hs))), (aS, .inl (xcI G, 10276, .inl (nf Sl))), (aT, .inl (xcC G, 60, .inl (nf tx)))] H)) (xQ (σ := Unit) (fun _ => none) (fun _ H => va_P G.1 vwCl [(m0, .inr (6, [.ref aN, .ref aH, .int (nI kept), .ref aS, .int (nI fil), .int (nI ty), .ref aT, .int (nI at_), .int (nI nu)])), (aN, .inl (xcI G, 10276, .inl (nf (rSe N r q x)))), (aH, .inl (xcI G, 41104, .inl (nf Hs))), (aS, .inl (xcI G, 10276, .inl (nf Sl))), (aT, .inl (xcC G, 60, .inl (nf tx)))] H) (fun q => q ∈ [m0, aN, aH, aS, aT])) 0 0 (fun q => q ∈ [m0, aN, aH, aS, aT]) := by
  refine xMet (cc := cX6_sets) (nL := 7) (ret := none) (by decide) rfl (Nat.le_of_ble_eq_true rfl) ?_
  intro p e s m below meth c S hr hk hnm hE hP ls hl
  obtain ⟨hx, hb, hml, hown, hts⟩ := id S
  have hown : s.vm.findClass RX6 = some m.cls := hown
  have hK := hE.1
  have hS : va_S (fun q => q ∈ [m0, aN, aH, aS, aT]) s.heap s.heap [] := va_S.rf
  have hA : ∀ q, (fun q => q ∈ [m0, aN, aH, aS, aT]) q → xB0 G ≤ q := hdis.2
  have hP : va_P G.1 vwCl [(m0, .inr (6, [.ref aN, .ref aH, .int (nI kept), .ref aS, .int (nI fil), .int (nI ty), .ref aT, .int (nI at_), .int (nI nu)])), (aN, .inl (xcI G, 10276, .inl (nf N))), (aH, .inl (xcI G, 41104, .inl (nf Hs))), (aS, .inl (xcI G, 10276, .inl (nf Sl))), (aT, .inl (xcC G, 60, .inl (nf tx)))] s.heap := hP
  have hD : va_D (fun q => q ∈ [m0, aN, aH, aS, aT]) [(m0, .inr (6, [.ref aN, .ref aH, .int (nI kept), .ref aS, .int (nI fil), .int (nI ty), .ref aT, .int (nI at_), .int (nI nu)])), (aN, .inl (xcI G, 10276, .inl (nf N))), (aH, .inl (xcI G, 41104, .inl (nf Hs))), (aS, .inl (xcI G, 10276, .inl (nf Sl))), (aT, .inl (xcC G, 60, .inl (nf tx)))] := (hdis.to rfl)
  have hl : lv_has ls 7 [(0, .ref m0), (1, .int (nI r)), (2, .int (nI q)), (3, .int (nI x))] := hl
  refine lv_aload_n hx hb dX6_sets_0 rfl (lv_at hl 0 rfl) ?_
  refine lv_iload_n hx hb dX6_sets_1 rfl (lv_at hl 1 rfl) ?_
  refine xrd (xrunV (As := [.int (nI r)]) (rest := []) S (c_X6_rowLength l G m0 aN aH aS aT N Hs Sl tx kept fil ty at_ nu r hN (by omega)) (cwV 1 hts gX6_sets_X6_rowLength rfl rfl rfl (by decide +kernel) ⟨Nat.le_of_ble_eq_true rfl, Nat.le_of_ble_eq_true rfl⟩) hE hS hA 0 6 hP rfl rfl rfl hP rfl rfl hl.1 (Nat.le_of_ble_eq_true rfl) dX6_sets_2 ⟨Nat.le_of_ble_eq_true rfl, Nat.le_of_ble_eq_true rfl⟩) ?_
  refine xrd (xrunS (As := [.int (nI (N (403 * r)))]) (rest := []) S (c_X6_leaves l G (N (403 * r)) (by omega)) (va_cwS 1 hts gX6_sets_X6_leaves rfl rfl rfl (by decide +kernel) ⟨Nat.le_of_ble_eq_true rfl, Nat.le_of_ble_eq_true rfl⟩) hE hS hA trivial rfl rfl hl.1 (Nat.le_of_ble_eq_true rfl) dX6_sets_5 ⟨Nat.le_of_ble_eq_true rfl, Nat.le_of_ble_eq_true rfl⟩) ?_
  refine lv_istore (lv' := [(4, .int (nI (rLv (N (403 * r))))), (0, .ref m0), (1, .int (nI r)), (2, .int (nI q)), (3, .int (nI x))]) hx hb dX6_sets_8 hl (by decide) rfl (fun ls hl => ?_)
  refine lv_iload_n hx hb dX6_sets_10 rfl (lv_at hl 3 rfl) ?_
  refine lv_iconst (v := nI 4) hx hb dX6_sets_11 rfl ?_
  refine lv_iload hx hb dX6_sets_12 (lv_at hl 0 rfl) ?_
  refine n_imul hx hb dX6_sets_14 ?_
  refine n_icmp_ge (tgt := 58) hx hb (by omega) (by have := rLv_le hrl; omega) dX6_sets_15 (by decide) (fun c_15 => ?_) (fun c_15 => ?_)
  · refine lv_aload_n hx hb dX6_sets_58 rfl (lv_at hl 1 rfl) ?_
    refine va_get (D := G.1) (ci := 6) (v := .ref aN) (C := RX6) (T := TX6) (N := 9) hx hb hts hi_X6_sets_RX6 hown hK hP 0 rfl rfl 0 (by decide) (hts _ hw_X6_sets_f7) (fun _ h9 => h9) rfl dX6_sets_59 ?_
    refine lv_sipush (v := nI 403) hx hb dX6_sets_62 (by decide) ?_
    refine lv_iload_n hx hb dX6_sets_65 rfl (lv_at hl 2 rfl) ?_
    refine n_imul hx hb dX6_sets_66 ?_
    refine lv_iconst (v := nI 1) hx hb dX6_sets_67 rfl ?_
    refine n_iadd hx hb dX6_sets_68 ?_
    refine lv_iload_n hx hb dX6_sets_69 rfl (lv_at hl 3 rfl) ?_
    refine n_iadd hx hb dX6_sets_70 ?_
    refine lv_iload_n hx hb dX6_sets_71 rfl (lv_at hl 4 rfl) ?_
    refine n_iast hx hb hK hP hD hS 1 0 rfl rfl (by omega) (by decide) dX6_sets_72 (fun H locs hP hD hS => ?_)
    have hP : va_P G.1 vwCl [(m0, .inr (6, [.ref aN, .ref aH, .int (nI kept), .ref aS, .int (nI fil), .int (nI ty), .ref aT, .int (nI at_), .int (nI nu)])), (aN, .inl (xcI G, 10276, .inl (nf (updN N (((403 * r) + 1) + q) x)))), (aH, .inl (xcI G, 41104, .inl (nf Hs))), (aS, .inl (xcI G, 10276, .inl (nf Sl))), (aT, .inl (xcC G, 60, .inl (nf tx)))] H := hP
    have hD : va_D (fun q => q ∈ [m0, aN, aH, aS, aT]) [(m0, .inr (6, [.ref aN, .ref aH, .int (nI kept), .ref aS, .int (nI fil), .int (nI ty), .ref aT, .int (nI at_), .int (nI nu)])), (aN, .inl (xcI G, 10276, .inl (nf (updN N (((403 * r) + 1) + q) x)))), (aH, .inl (xcI G, 41104, .inl (nf Hs))), (aS, .inl (xcI G, 10276, .inl (nf Sl))), (aT, .inl (xcC G, 60, .inl (nf tx)))] := hD
    exact xend_v () hx hb hr hk hS (fun _ h => h) dX6_sets_73 rfl (by rw [rSe, if_neg (Nat.not_lt.mpr c_15)]; exact hP) (Nat.le_refl _) (Nat.le_refl _)
  · refine lv_iload_n hx hb dX6_sets_18 rfl (lv_at hl 3 rfl) ?_
    refine lv_iconst (v := nI 4) hx hb dX6_sets_19 rfl ?_
    refine n_idiv hx hb (by omega) (by omega) (by omega) dX6_sets_20 ?_
    refine lv_istore (lv' := [(5, .int (nI (q / 4))), (4, .int (nI (rLv (N (403 * r))))), (0, .ref m0), (1, .int (nI r)), (2, .int (nI q)), (3, .int (nI x))]) hx hb dX6_sets_21 hl (by decide) rfl (fun ls hl => ?_)
    refine lv_iconst (v := nI 0) hx hb dX6_sets_23 rfl ?_
    refine lv_istore (lv' := [(6, .int (nI 0)), (5, .int (nI (q / 4))), (4, .int (nI (rLv (N (403 * r))))), (0, .ref m0), (1, .int (nI r)), (2, .int (nI q)), (3, .int (nI x))]) hx hb dX6_sets_24 hl (by decide) rfl (fun ls hl => ?_)
    have hP : va_P G.1 vwCl [(m0, .inr (6, [.ref aN, .ref aH, .int (nI kept), .ref aS, .int (nI fil), .int (nI ty), .ref aT, .int (nI at_), .int (nI nu)])), (aN, .inl (xcI G, 10276, .inl (nf (rSl N r (q / 4) 0)))), (aH, .inl (xcI G, 41104, .inl (nf Hs))), (aS, .inl (xcI G, 10276, .inl (nf Sl))), (aT, .inl (xcC G, 60, .inl (nf tx)))] s.heap := hP
    have hl : lv_has ls 7 [(6, .int (nI 0)), (5, .int (nI (q / 4))), (4, .int (nI (rLv (N (403 * r))))), (0, .ref m0), (1, .int (nI r)), (2, .int (nI q)), (3, .int (nI x))] := lv_sub hl [0, 1, 2, 3, 4, 5, 6] rfl
    refine xloop (σ := Nat) (C := (fun (x_ : Nat) H locs ls => (x_ ≤ rRt (rLv (N (403 * r))) + 1) ∧ va_P G.1 vwCl [(m0, .inr (6, [.ref aN, .ref aH, .int (nI kept), .ref aS, .int (nI fil), .int (nI ty), .ref aT, .int (nI at_), .int (nI nu)])), (aN, .inl (xcI G, 10276, .inl (nf (rSl N r (q / 4) x_)))), (aH, .inl (xcI G, 41104, .inl (nf Hs))), (aS, .inl (xcI G, 10276, .inl (nf Sl))), (aT, .inl (xcC G, 60, .inl (nf tx)))] H ∧ va_S (fun q => q ∈ [m0, aN, aH, aS, aT]) s.heap H locs ∧ lv_has ls 7 [(6, .int (nI x_)), (5, .int (nI (q / 4))), (4, .int (nI (rLv (N (403 * r))))), (0, .ref m0), (1, .int (nI r)), (2, .int (nI q)), (3, .int (nI x))])) (μ := (fun (x_ : Nat) => rRt (rLv (N (403 * r))) + 1 - x_)) (W' := fun H locs ls => W p l e _ s m _ below meth c H locs _ _ _ (F0 m 26 ls [])) ?_ 0 _ _ _ ⟨(Nat.zero_le _), hP, hS, hl⟩
    intro x_ H locs ls hC ih_26
    obtain ⟨j, rfl⟩ : ∃ z, z = x_ := ⟨x_, rfl⟩
    obtain ⟨hj, hP, hS, hl⟩ := hC
    have hj : j ≤ rRt (rLv (N (403 * r))) + 1 := hj
    have hP : va_P G.1 vwCl [(m0, .inr (6, [.ref aN, .ref aH, .int (nI kept), .ref aS, .int (nI fil), .int (nI ty), .ref aT, .int (nI at_), .int (nI nu)])), (aN, .inl (xcI G, 10276, .inl (nf (rSl N r (q / 4) j)))), (aH, .inl (xcI G, 41104, .inl (nf Hs))), (aS, .inl (xcI G, 10276, .inl (nf Sl))), (aT, .inl (xcC G, 60, .inl (nf tx)))] H := hP
    have hD : va_D (fun q => q ∈ [m0, aN, aH, aS, aT]) [(m0, .inr (6, [.ref aN, .ref aH, .int (nI kept), .ref aS, .int (nI fil), .int (nI ty), .ref aT, .int (nI at_), .int (nI nu)])), (aN, .inl (xcI G, 10276, .inl (nf (rSl N r (q / 4) j)))), (aH, .inl (xcI G, 41104, .inl (nf Hs))), (aS, .inl (xcI G, 10276, .inl (nf Sl))), (aT, .inl (xcC G, 60, .inl (nf tx)))] := (hdis.to rfl)
    have hl : lv_has ls 7 [(6, .int (nI j)), (5, .int (nI (q / 4))), (4, .int (nI (rLv (N (403 * r))))), (0, .ref m0), (1, .int (nI r)), (2, .int (nI q)), (3, .int (nI x))] := hl
    refine id ?_
    have hl74 := rLv_le hrl
    have hr4 := rRt_le (rLv (N (403 * r)))
    refine lv_iload hx hb dX6_sets_26 (lv_at hl 0 rfl) ?_
    refine lv_iload hx hb dX6_sets_28 (lv_at hl 2 rfl) ?_
    refine xrd (xrunS (As := [.int (nI (rLv (N (403 * r))))]) (rest := [.int (nI j)]) S (c_X6_rootLevel l G (rLv (N (403 * r))) (by omega)) (va_cwS 1 hts gX6_sets_X6_rootLevel rfl rfl rfl (by decide +kernel) ⟨Nat.le_of_ble_eq_true rfl, Nat.le_of_ble_eq_true rfl⟩) hE hS hA trivial rfl rfl hl.1 (Nat.le_of_ble_eq_true rfl) dX6_sets_30 ⟨Nat.le_of_ble_eq_true rfl, Nat.le_of_ble_eq_true rfl⟩) ?_
    refine n_top (y := nI (rRt (rLv (N (403 * r))))) (rRI_pos (by omega)) ?_
    refine n_icmp_gt (tgt := 58) hx hb (by omega) (by have := hN (403 * r); omega) dX6_sets_33 (by decide) (fun c_33 => ?_) (fun c_33 => ?_)
    · refine lv_aload_n hx hb dX6_sets_58 rfl (lv_at hl 3 rfl) ?_
      refine va_get (D := G.1) (ci := 6) (v := .ref aN) (C := RX6) (T := TX6) (N := 9) hx hb hts hi_X6_sets_RX6 hown hK hP 0 rfl rfl 0 (by decide) (hts _ hw_X6_sets_f7) (fun _ h9 => h9) rfl dX6_sets_59 ?_
      refine lv_sipush (v := nI 403) hx hb dX6_sets_62 (by decide) ?_
      refine lv_iload_n hx hb dX6_sets_65 rfl (lv_at hl 4 rfl) ?_
      refine n_imul hx hb dX6_sets_66 ?_
      refine lv_iconst (v := nI 1) hx hb dX6_sets_67 rfl ?_
      refine n_iadd hx hb dX6_sets_68 ?_
      refine lv_iload_n hx hb dX6_sets_69 rfl (lv_at hl 5 rfl) ?_
      refine n_iadd hx hb dX6_sets_70 ?_
      refine lv_iload_n hx hb dX6_sets_71 rfl (lv_at hl 6 rfl) ?_
      refine n_iast hx hb hK hP hD hS 1 0 rfl rfl (by omega) (by decide) dX6_sets_72 (fun H locs hP hD hS => ?_)
      have hP : va_P G.1 vwCl [(m0, .inr (6, [.ref aN, .ref aH, .int (nI kept), .ref aS, .int (nI fil), .int (nI ty), .ref aT, .int (nI at_), .int (nI nu)])), (aN, .inl (xcI G, 10276, .inl (nf (updN (rSl N r (q / 4) j) (((403 * r) + 1) + q) x)))), (aH, .inl (xcI G, 41104, .inl (nf Hs))), (aS, .inl (xcI G, 10276, .inl (nf Sl))), (aT, .inl (xcC G, 60, .inl (nf tx)))] H := hP
      have hD : va_D (fun q => q ∈ [m0, aN, aH, aS, aT]) [(m0, .inr (6, [.ref aN, .ref aH, .int (nI kept), .ref aS, .int (nI fil), .int (nI ty), .ref aT, .int (nI at_), .int (nI nu)])), (aN, .inl (xcI G, 10276, .inl (nf (updN (rSl N r (q / 4) j) (((403 * r) + 1) + q) x)))), (aH, .inl (xcI G, 41104, .inl (nf Hs))), (aS, .inl (xcI G, 10276, .inl (nf Sl))), (aT, .inl (xcC G, 60, .inl (nf tx)))] := hD
      exact xend_v () hx hb hr hk hS (fun _ h => h) dX6_sets_73 rfl (by rw [rSe, if_pos c_15, ← show j = rRt (rLv (N (403 * r))) + 1 by omega]; exact hP) (Nat.le_refl _) (Nat.le_refl _)
    · refine lv_aload_n hx hb dX6_sets_36 rfl (lv_at hl 3 rfl) ?_
      refine lv_iload_n hx hb dX6_sets_37 rfl (lv_at hl 4 rfl) ?_
      refine lv_iload hx hb dX6_sets_38 (lv_at hl 0 rfl) ?_
      refine lv_iload hx hb dX6_sets_40 (lv_at hl 1 rfl) ?_
      refine lv_iload hx hb dX6_sets_42 (lv_at hl 0 rfl) ?_
      refine xrd (xrunS (As := [.int (nI j)]) (rest := [.int (nI (q / 4)), .int (nI j), .int (nI r), .ref m0]) S (c_X6_power l G j (by omega)) (va_cwS 1 hts gX6_sets_X6_power rfl rfl rfl (by decide +kernel) ⟨Nat.le_of_ble_eq_true rfl, Nat.le_of_ble_eq_true rfl⟩) hE hS hA trivial rfl rfl hl.1 (Nat.le_of_ble_eq_true rfl) dX6_sets_44 ⟨Nat.le_of_ble_eq_true rfl, Nat.le_of_ble_eq_true rfl⟩) ?_
      refine n_idiv hx hb (by omega) (Nat.pow_pos (by decide)) (by have := xpow_lt (k := j) (by omega); omega) dX6_sets_47 ?_
      refine lv_iconst (v := nI 1) hx hb dX6_sets_48 rfl ?_
      refine xwr (xrunV (As := [.int (nI r), .int (nI j), .int (nI ((q / 4) / (4 ^ j))), .int (nI 1)]) (rest := []) S (c_X6_makes l G m0 aN aH aS aT (rSl N r (q / 4) j) Hs Sl tx kept fil ty at_ nu r j ((q / 4) / (4 ^ j)) 1 (rSl_lt hN hr24 (by omega) hM j (by omega)).1 hdis (by omega) (by omega) (rBg_dv (by omega) (by omega)) (by omega)) (cwV 4 hts gX6_sets_X6_makes rfl rfl rfl (by decide +kernel) ⟨Nat.le_of_ble_eq_true rfl, Nat.le_of_ble_eq_true rfl⟩) hE hS hA 0 6 hP rfl rfl rfl hP rfl rfl hl.1 (Nat.le_of_ble_eq_true rfl) dX6_sets_49 ⟨Nat.le_of_ble_eq_true rfl, Nat.le_of_ble_eq_true rfl⟩) hS (fun _ h => h) (fun _ h => h) (fun u_ H locs hΨ hz hkp hS => ?_)
      have hP : va_P G.1 vwCl [(m0, .inr (6, [.ref aN, .ref aH, .int (nI kept), .ref aS, .int (nI fil), .int (nI ty), .ref aT, .int (nI at_), .int (nI nu)])), (aN, .inl (xcI G, 10276, .inl (nf (rMk (rSl N r (q / 4) j) r j ((q / 4) / (4 ^ j)) 1)))), (aH, .inl (xcI G, 41104, .inl (nf Hs))), (aS, .inl (xcI G, 10276, .inl (nf Sl))), (aT, .inl (xcC G, 60, .inl (nf tx)))] H := hΨ
      have hD : va_D (fun q => q ∈ [m0, aN, aH, aS, aT]) [(m0, .inr (6, [.ref aN, .ref aH, .int (nI kept), .ref aS, .int (nI fil), .int (nI ty), .ref aT, .int (nI at_), .int (nI nu)])), (aN, .inl (xcI G, 10276, .inl (nf (rMk (rSl N r (q / 4) j) r j ((q / 4) / (4 ^ j)) 1)))), (aH, .inl (xcI G, 41104, .inl (nf Hs))), (aS, .inl (xcI G, 10276, .inl (nf Sl))), (aT, .inl (xcC G, 60, .inl (nf tx)))] := (hdis.to rfl)
      refine W.eq (g2 := F0 m 52 ls []) rfl ?_
      refine lv_iinc (v := nI (j + 1)) (lv' := [(6, .int (nI (j + 1))), (5, .int (nI (q / 4))), (4, .int (nI (rLv (N (403 * r))))), (0, .ref m0), (1, .int (nI r)), (2, .int (nI q)), (3, .int (nI x))]) hx hb dX6_sets_52 hl (k := 0) rfl (nI_add j 1) (by decide) rfl (fun ls hl => ?_)
      refine lv_goto (tgt := 26) hx hb dX6_sets_55 (by decide) ?_
      have hl : lv_has ls 7 [(6, .int (nI (j + 1))), (5, .int (nI (q / 4))), (4, .int (nI (rLv (N (403 * r))))), (0, .ref m0), (1, .int (nI r)), (2, .int (nI q)), (3, .int (nI x))] := lv_sub hl [0, 1, 2, 3, 4, 5, 6] rfl
      have hP : va_P G.1 vwCl [(m0, .inr (6, [.ref aN, .ref aH, .int (nI kept), .ref aS, .int (nI fil), .int (nI ty), .ref aT, .int (nI at_), .int (nI nu)])), (aN, .inl (xcI G, 10276, .inl (nf (rSl N r (q / 4) (j + 1))))), (aH, .inl (xcI G, 41104, .inl (nf Hs))), (aS, .inl (xcI G, 10276, .inl (nf Sl))), (aT, .inl (xcC G, 60, .inl (nf tx)))] H := hP
      exact ih_26 (j + 1) _ _ _ (by show rRt (rLv (N (403 * r))) + 1 - (j + 1) < rRt (rLv (N (403 * r))) + 1 - j; omega) ⟨(by omega), hP, hS, hl⟩

theorem hw_X6_pops_f7 : Cond.fieldLink RX6 7 "TailVectorsModel" "now" "[I" ∈ wsX6_pops := by decide +kernel
theorem hi_X6_pops_RX6 : ∀ w ∈ u_ws RX6 TX6 9, w ∈ wsX6_pops := by decide +kernel
set_option maxHeartbeats 4000000 in
set_option maxRecDepth 100000 in
theorem c_X6_pops (l : Launch) (G : xG) (m0 : Nat) (aN : Nat) (aH : Nat) (aS : Nat) (aT : Nat) (N : Nat → Nat) (Hs : Nat → Nat) (Sl : Nat → Nat) (tx : Nat → Nat) (kept : Nat) (fil : Nat) (ty : Nat) (at_ : Nat) (nu : Nat) (r : Nat) (hN : ∀ j, N j < 2 ^ 24) (hdis : xDis (xB0 G) [m0, aN, aH, aS, aT]) (hr24 : r ≤ 24) (hrl : N (403 * r) ≤ 300) (hr1 : 1 ≤ N (403 * r)) (hM : N 10172 < 2 ^ 23) : Met l yX6_pops wsX6_pops ({ frames := 3, cells := 0, slots := 0, locals := 62 } : Room) (xPc G [.ref m0, .int (nI r)] (fun H => va_P G.1 vwCl [(m0, .inr (6, [.ref aN, .ref aH, .int (nI kept), .ref aS, .int (nI fil), .int (nI ty), .ref aT, .int (nI at_), .int (nI nu)])), (aN, .inl (xcI G, 10276, .inl (nf N))), (aH, .inl (xcI G, 41104, .inl (nf Hs))), (aS, .inl (xcI G, 10276, .inl (nf Sl))), (aT, .inl (xcC G, 60, .inl (nf tx)))] H)) (xQ (σ := Unit) (fun _ => none) (fun _ H => va_P G.1 vwCl [(m0, .inr (6, [.ref aN, .ref aH, .int (nI kept), .ref aS, .int (nI fil), .int (nI ty), .ref aT, .int (nI at_), .int (nI nu)])), (aN, .inl (xcI G, 10276, .inl (nf (rPo N r)))), (aH, .inl (xcI G, 41104, .inl (nf Hs))), (aS, .inl (xcI G, 10276, .inl (nf Sl))), (aT, .inl (xcC G, 60, .inl (nf tx)))] H) (fun q => q ∈ [m0, aN, aH, aS, aT])) 0 0 (fun q => q ∈ [m0, aN, aH, aS, aT]) := by
  refine xMet (cc := cX6_pops) (nL := 7) (ret := none) (by decide) rfl (Nat.le_of_ble_eq_true rfl) ?_
  intro p e s m below meth c S hr hk hnm hE hP ls hl
  obtain ⟨hx, hb, hml, hown, hts⟩ := id S
  have hown : s.vm.findClass RX6 = some m.cls := hown
  have hK := hE.1
  have hS : va_S (fun q => q ∈ [m0, aN, aH, aS, aT]) s.heap s.heap [] := va_S.rf
  have hA : ∀ q, (fun q => q ∈ [m0, aN, aH, aS, aT]) q → xB0 G ≤ q := hdis.2
  have hP : va_P G.1 vwCl [(m0, .inr (6, [.ref aN, .ref aH, .int (nI kept), .ref aS, .int (nI fil), .int (nI ty), .ref aT, .int (nI at_), .int (nI nu)])), (aN, .inl (xcI G, 10276, .inl (nf N))), (aH, .inl (xcI G, 41104, .inl (nf Hs))), (aS, .inl (xcI G, 10276, .inl (nf Sl))), (aT, .inl (xcC G, 60, .inl (nf tx)))] s.heap := hP
  have hD : va_D (fun q => q ∈ [m0, aN, aH, aS, aT]) [(m0, .inr (6, [.ref aN, .ref aH, .int (nI kept), .ref aS, .int (nI fil), .int (nI ty), .ref aT, .int (nI at_), .int (nI nu)])), (aN, .inl (xcI G, 10276, .inl (nf N))), (aH, .inl (xcI G, 41104, .inl (nf Hs))), (aS, .inl (xcI G, 10276, .inl (nf Sl))), (aT, .inl (xcC G, 60, .inl (nf tx)))] := (hdis.to rfl)
  have hl : lv_has ls 7 [(0, .ref m0), (1, .int (nI r))] := hl
  refine lv_aload_n hx hb dX6_pops_0 rfl (lv_at hl 0 rfl) ?_
  refine lv_iload_n hx hb dX6_pops_1 rfl (lv_at hl 1 rfl) ?_
  refine xrd (xrunV (As := [.int (nI r)]) (rest := []) S (c_X6_rowLength l G m0 aN aH aS aT N Hs Sl tx kept fil ty at_ nu r hN (by omega)) (cwV 1 hts gX6_pops_X6_rowLength rfl rfl rfl (by decide +kernel) ⟨Nat.le_of_ble_eq_true rfl, Nat.le_of_ble_eq_true rfl⟩) hE hS hA 0 6 hP rfl rfl rfl hP rfl rfl hl.1 (Nat.le_of_ble_eq_true rfl) dX6_pops_2 ⟨Nat.le_of_ble_eq_true rfl, Nat.le_of_ble_eq_true rfl⟩) ?_
  refine lv_iconst (v := nI 1) hx hb dX6_pops_5 rfl ?_
  refine n_isub hx hb (by have := hN (403 * r); omega) dX6_pops_6 ?_
  refine lv_istore_n (lv' := [(2, .int (nI ((N (403 * r)) - 1))), (0, .ref m0), (1, .int (nI r))]) hx hb dX6_pops_7 rfl hl (by decide) rfl (fun ls hl => ?_)
  refine lv_iload_n hx hb dX6_pops_8 rfl (lv_at hl 0 rfl) ?_
  refine lv_iconst (v := nI 1) hx hb dX6_pops_9 rfl ?_
  refine n_iadd hx hb dX6_pops_10 ?_
  refine xrd (xrunS (As := [.int (nI (((N (403 * r)) - 1) + 1))]) (rest := []) S (c_X6_leaves l G (((N (403 * r)) - 1) + 1) (by omega)) (va_cwS 1 hts gX6_pops_X6_leaves rfl rfl rfl (by decide +kernel) ⟨Nat.le_of_ble_eq_true rfl, Nat.le_of_ble_eq_true rfl⟩) hE hS hA trivial rfl rfl hl.1 (Nat.le_of_ble_eq_true rfl) dX6_pops_11 ⟨Nat.le_of_ble_eq_true rfl, Nat.le_of_ble_eq_true rfl⟩) ?_
  refine lv_istore_n (lv' := [(3, .int (nI (rLv (((N (403 * r)) - 1) + 1)))), (2, .int (nI ((N (403 * r)) - 1))), (0, .ref m0), (1, .int (nI r))]) hx hb dX6_pops_14 rfl hl (by decide) rfl (fun ls hl => ?_)
  refine lv_iload_n hx hb dX6_pops_15 rfl (lv_at hl 1 rfl) ?_
  refine xrd (xrunS (As := [.int (nI ((N (403 * r)) - 1))]) (rest := []) S (c_X6_leaves l G ((N (403 * r)) - 1) (by omega)) (va_cwS 1 hts gX6_pops_X6_leaves rfl rfl rfl (by decide +kernel) ⟨Nat.le_of_ble_eq_true rfl, Nat.le_of_ble_eq_true rfl⟩) hE hS hA trivial rfl rfl hl.1 (Nat.le_of_ble_eq_true rfl) dX6_pops_16 ⟨Nat.le_of_ble_eq_true rfl, Nat.le_of_ble_eq_true rfl⟩) ?_
  refine lv_istore (lv' := [(4, .int (nI (rLv ((N (403 * r)) - 1)))), (3, .int (nI (rLv (((N (403 * r)) - 1) + 1)))), (2, .int (nI ((N (403 * r)) - 1))), (0, .ref m0), (1, .int (nI r))]) hx hb dX6_pops_19 hl (by decide) rfl (fun ls hl => ?_)
  refine lv_iload hx hb dX6_pops_21 (lv_at hl 0 rfl) ?_
  refine lv_iload_n hx hb dX6_pops_23 rfl (lv_at hl 1 rfl) ?_
  refine n_icmp_ge (tgt := 78) hx hb (by have := rLv_le (n := N (403 * r) - 1) (by omega); omega) (by have := rLv_le (n := N (403 * r) - 1 + 1) (by omega); omega) dX6_pops_24 (by decide) (fun c_24 => ?_) (fun c_24 => ?_)
  · refine lv_aload_n hx hb dX6_pops_78 rfl (lv_at hl 3 rfl) ?_
    refine va_get (D := G.1) (ci := 6) (v := .ref aN) (C := RX6) (T := TX6) (N := 9) hx hb hts hi_X6_pops_RX6 hown hK hP 0 rfl rfl 0 (by decide) (hts _ hw_X6_pops_f7) (fun _ h9 => h9) rfl dX6_pops_79 ?_
    refine lv_sipush (v := nI 403) hx hb dX6_pops_82 (by decide) ?_
    refine lv_iload_n hx hb dX6_pops_85 rfl (lv_at hl 4 rfl) ?_
    refine n_imul hx hb dX6_pops_86 ?_
    refine lv_iload_n hx hb dX6_pops_87 rfl (lv_at hl 2 rfl) ?_
    refine n_iast hx hb hK hP hD hS 1 0 rfl rfl (by omega) (by decide) dX6_pops_88 (fun H locs hP hD hS => ?_)
    have hP : va_P G.1 vwCl [(m0, .inr (6, [.ref aN, .ref aH, .int (nI kept), .ref aS, .int (nI fil), .int (nI ty), .ref aT, .int (nI at_), .int (nI nu)])), (aN, .inl (xcI G, 10276, .inl (nf (updN N (403 * r) ((N (403 * r)) - 1))))), (aH, .inl (xcI G, 41104, .inl (nf Hs))), (aS, .inl (xcI G, 10276, .inl (nf Sl))), (aT, .inl (xcC G, 60, .inl (nf tx)))] H := hP
    have hD : va_D (fun q => q ∈ [m0, aN, aH, aS, aT]) [(m0, .inr (6, [.ref aN, .ref aH, .int (nI kept), .ref aS, .int (nI fil), .int (nI ty), .ref aT, .int (nI at_), .int (nI nu)])), (aN, .inl (xcI G, 10276, .inl (nf (updN N (403 * r) ((N (403 * r)) - 1))))), (aH, .inl (xcI G, 41104, .inl (nf Hs))), (aS, .inl (xcI G, 10276, .inl (nf Sl))), (aT, .inl (xcC G, 60, .inl (nf tx)))] := hD
    exact xend_v () hx hb hr hk hS (fun _ h => h) dX6_pops_89 rfl (by rw [rPo, if_neg (Nat.not_lt.mpr c_24)]; exact hP) (Nat.le_refl _) (Nat.le_refl _)
  · refine lv_iconst (v := nI 1) hx hb dX6_pops_27 rfl ?_
    refine lv_istore (lv' := [(5, .int (nI 1)), (4, .int (nI (rLv ((N (403 * r)) - 1)))), (3, .int (nI (rLv (((N (403 * r)) - 1) + 1)))), (2, .int (nI ((N (403 * r)) - 1))), (0, .ref m0), (1, .int (nI r))]) hx hb dX6_pops_28 hl (by decide) rfl (fun ls hl => ?_)
    have hP : va_P G.1 vwCl [(m0, .inr (6, [.ref aN, .ref aH, .int (nI kept), .ref aS, .int (nI fil), .int (nI ty), .ref aT, .int (nI at_), .int (nI nu)])), (aN, .inl (xcI G, 10276, .inl (nf (rOl N r (rLv (N (403 * r) - 1)) 0)))), (aH, .inl (xcI G, 41104, .inl (nf Hs))), (aS, .inl (xcI G, 10276, .inl (nf Sl))), (aT, .inl (xcC G, 60, .inl (nf tx)))] s.heap := hP
    have hl : lv_has ls 7 [(5, .int (nI (0 + 1))), (4, .int (nI (rLv (N (403 * r) - 1)))), (3, .int (nI (rLv (N (403 * r) - 1 + 1)))), (2, .int (nI (N (403 * r) - 1))), (0, .ref m0), (1, .int (nI r))] := lv_sub hl [0, 1, 2, 3, 4, 5] rfl
    refine xloop (σ := Nat) (C := (fun (x_ : Nat) H locs ls => (x_ ≤ rCt (rLv (N (403 * r) - 1))) ∧ va_P G.1 vwCl [(m0, .inr (6, [.ref aN, .ref aH, .int (nI kept), .ref aS, .int (nI fil), .int (nI ty), .ref aT, .int (nI at_), .int (nI nu)])), (aN, .inl (xcI G, 10276, .inl (nf (rOl N r (rLv (N (403 * r) - 1)) x_)))), (aH, .inl (xcI G, 41104, .inl (nf Hs))), (aS, .inl (xcI G, 10276, .inl (nf Sl))), (aT, .inl (xcC G, 60, .inl (nf tx)))] H ∧ va_S (fun q => q ∈ [m0, aN, aH, aS, aT]) s.heap H locs ∧ lv_has ls 7 [(5, .int (nI (x_ + 1))), (4, .int (nI (rLv (N (403 * r) - 1)))), (3, .int (nI (rLv (N (403 * r) - 1 + 1)))), (2, .int (nI (N (403 * r) - 1))), (0, .ref m0), (1, .int (nI r))])) (μ := (fun (x_ : Nat) => rCt (rLv (N (403 * r) - 1)) - x_)) (W' := fun H locs ls => W p l e _ s m _ below meth c H locs _ _ _ (F0 m 30 ls [])) ?_ 0 _ _ _ ⟨(Nat.zero_le _), hP, hS, hl⟩
    intro x_ H locs ls hC ih_30
    obtain ⟨j, rfl⟩ : ∃ z, z = x_ := ⟨x_, rfl⟩
    obtain ⟨hj, hP, hS, hl⟩ := hC
    have hj : j ≤ rCt (rLv (N (403 * r) - 1)) := hj
    have hP : va_P G.1 vwCl [(m0, .inr (6, [.ref aN, .ref aH, .int (nI kept), .ref aS, .int (nI fil), .int (nI ty), .ref aT, .int (nI at_), .int (nI nu)])), (aN, .inl (xcI G, 10276, .inl (nf (rOl N r (rLv (N (403 * r) - 1)) j)))), (aH, .inl (xcI G, 41104, .inl (nf Hs))), (aS, .inl (xcI G, 10276, .inl (nf Sl))), (aT, .inl (xcC G, 60, .inl (nf tx)))] H := hP
    have hD : va_D (fun q => q ∈ [m0, aN, aH, aS, aT]) [(m0, .inr (6, [.ref aN, .ref aH, .int (nI kept), .ref aS, .int (nI fil), .int (nI ty), .ref aT, .int (nI at_), .int (nI nu)])), (aN, .inl (xcI G, 10276, .inl (nf (rOl N r (rLv (N (403 * r) - 1)) j)))), (aH, .inl (xcI G, 41104, .inl (nf Hs))), (aS, .inl (xcI G, 10276, .inl (nf Sl))), (aT, .inl (xcC G, 60, .inl (nf tx)))] := (hdis.to rfl)
    have hl : lv_has ls 7 [(5, .int (nI (j + 1))), (4, .int (nI (rLv (N (403 * r) - 1)))), (3, .int (nI (rLv (N (403 * r) - 1 + 1)))), (2, .int (nI (N (403 * r) - 1))), (0, .ref m0), (1, .int (nI r))] := hl
    refine id ?_
    have ht74 : rLv (N (403 * r) - 1) ≤ 74 := rLv_le (by omega)
    have hr4 := rCt_le (rLv (N (403 * r) - 1))
    refine lv_iload hx hb dX6_pops_30 (lv_at hl 0 rfl) ?_
    refine lv_iload hx hb dX6_pops_32 (lv_at hl 1 rfl) ?_
    refine xrd (xrunS (As := [.int (nI (rLv (N (403 * r) - 1)))]) (rest := [.int (nI (j + 1))]) S (c_X6_rootLevel l G (rLv (N (403 * r) - 1)) (by omega)) (va_cwS 1 hts gX6_pops_X6_rootLevel rfl rfl rfl (by decide +kernel) ⟨Nat.le_of_ble_eq_true rfl, Nat.le_of_ble_eq_true rfl⟩) hE hS hA trivial rfl rfl hl.1 (Nat.le_of_ble_eq_true rfl) dX6_pops_34 ⟨Nat.le_of_ble_eq_true rfl, Nat.le_of_ble_eq_true rfl⟩) ?_
    refine lv_icmp_gt (tgt := 78) hx hb dX6_pops_37 (by decide) (fun c_37 => ?_) (fun c_37 => ?_)
    · have c_37 : ¬ (rLv (N (403 * r) - 1) ≠ 0 ∧ j + 1 ≤ rRt (rLv (N (403 * r) - 1))) := fun q => absurd c_37 (Int32.not_lt.mpr ((rRI_le (by omega)).mpr q))
      refine lv_aload_n hx hb dX6_pops_78 rfl (lv_at hl 4 rfl) ?_
      refine va_get (D := G.1) (ci := 6) (v := .ref aN) (C := RX6) (T := TX6) (N := 9) hx hb hts hi_X6_pops_RX6 hown hK hP 0 rfl rfl 0 (by decide) (hts _ hw_X6_pops_f7) (fun _ h9 => h9) rfl dX6_pops_79 ?_
      refine lv_sipush (v := nI 403) hx hb dX6_pops_82 (by decide) ?_
      refine lv_iload_n hx hb dX6_pops_85 rfl (lv_at hl 5 rfl) ?_
      refine n_imul hx hb dX6_pops_86 ?_
      refine lv_iload_n hx hb dX6_pops_87 rfl (lv_at hl 3 rfl) ?_
      refine n_iast hx hb hK hP hD hS 1 0 rfl rfl (by omega) (by decide) dX6_pops_88 (fun H locs hP hD hS => ?_)
      have hP : va_P G.1 vwCl [(m0, .inr (6, [.ref aN, .ref aH, .int (nI kept), .ref aS, .int (nI fil), .int (nI ty), .ref aT, .int (nI at_), .int (nI nu)])), (aN, .inl (xcI G, 10276, .inl (nf (updN (rOl N r (rLv (N (403 * r) - 1)) j) (403 * r) (N (403 * r) - 1))))), (aH, .inl (xcI G, 41104, .inl (nf Hs))), (aS, .inl (xcI G, 10276, .inl (nf Sl))), (aT, .inl (xcC G, 60, .inl (nf tx)))] H := hP
      have hD : va_D (fun q => q ∈ [m0, aN, aH, aS, aT]) [(m0, .inr (6, [.ref aN, .ref aH, .int (nI kept), .ref aS, .int (nI fil), .int (nI ty), .ref aT, .int (nI at_), .int (nI nu)])), (aN, .inl (xcI G, 10276, .inl (nf (updN (rOl N r (rLv (N (403 * r) - 1)) j) (403 * r) (N (403 * r) - 1))))), (aH, .inl (xcI G, 41104, .inl (nf Hs))), (aS, .inl (xcI G, 10276, .inl (nf Sl))), (aT, .inl (xcC G, 60, .inl (nf tx)))] := hD
      exact xend_v () hx hb hr hk hS (fun _ h => h) dX6_pops_89 rfl (by rw [rPo, if_pos c_24, ← rCt_end c_37 hj]; exact hP) (Nat.le_refl _) (Nat.le_refl _)
    · have c_37 := (rRI_le (by omega)).mp (Int32.not_lt.mp c_37)
      have c_37b := rCt_ge c_37
      refine lv_iload hx hb dX6_pops_40 (lv_at hl 1 rfl) ?_
      refine lv_iload hx hb dX6_pops_42 (lv_at hl 0 rfl) ?_
      refine xrd (xrunS (As := [.int (nI (j + 1))]) (rest := [.int (nI (rLv (N (403 * r) - 1)))]) S (c_X6_power l G (j + 1) (by omega)) (va_cwS 1 hts gX6_pops_X6_power rfl rfl rfl (by decide +kernel) ⟨Nat.le_of_ble_eq_true rfl, Nat.le_of_ble_eq_true rfl⟩) hE hS hA trivial rfl rfl hl.1 (Nat.le_of_ble_eq_true rfl) dX6_pops_44 ⟨Nat.le_of_ble_eq_true rfl, Nat.le_of_ble_eq_true rfl⟩) ?_
      refine n_idiv hx hb (by omega) (Nat.pow_pos (by decide)) (by have := xpow_lt (k := j + 1) (by omega); omega) dX6_pops_47 ?_
      refine lv_istore (lv' := [(6, .int (nI ((rLv (N (403 * r) - 1)) / (4 ^ (j + 1))))), (5, .int (nI (j + 1))), (4, .int (nI (rLv (N (403 * r) - 1)))), (3, .int (nI (rLv (N (403 * r) - 1 + 1)))), (2, .int (nI (N (403 * r) - 1))), (0, .ref m0), (1, .int (nI r))]) hx hb dX6_pops_48 hl (by decide) rfl (fun ls hl => ?_)
      refine lv_iload hx hb dX6_pops_50 (lv_at hl 0 rfl) ?_
      refine lv_iload hx hb dX6_pops_52 (lv_at hl 2 rfl) ?_
      refine lv_iload hx hb dX6_pops_54 (lv_at hl 1 rfl) ?_
      refine xrd (xrunS (As := [.int (nI (rLv (N (403 * r) - 1))), .int (nI (j + 1))]) (rest := [.int (nI ((rLv (N (403 * r) - 1)) / (4 ^ (j + 1))))]) S (c_X6_blocks l G (rLv (N (403 * r) - 1)) (j + 1) (by omega) (by omega)) (va_cwS 2 hts gX6_pops_X6_blocks rfl rfl rfl (by decide +kernel) ⟨Nat.le_of_ble_eq_true rfl, Nat.le_of_ble_eq_true rfl⟩) hE hS hA trivial rfl rfl hl.1 (Nat.le_of_ble_eq_true rfl) dX6_pops_56 ⟨Nat.le_of_ble_eq_true rfl, Nat.le_of_ble_eq_true rfl⟩) ?_
      refine n_icmp_ge (tgt := 72) hx hb (Nat.lt_of_le_of_lt (Nat.div_le_self _ _) (by omega)) (by have := rBl_lt (j + 1) ht74; omega) dX6_pops_59 (by decide) (fun c_59 => ?_) (fun c_59 => ?_)
      · refine lv_iinc (v := nI (j + 1 + 1)) (lv' := [(5, .int (nI (j + 1 + 1))), (6, .int (nI ((rLv (N (403 * r) - 1)) / (4 ^ (j + 1))))), (4, .int (nI (rLv (N (403 * r) - 1)))), (3, .int (nI (rLv (N (403 * r) - 1 + 1)))), (2, .int (nI (N (403 * r) - 1))), (0, .ref m0), (1, .int (nI r))]) hx hb dX6_pops_72 hl (k := 1) rfl (nI_add (j + 1) 1) (by decide) rfl (fun ls hl => ?_)
        refine lv_goto (tgt := 30) hx hb dX6_pops_75 (by decide) ?_
        have hl : lv_has ls 7 [(5, .int (nI ((j + 1) + 1))), (4, .int (nI (rLv (N (403 * r) - 1)))), (3, .int (nI (rLv (N (403 * r) - 1 + 1)))), (2, .int (nI (N (403 * r) - 1))), (0, .ref m0), (1, .int (nI r))] := lv_sub hl [0, 2, 3, 4, 5, 6] rfl
        have hP : va_P G.1 vwCl [(m0, .inr (6, [.ref aN, .ref aH, .int (nI kept), .ref aS, .int (nI fil), .int (nI ty), .ref aT, .int (nI at_), .int (nI nu)])), (aN, .inl (xcI G, 10276, .inl (nf (rOl N r (rLv (N (403 * r) - 1)) (j + 1))))), (aH, .inl (xcI G, 41104, .inl (nf Hs))), (aS, .inl (xcI G, 10276, .inl (nf Sl))), (aT, .inl (xcC G, 60, .inl (nf tx)))] H := (by rw [rOl, if_neg (Nat.not_lt.mpr c_59)]; exact hP)
        exact ih_30 (j + 1) _ _ _ (by show rCt (rLv (N (403 * r) - 1)) - (j + 1) < rCt (rLv (N (403 * r) - 1)) - j; have := rCt_ge c_37; omega) ⟨(rCt_ge c_37), hP, hS, hl⟩
      · refine lv_aload_n hx hb dX6_pops_62 rfl (lv_at hl 5 rfl) ?_
        refine lv_iload_n hx hb dX6_pops_63 rfl (lv_at hl 6 rfl) ?_
        refine lv_iload hx hb dX6_pops_64 (lv_at hl 1 rfl) ?_
        refine lv_iload hx hb dX6_pops_66 (lv_at hl 0 rfl) ?_
        refine lv_iconst (v := nI 1) hx hb dX6_pops_68 rfl ?_
        refine xwr (xrunV (As := [.int (nI r), .int (nI (j + 1)), .int (nI ((rLv (N (403 * r) - 1)) / (4 ^ (j + 1)))), .int (nI 1)]) (rest := []) S (c_X6_makes l G m0 aN aH aS aT (rOl N r (rLv (N (403 * r) - 1)) j) Hs Sl tx kept fil ty at_ nu r (j + 1) ((rLv (N (403 * r) - 1)) / (4 ^ (j + 1))) 1 (rOl_lt hN hr24 ht74 hM j (by omega)).1 hdis (by omega) (by omega) (rBg_dv (by omega) ht74) (by omega)) (cwV 4 hts gX6_pops_X6_makes rfl rfl rfl (by decide +kernel) ⟨Nat.le_of_ble_eq_true rfl, Nat.le_of_ble_eq_true rfl⟩) hE hS hA 0 6 hP rfl rfl rfl hP rfl rfl hl.1 (Nat.le_of_ble_eq_true rfl) dX6_pops_69 ⟨Nat.le_of_ble_eq_true rfl, Nat.le_of_ble_eq_true rfl⟩) hS (fun _ h => h) (fun _ h => h) (fun u_ H locs hΨ hz hkp hS => ?_)
        have hP : va_P G.1 vwCl [(m0, .inr (6, [.ref aN, .ref aH, .int (nI kept), .ref aS, .int (nI fil), .int (nI ty), .ref aT, .int (nI at_), .int (nI nu)])), (aN, .inl (xcI G, 10276, .inl (nf (rMk (rOl N r (rLv (N (403 * r) - 1)) j) r (j + 1) ((rLv (N (403 * r) - 1)) / (4 ^ (j + 1))) 1)))), (aH, .inl (xcI G, 41104, .inl (nf Hs))), (aS, .inl (xcI G, 10276, .inl (nf Sl))), (aT, .inl (xcC G, 60, .inl (nf tx)))] H := hΨ
        have hD : va_D (fun q => q ∈ [m0, aN, aH, aS, aT]) [(m0, .inr (6, [.ref aN, .ref aH, .int (nI kept), .ref aS, .int (nI fil), .int (nI ty), .ref aT, .int (nI at_), .int (nI nu)])), (aN, .inl (xcI G, 10276, .inl (nf (rMk (rOl N r (rLv (N (403 * r) - 1)) j) r (j + 1) ((rLv (N (403 * r) - 1)) / (4 ^ (j + 1))) 1)))), (aH, .inl (xcI G, 41104, .inl (nf Hs))), (aS, .inl (xcI G, 10276, .inl (nf Sl))), (aT, .inl (xcC G, 60, .inl (nf tx)))] := (hdis.to rfl)
        refine W.eq (g2 := F0 m 72 ls []) rfl ?_
        refine lv_iinc (v := nI (j + 1 + 1)) (lv' := [(5, .int (nI (j + 1 + 1))), (6, .int (nI ((rLv (N (403 * r) - 1)) / (4 ^ (j + 1))))), (4, .int (nI (rLv (N (403 * r) - 1)))), (3, .int (nI (rLv (N (403 * r) - 1 + 1)))), (2, .int (nI (N (403 * r) - 1))), (0, .ref m0), (1, .int (nI r))]) hx hb dX6_pops_72 hl (k := 1) rfl (nI_add (j + 1) 1) (by decide) rfl (fun ls hl => ?_)
        refine lv_goto (tgt := 30) hx hb dX6_pops_75 (by decide) ?_
        have hl : lv_has ls 7 [(5, .int (nI ((j + 1) + 1))), (4, .int (nI (rLv (N (403 * r) - 1)))), (3, .int (nI (rLv (N (403 * r) - 1 + 1)))), (2, .int (nI (N (403 * r) - 1))), (0, .ref m0), (1, .int (nI r))] := lv_sub hl [0, 2, 3, 4, 5, 6] rfl
        have hP : va_P G.1 vwCl [(m0, .inr (6, [.ref aN, .ref aH, .int (nI kept), .ref aS, .int (nI fil), .int (nI ty), .ref aT, .int (nI at_), .int (nI nu)])), (aN, .inl (xcI G, 10276, .inl (nf (rOl N r (rLv (N (403 * r) - 1)) (j + 1))))), (aH, .inl (xcI G, 41104, .inl (nf Hs))), (aS, .inl (xcI G, 10276, .inl (nf Sl))), (aT, .inl (xcC G, 60, .inl (nf tx)))] H := (by rw [rOl, if_pos c_59]; exact hP)
        exact ih_30 (j + 1) _ _ _ (by show rCt (rLv (N (403 * r) - 1)) - (j + 1) < rCt (rLv (N (403 * r) - 1)) - j; have := rCt_ge c_37; omega) ⟨(rCt_ge c_37), hP, hS, hl⟩

theorem hw_X6_comes_f7 : Cond.fieldLink RX6 7 "TailVectorsModel" "now" "[I" ∈ wsX6_comes := by decide +kernel
theorem hi_X6_comes_RX6 : ∀ w ∈ u_ws RX6 TX6 9, w ∈ wsX6_comes := by decide +kernel
set_option maxHeartbeats 4000000 in
set_option maxRecDepth 100000 in
theorem c_X6_comes (l : Launch) (G : xG) (m0 : Nat) (aN : Nat) (aH : Nat) (aS : Nat) (aT : Nat) (N : Nat → Nat) (Hs : Nat → Nat) (Sl : Nat → Nat) (tx : Nat → Nat) (kept : Nat) (fil : Nat) (ty : Nat) (at_ : Nat) (nu : Nat) (f : Nat) (P : Prop) (fi : Nat) (ma : Nat) (hN : ∀ j, N j < 2 ^ 24) (hdis : xDis (xB0 G) [m0, aN, aH, aS, aT]) (hf24 : f ≤ 24) (hev3 : N 10171 < 24) : Met l yX6_comes wsX6_comes ({ frames := 1, cells := 0, slots := 0, locals := 23 } : Room) (xPc G [.ref m0, .int (nI f), .int (bI (P)), .int (nI fi), .int (nI ma)] (fun H => va_P G.1 vwCl [(m0, .inr (6, [.ref aN, .ref aH, .int (nI kept), .ref aS, .int (nI fil), .int (nI ty), .ref aT, .int (nI at_), .int (nI nu)])), (aN, .inl (xcI G, 10276, .inl (nf N))), (aH, .inl (xcI G, 41104, .inl (nf Hs))), (aS, .inl (xcI G, 10276, .inl (nf Sl))), (aT, .inl (xcC G, 60, .inl (nf tx)))] H)) (xQ (σ := Unit) (fun _ => some (.int (nI (N 10171)))) (fun _ H => va_P G.1 vwCl [(m0, .inr (6, [.ref aN, .ref aH, .int (nI kept), .ref aS, .int (nI fil), .int (nI ty), .ref aT, .int (nI at_), .int (nI nu)])), (aN, .inl (xcI G, 10276, .inl (nf (rCo N f P fi ma)))), (aH, .inl (xcI G, 41104, .inl (nf Hs))), (aS, .inl (xcI G, 10276, .inl (nf Sl))), (aT, .inl (xcC G, 60, .inl (nf tx)))] H) (fun q => q ∈ [m0, aN, aH, aS, aT])) 0 0 (fun q => q ∈ [m0, aN, aH, aS, aT]) := by
  refine xMet (cc := cX6_comes) (nL := 6) (ret := (some (.int))) (by decide) rfl (Nat.le_of_ble_eq_true rfl) ?_
  intro p e s m below meth c S hr hk hnm hE hP ls hl
  obtain ⟨hx, hb, hml, hown, hts⟩ := id S
  have hown : s.vm.findClass RX6 = some m.cls := hown
  have hK := hE.1
  have hS : va_S (fun q => q ∈ [m0, aN, aH, aS, aT]) s.heap s.heap [] := va_S.rf
  have hA : ∀ q, (fun q => q ∈ [m0, aN, aH, aS, aT]) q → xB0 G ≤ q := hdis.2
  have hP : va_P G.1 vwCl [(m0, .inr (6, [.ref aN, .ref aH, .int (nI kept), .ref aS, .int (nI fil), .int (nI ty), .ref aT, .int (nI at_), .int (nI nu)])), (aN, .inl (xcI G, 10276, .inl (nf N))), (aH, .inl (xcI G, 41104, .inl (nf Hs))), (aS, .inl (xcI G, 10276, .inl (nf Sl))), (aT, .inl (xcC G, 60, .inl (nf tx)))] s.heap := hP
  have hD : va_D (fun q => q ∈ [m0, aN, aH, aS, aT]) [(m0, .inr (6, [.ref aN, .ref aH, .int (nI kept), .ref aS, .int (nI fil), .int (nI ty), .ref aT, .int (nI at_), .int (nI nu)])), (aN, .inl (xcI G, 10276, .inl (nf N))), (aH, .inl (xcI G, 41104, .inl (nf Hs))), (aS, .inl (xcI G, 10276, .inl (nf Sl))), (aT, .inl (xcC G, 60, .inl (nf tx)))] := (hdis.to rfl)
  have hl : lv_has ls 6 [(0, .ref m0), (1, .int (nI f)), (2, .int (bI (P))), (3, .int (nI fi)), (4, .int (nI ma))] := hl
  refine lv_aload_n hx hb dX6_comes_0 rfl (lv_at hl 0 rfl) ?_
  refine va_get (D := G.1) (ci := 6) (v := .ref aN) (C := RX6) (T := TX6) (N := 9) hx hb hts hi_X6_comes_RX6 hown hK hP 0 rfl rfl 0 (by decide) (hts _ hw_X6_comes_f7) (fun _ h9 => h9) rfl dX6_comes_1 ?_
  refine lv_sipush (v := nI 10171) hx hb dX6_comes_4 (by decide) ?_
  refine n_iald hx hb hK hP 1 0 rfl rfl (by omega) (by decide) dX6_comes_7 ?_
  refine lv_istore (lv' := [(5, .int (nI (N 10171))), (0, .ref m0), (1, .int (nI f)), (2, .int (bI (P))), (3, .int (nI fi)), (4, .int (nI ma))]) hx hb dX6_comes_8 hl (by decide) rfl (fun ls hl => ?_)
  refine lv_aload_n hx hb dX6_comes_10 rfl (lv_at hl 1 rfl) ?_
  refine lv_iload_n hx hb dX6_comes_11 rfl (lv_at hl 2 rfl) ?_
  refine lv_iload hx hb dX6_comes_12 (lv_at hl 0 rfl) ?_
  refine xwr (xrunV (As := [.int (nI f), .int (nI (N 10171))]) (rest := []) S (c_X6_copies l G m0 aN aH aS aT N Hs Sl tx kept fil ty at_ nu f (N 10171) hN hdis (by omega) (by omega)) (cwV 2 hts gX6_comes_X6_copies rfl rfl rfl (by decide +kernel) ⟨Nat.le_of_ble_eq_true rfl, Nat.le_of_ble_eq_true rfl⟩) hE hS hA 0 6 hP rfl rfl rfl hP rfl rfl hl.1 (Nat.le_of_ble_eq_true rfl) dX6_comes_14 ⟨Nat.le_of_ble_eq_true rfl, Nat.le_of_ble_eq_true rfl⟩) hS (fun _ h => h) (fun _ h => h) (fun u_ H locs hΨ hz hkp hS => ?_)
  have hP : va_P G.1 vwCl [(m0, .inr (6, [.ref aN, .ref aH, .int (nI kept), .ref aS, .int (nI fil), .int (nI ty), .ref aT, .int (nI at_), .int (nI nu)])), (aN, .inl (xcI G, 10276, .inl (nf (cpyN N f (N 10171) 403)))), (aH, .inl (xcI G, 41104, .inl (nf Hs))), (aS, .inl (xcI G, 10276, .inl (nf Sl))), (aT, .inl (xcC G, 60, .inl (nf tx)))] H := hΨ
  have hD : va_D (fun q => q ∈ [m0, aN, aH, aS, aT]) [(m0, .inr (6, [.ref aN, .ref aH, .int (nI kept), .ref aS, .int (nI fil), .int (nI ty), .ref aT, .int (nI at_), .int (nI nu)])), (aN, .inl (xcI G, 10276, .inl (nf (cpyN N f (N 10171) 403)))), (aH, .inl (xcI G, 41104, .inl (nf Hs))), (aS, .inl (xcI G, 10276, .inl (nf Sl))), (aT, .inl (xcC G, 60, .inl (nf tx)))] := (hdis.to rfl)
  refine W.eq (g2 := F0 m 17 ls []) rfl ?_
  refine lv_aload_n hx hb dX6_comes_17 rfl (lv_at hl 1 rfl) ?_
  refine va_get (D := G.1) (ci := 6) (v := .ref aN) (C := RX6) (T := TX6) (N := 9) hx hb hts hi_X6_comes_RX6 hown hK hP 0 rfl rfl 0 (by decide) (hts _ hw_X6_comes_f7) (fun _ h9 => h9) rfl dX6_comes_18 ?_
  refine lv_sipush (v := nI 10075) hx hb dX6_comes_21 (by decide) ?_
  refine lv_iconst (v := nI 4) hx hb dX6_comes_24 rfl ?_
  refine lv_iload hx hb dX6_comes_25 (lv_at hl 0 rfl) ?_
  refine n_imul hx hb dX6_comes_27 ?_
  refine n_iadd hx hb dX6_comes_28 ?_
  refine lv_iconst (v := nI 1) hx hb dX6_comes_29 rfl ?_
  refine n_iast hx hb hK hP hD hS 1 0 rfl rfl (by have := hN 10171; omega) (by decide) dX6_comes_30 (fun H locs hP hD hS => ?_)
  have hP : va_P G.1 vwCl [(m0, .inr (6, [.ref aN, .ref aH, .int (nI kept), .ref aS, .int (nI fil), .int (nI ty), .ref aT, .int (nI at_), .int (nI nu)])), (aN, .inl (xcI G, 10276, .inl (nf (updN (cpyN N f (N 10171) 403) (10075 + (4 * (N 10171))) 1)))), (aH, .inl (xcI G, 41104, .inl (nf Hs))), (aS, .inl (xcI G, 10276, .inl (nf Sl))), (aT, .inl (xcC G, 60, .inl (nf tx)))] H := hP
  have hD : va_D (fun q => q ∈ [m0, aN, aH, aS, aT]) [(m0, .inr (6, [.ref aN, .ref aH, .int (nI kept), .ref aS, .int (nI fil), .int (nI ty), .ref aT, .int (nI at_), .int (nI nu)])), (aN, .inl (xcI G, 10276, .inl (nf (updN (cpyN N f (N 10171) 403) (10075 + (4 * (N 10171))) 1)))), (aH, .inl (xcI G, 41104, .inl (nf Hs))), (aS, .inl (xcI G, 10276, .inl (nf Sl))), (aT, .inl (xcC G, 60, .inl (nf tx)))] := hD
  refine lv_aload_n hx hb dX6_comes_31 rfl (lv_at hl 1 rfl) ?_
  refine va_get (D := G.1) (ci := 6) (v := .ref aN) (C := RX6) (T := TX6) (N := 9) hx hb hts hi_X6_comes_RX6 hown hK hP 0 rfl rfl 0 (by decide) (hts _ hw_X6_comes_f7) (fun _ h9 => h9) rfl dX6_comes_32 ?_
  refine lv_sipush (v := nI 10075) hx hb dX6_comes_35 (by decide) ?_
  refine lv_iconst (v := nI 4) hx hb dX6_comes_38 rfl ?_
  refine lv_iload hx hb dX6_comes_39 (lv_at hl 0 rfl) ?_
  refine n_imul hx hb dX6_comes_41 ?_
  refine n_iadd hx hb dX6_comes_42 ?_
  refine lv_iconst (v := nI 1) hx hb dX6_comes_43 rfl ?_
  refine n_iadd hx hb dX6_comes_44 ?_
  refine lv_iload_n hx hb dX6_comes_45 rfl (lv_at hl 3 rfl) ?_
  refine b_if_eq (tgt := 53) hx hb dX6_comes_46 (by decide) (fun c_46 => ?_) (fun c_46 => ?_)
  · refine lv_iconst (v := nI 0) hx hb dX6_comes_53 rfl ?_
    refine n_top (y := nI (bN P)) (bN_ff c_46) ?_
    refine n_iast hx hb hK hP hD hS 1 0 rfl rfl (by have := hN 10171; omega) (by decide) dX6_comes_54 (fun H locs hP hD hS => ?_)
    have hP : va_P G.1 vwCl [(m0, .inr (6, [.ref aN, .ref aH, .int (nI kept), .ref aS, .int (nI fil), .int (nI ty), .ref aT, .int (nI at_), .int (nI nu)])), (aN, .inl (xcI G, 10276, .inl (nf (updN (updN (cpyN N f (N 10171) 403) (10075 + (4 * (N 10171))) 1) ((10075 + (4 * (N 10171))) + 1) (bN P))))), (aH, .inl (xcI G, 41104, .inl (nf Hs))), (aS, .inl (xcI G, 10276, .inl (nf Sl))), (aT, .inl (xcC G, 60, .inl (nf tx)))] H := hP
    have hD : va_D (fun q => q ∈ [m0, aN, aH, aS, aT]) [(m0, .inr (6, [.ref aN, .ref aH, .int (nI kept), .ref aS, .int (nI fil), .int (nI ty), .ref aT, .int (nI at_), .int (nI nu)])), (aN, .inl (xcI G, 10276, .inl (nf (updN (updN (cpyN N f (N 10171) 403) (10075 + (4 * (N 10171))) 1) ((10075 + (4 * (N 10171))) + 1) (bN P))))), (aH, .inl (xcI G, 41104, .inl (nf Hs))), (aS, .inl (xcI G, 10276, .inl (nf Sl))), (aT, .inl (xcC G, 60, .inl (nf tx)))] := hD
    refine lv_aload_n hx hb dX6_comes_55 rfl (lv_at hl 1 rfl) ?_
    refine va_get (D := G.1) (ci := 6) (v := .ref aN) (C := RX6) (T := TX6) (N := 9) hx hb hts hi_X6_comes_RX6 hown hK hP 0 rfl rfl 0 (by decide) (hts _ hw_X6_comes_f7) (fun _ h9 => h9) rfl dX6_comes_56 ?_
    refine lv_sipush (v := nI 10075) hx hb dX6_comes_59 (by decide) ?_
    refine lv_iconst (v := nI 4) hx hb dX6_comes_62 rfl ?_
    refine lv_iload hx hb dX6_comes_63 (lv_at hl 0 rfl) ?_
    refine n_imul hx hb dX6_comes_65 ?_
    refine n_iadd hx hb dX6_comes_66 ?_
    refine lv_iconst (v := nI 2) hx hb dX6_comes_67 rfl ?_
    refine n_iadd hx hb dX6_comes_68 ?_
    refine lv_iload_n hx hb dX6_comes_69 rfl (lv_at hl 4 rfl) ?_
    refine n_iast hx hb hK hP hD hS 1 0 rfl rfl (by have := hN 10171; omega) (by decide) dX6_comes_70 (fun H locs hP hD hS => ?_)
    have hP : va_P G.1 vwCl [(m0, .inr (6, [.ref aN, .ref aH, .int (nI kept), .ref aS, .int (nI fil), .int (nI ty), .ref aT, .int (nI at_), .int (nI nu)])), (aN, .inl (xcI G, 10276, .inl (nf (updN (updN (updN (cpyN N f (N 10171) 403) (10075 + (4 * (N 10171))) 1) ((10075 + (4 * (N 10171))) + 1) (bN P)) ((10075 + (4 * (N 10171))) + 2) fi)))), (aH, .inl (xcI G, 41104, .inl (nf Hs))), (aS, .inl (xcI G, 10276, .inl (nf Sl))), (aT, .inl (xcC G, 60, .inl (nf tx)))] H := hP
    have hD : va_D (fun q => q ∈ [m0, aN, aH, aS, aT]) [(m0, .inr (6, [.ref aN, .ref aH, .int (nI kept), .ref aS, .int (nI fil), .int (nI ty), .ref aT, .int (nI at_), .int (nI nu)])), (aN, .inl (xcI G, 10276, .inl (nf (updN (updN (updN (cpyN N f (N 10171) 403) (10075 + (4 * (N 10171))) 1) ((10075 + (4 * (N 10171))) + 1) (bN P)) ((10075 + (4 * (N 10171))) + 2) fi)))), (aH, .inl (xcI G, 41104, .inl (nf Hs))), (aS, .inl (xcI G, 10276, .inl (nf Sl))), (aT, .inl (xcC G, 60, .inl (nf tx)))] := hD
    refine lv_aload_n hx hb dX6_comes_71 rfl (lv_at hl 1 rfl) ?_
    refine va_get (D := G.1) (ci := 6) (v := .ref aN) (C := RX6) (T := TX6) (N := 9) hx hb hts hi_X6_comes_RX6 hown hK hP 0 rfl rfl 0 (by decide) (hts _ hw_X6_comes_f7) (fun _ h9 => h9) rfl dX6_comes_72 ?_
    refine lv_sipush (v := nI 10075) hx hb dX6_comes_75 (by decide) ?_
    refine lv_iconst (v := nI 4) hx hb dX6_comes_78 rfl ?_
    refine lv_iload hx hb dX6_comes_79 (lv_at hl 0 rfl) ?_
    refine n_imul hx hb dX6_comes_81 ?_
    refine n_iadd hx hb dX6_comes_82 ?_
    refine lv_iconst (v := nI 3) hx hb dX6_comes_83 rfl ?_
    refine n_iadd hx hb dX6_comes_84 ?_
    refine lv_iload hx hb dX6_comes_85 (lv_at hl 5 rfl) ?_
    refine n_iast hx hb hK hP hD hS 1 0 rfl rfl (by have := hN 10171; omega) (by decide) dX6_comes_87 (fun H locs hP hD hS => ?_)
    have hP : va_P G.1 vwCl [(m0, .inr (6, [.ref aN, .ref aH, .int (nI kept), .ref aS, .int (nI fil), .int (nI ty), .ref aT, .int (nI at_), .int (nI nu)])), (aN, .inl (xcI G, 10276, .inl (nf (updN (updN (updN (updN (cpyN N f (N 10171) 403) (10075 + (4 * (N 10171))) 1) ((10075 + (4 * (N 10171))) + 1) (bN P)) ((10075 + (4 * (N 10171))) + 2) fi) ((10075 + (4 * (N 10171))) + 3) ma)))), (aH, .inl (xcI G, 41104, .inl (nf Hs))), (aS, .inl (xcI G, 10276, .inl (nf Sl))), (aT, .inl (xcC G, 60, .inl (nf tx)))] H := hP
    have hD : va_D (fun q => q ∈ [m0, aN, aH, aS, aT]) [(m0, .inr (6, [.ref aN, .ref aH, .int (nI kept), .ref aS, .int (nI fil), .int (nI ty), .ref aT, .int (nI at_), .int (nI nu)])), (aN, .inl (xcI G, 10276, .inl (nf (updN (updN (updN (updN (cpyN N f (N 10171) 403) (10075 + (4 * (N 10171))) 1) ((10075 + (4 * (N 10171))) + 1) (bN P)) ((10075 + (4 * (N 10171))) + 2) fi) ((10075 + (4 * (N 10171))) + 3) ma)))), (aH, .inl (xcI G, 41104, .inl (nf Hs))), (aS, .inl (xcI G, 10276, .inl (nf Sl))), (aT, .inl (xcC G, 60, .inl (nf tx)))] := hD
    refine lv_aload_n hx hb dX6_comes_88 rfl (lv_at hl 1 rfl) ?_
    refine va_get (D := G.1) (ci := 6) (v := .ref aN) (C := RX6) (T := TX6) (N := 9) hx hb hts hi_X6_comes_RX6 hown hK hP 0 rfl rfl 0 (by decide) (hts _ hw_X6_comes_f7) (fun _ h9 => h9) rfl dX6_comes_89 ?_
    refine lv_sipush (v := nI 10171) hx hb dX6_comes_92 (by decide) ?_
    refine lv_dup2_11 hx hb dX6_comes_95 rfl rfl ?_
    refine n_iald hx hb hK hP 1 0 rfl rfl (by omega) (by decide) dX6_comes_96 ?_
    refine lv_iconst (v := nI 1) hx hb dX6_comes_97 rfl ?_
    refine n_iadd hx hb dX6_comes_98 ?_
    refine n_iast hx hb hK hP hD hS 1 0 rfl rfl (by omega) (by decide) dX6_comes_99 (fun H locs hP hD hS => ?_)
    have hP : va_P G.1 vwCl [(m0, .inr (6, [.ref aN, .ref aH, .int (nI kept), .ref aS, .int (nI fil), .int (nI ty), .ref aT, .int (nI at_), .int (nI nu)])), (aN, .inl (xcI G, 10276, .inl (nf (updN (updN (updN (updN (updN (cpyN N f (N 10171) 403) (10075 + (4 * (N 10171))) 1) ((10075 + (4 * (N 10171))) + 1) (bN P)) ((10075 + (4 * (N 10171))) + 2) fi) ((10075 + (4 * (N 10171))) + 3) ma) 10171 (((updN (updN (updN (updN (cpyN N f (N 10171) 403) (10075 + (4 * (N 10171))) 1) ((10075 + (4 * (N 10171))) + 1) (bN P)) ((10075 + (4 * (N 10171))) + 2) fi) ((10075 + (4 * (N 10171))) + 3) ma) 10171) + 1))))), (aH, .inl (xcI G, 41104, .inl (nf Hs))), (aS, .inl (xcI G, 10276, .inl (nf Sl))), (aT, .inl (xcC G, 60, .inl (nf tx)))] H := hP
    have hD : va_D (fun q => q ∈ [m0, aN, aH, aS, aT]) [(m0, .inr (6, [.ref aN, .ref aH, .int (nI kept), .ref aS, .int (nI fil), .int (nI ty), .ref aT, .int (nI at_), .int (nI nu)])), (aN, .inl (xcI G, 10276, .inl (nf (updN (updN (updN (updN (updN (cpyN N f (N 10171) 403) (10075 + (4 * (N 10171))) 1) ((10075 + (4 * (N 10171))) + 1) (bN P)) ((10075 + (4 * (N 10171))) + 2) fi) ((10075 + (4 * (N 10171))) + 3) ma) 10171 (((updN (updN (updN (updN (cpyN N f (N 10171) 403) (10075 + (4 * (N 10171))) 1) ((10075 + (4 * (N 10171))) + 1) (bN P)) ((10075 + (4 * (N 10171))) + 2) fi) ((10075 + (4 * (N 10171))) + 3) ma) 10171) + 1))))), (aH, .inl (xcI G, 41104, .inl (nf Hs))), (aS, .inl (xcI G, 10276, .inl (nf Sl))), (aT, .inl (xcC G, 60, .inl (nf tx)))] := hD
    refine lv_iload hx hb dX6_comes_100 (lv_at hl 0 rfl) ?_
    exact xend_i () hx hb hr hk hS (fun _ h => h) dX6_comes_102 rfl hP (Nat.le_refl _) (Nat.le_refl _)
  · refine lv_iconst (v := nI 1) hx hb dX6_comes_49 rfl ?_
    refine n_top (y := nI (bN P)) (bN_tt c_46) ?_
    refine lv_goto (tgt := 54) hx hb dX6_comes_50 (by decide) ?_
    refine n_iast hx hb hK hP hD hS 1 0 rfl rfl (by have := hN 10171; omega) (by decide) dX6_comes_54 (fun H locs hP hD hS => ?_)
    have hP : va_P G.1 vwCl [(m0, .inr (6, [.ref aN, .ref aH, .int (nI kept), .ref aS, .int (nI fil), .int (nI ty), .ref aT, .int (nI at_), .int (nI nu)])), (aN, .inl (xcI G, 10276, .inl (nf (updN (updN (cpyN N f (N 10171) 403) (10075 + (4 * (N 10171))) 1) ((10075 + (4 * (N 10171))) + 1) (bN P))))), (aH, .inl (xcI G, 41104, .inl (nf Hs))), (aS, .inl (xcI G, 10276, .inl (nf Sl))), (aT, .inl (xcC G, 60, .inl (nf tx)))] H := hP
    have hD : va_D (fun q => q ∈ [m0, aN, aH, aS, aT]) [(m0, .inr (6, [.ref aN, .ref aH, .int (nI kept), .ref aS, .int (nI fil), .int (nI ty), .ref aT, .int (nI at_), .int (nI nu)])), (aN, .inl (xcI G, 10276, .inl (nf (updN (updN (cpyN N f (N 10171) 403) (10075 + (4 * (N 10171))) 1) ((10075 + (4 * (N 10171))) + 1) (bN P))))), (aH, .inl (xcI G, 41104, .inl (nf Hs))), (aS, .inl (xcI G, 10276, .inl (nf Sl))), (aT, .inl (xcC G, 60, .inl (nf tx)))] := hD
    refine lv_aload_n hx hb dX6_comes_55 rfl (lv_at hl 1 rfl) ?_
    refine va_get (D := G.1) (ci := 6) (v := .ref aN) (C := RX6) (T := TX6) (N := 9) hx hb hts hi_X6_comes_RX6 hown hK hP 0 rfl rfl 0 (by decide) (hts _ hw_X6_comes_f7) (fun _ h9 => h9) rfl dX6_comes_56 ?_
    refine lv_sipush (v := nI 10075) hx hb dX6_comes_59 (by decide) ?_
    refine lv_iconst (v := nI 4) hx hb dX6_comes_62 rfl ?_
    refine lv_iload hx hb dX6_comes_63 (lv_at hl 0 rfl) ?_
    refine n_imul hx hb dX6_comes_65 ?_
    refine n_iadd hx hb dX6_comes_66 ?_
    refine lv_iconst (v := nI 2) hx hb dX6_comes_67 rfl ?_
    refine n_iadd hx hb dX6_comes_68 ?_
    refine lv_iload_n hx hb dX6_comes_69 rfl (lv_at hl 4 rfl) ?_
    refine n_iast hx hb hK hP hD hS 1 0 rfl rfl (by have := hN 10171; omega) (by decide) dX6_comes_70 (fun H locs hP hD hS => ?_)
    have hP : va_P G.1 vwCl [(m0, .inr (6, [.ref aN, .ref aH, .int (nI kept), .ref aS, .int (nI fil), .int (nI ty), .ref aT, .int (nI at_), .int (nI nu)])), (aN, .inl (xcI G, 10276, .inl (nf (updN (updN (updN (cpyN N f (N 10171) 403) (10075 + (4 * (N 10171))) 1) ((10075 + (4 * (N 10171))) + 1) (bN P)) ((10075 + (4 * (N 10171))) + 2) fi)))), (aH, .inl (xcI G, 41104, .inl (nf Hs))), (aS, .inl (xcI G, 10276, .inl (nf Sl))), (aT, .inl (xcC G, 60, .inl (nf tx)))] H := hP
    have hD : va_D (fun q => q ∈ [m0, aN, aH, aS, aT]) [(m0, .inr (6, [.ref aN, .ref aH, .int (nI kept), .ref aS, .int (nI fil), .int (nI ty), .ref aT, .int (nI at_), .int (nI nu)])), (aN, .inl (xcI G, 10276, .inl (nf (updN (updN (updN (cpyN N f (N 10171) 403) (10075 + (4 * (N 10171))) 1) ((10075 + (4 * (N 10171))) + 1) (bN P)) ((10075 + (4 * (N 10171))) + 2) fi)))), (aH, .inl (xcI G, 41104, .inl (nf Hs))), (aS, .inl (xcI G, 10276, .inl (nf Sl))), (aT, .inl (xcC G, 60, .inl (nf tx)))] := hD
    refine lv_aload_n hx hb dX6_comes_71 rfl (lv_at hl 1 rfl) ?_
    refine va_get (D := G.1) (ci := 6) (v := .ref aN) (C := RX6) (T := TX6) (N := 9) hx hb hts hi_X6_comes_RX6 hown hK hP 0 rfl rfl 0 (by decide) (hts _ hw_X6_comes_f7) (fun _ h9 => h9) rfl dX6_comes_72 ?_
    refine lv_sipush (v := nI 10075) hx hb dX6_comes_75 (by decide) ?_
    refine lv_iconst (v := nI 4) hx hb dX6_comes_78 rfl ?_
    refine lv_iload hx hb dX6_comes_79 (lv_at hl 0 rfl) ?_
    refine n_imul hx hb dX6_comes_81 ?_
    refine n_iadd hx hb dX6_comes_82 ?_
    refine lv_iconst (v := nI 3) hx hb dX6_comes_83 rfl ?_
    refine n_iadd hx hb dX6_comes_84 ?_
    refine lv_iload hx hb dX6_comes_85 (lv_at hl 5 rfl) ?_
    refine n_iast hx hb hK hP hD hS 1 0 rfl rfl (by have := hN 10171; omega) (by decide) dX6_comes_87 (fun H locs hP hD hS => ?_)
    have hP : va_P G.1 vwCl [(m0, .inr (6, [.ref aN, .ref aH, .int (nI kept), .ref aS, .int (nI fil), .int (nI ty), .ref aT, .int (nI at_), .int (nI nu)])), (aN, .inl (xcI G, 10276, .inl (nf (updN (updN (updN (updN (cpyN N f (N 10171) 403) (10075 + (4 * (N 10171))) 1) ((10075 + (4 * (N 10171))) + 1) (bN P)) ((10075 + (4 * (N 10171))) + 2) fi) ((10075 + (4 * (N 10171))) + 3) ma)))), (aH, .inl (xcI G, 41104, .inl (nf Hs))), (aS, .inl (xcI G, 10276, .inl (nf Sl))), (aT, .inl (xcC G, 60, .inl (nf tx)))] H := hP
    have hD : va_D (fun q => q ∈ [m0, aN, aH, aS, aT]) [(m0, .inr (6, [.ref aN, .ref aH, .int (nI kept), .ref aS, .int (nI fil), .int (nI ty), .ref aT, .int (nI at_), .int (nI nu)])), (aN, .inl (xcI G, 10276, .inl (nf (updN (updN (updN (updN (cpyN N f (N 10171) 403) (10075 + (4 * (N 10171))) 1) ((10075 + (4 * (N 10171))) + 1) (bN P)) ((10075 + (4 * (N 10171))) + 2) fi) ((10075 + (4 * (N 10171))) + 3) ma)))), (aH, .inl (xcI G, 41104, .inl (nf Hs))), (aS, .inl (xcI G, 10276, .inl (nf Sl))), (aT, .inl (xcC G, 60, .inl (nf tx)))] := hD
    refine lv_aload_n hx hb dX6_comes_88 rfl (lv_at hl 1 rfl) ?_
    refine va_get (D := G.1) (ci := 6) (v := .ref aN) (C := RX6) (T := TX6) (N := 9) hx hb hts hi_X6_comes_RX6 hown hK hP 0 rfl rfl 0 (by decide) (hts _ hw_X6_comes_f7) (fun _ h9 => h9) rfl dX6_comes_89 ?_
    refine lv_sipush (v := nI 10171) hx hb dX6_comes_92 (by decide) ?_
    refine lv_dup2_11 hx hb dX6_comes_95 rfl rfl ?_
    refine n_iald hx hb hK hP 1 0 rfl rfl (by omega) (by decide) dX6_comes_96 ?_
    refine lv_iconst (v := nI 1) hx hb dX6_comes_97 rfl ?_
    refine n_iadd hx hb dX6_comes_98 ?_
    refine n_iast hx hb hK hP hD hS 1 0 rfl rfl (by omega) (by decide) dX6_comes_99 (fun H locs hP hD hS => ?_)
    have hP : va_P G.1 vwCl [(m0, .inr (6, [.ref aN, .ref aH, .int (nI kept), .ref aS, .int (nI fil), .int (nI ty), .ref aT, .int (nI at_), .int (nI nu)])), (aN, .inl (xcI G, 10276, .inl (nf (updN (updN (updN (updN (updN (cpyN N f (N 10171) 403) (10075 + (4 * (N 10171))) 1) ((10075 + (4 * (N 10171))) + 1) (bN P)) ((10075 + (4 * (N 10171))) + 2) fi) ((10075 + (4 * (N 10171))) + 3) ma) 10171 (((updN (updN (updN (updN (cpyN N f (N 10171) 403) (10075 + (4 * (N 10171))) 1) ((10075 + (4 * (N 10171))) + 1) (bN P)) ((10075 + (4 * (N 10171))) + 2) fi) ((10075 + (4 * (N 10171))) + 3) ma) 10171) + 1))))), (aH, .inl (xcI G, 41104, .inl (nf Hs))), (aS, .inl (xcI G, 10276, .inl (nf Sl))), (aT, .inl (xcC G, 60, .inl (nf tx)))] H := hP
    have hD : va_D (fun q => q ∈ [m0, aN, aH, aS, aT]) [(m0, .inr (6, [.ref aN, .ref aH, .int (nI kept), .ref aS, .int (nI fil), .int (nI ty), .ref aT, .int (nI at_), .int (nI nu)])), (aN, .inl (xcI G, 10276, .inl (nf (updN (updN (updN (updN (updN (cpyN N f (N 10171) 403) (10075 + (4 * (N 10171))) 1) ((10075 + (4 * (N 10171))) + 1) (bN P)) ((10075 + (4 * (N 10171))) + 2) fi) ((10075 + (4 * (N 10171))) + 3) ma) 10171 (((updN (updN (updN (updN (cpyN N f (N 10171) 403) (10075 + (4 * (N 10171))) 1) ((10075 + (4 * (N 10171))) + 1) (bN P)) ((10075 + (4 * (N 10171))) + 2) fi) ((10075 + (4 * (N 10171))) + 3) ma) 10171) + 1))))), (aH, .inl (xcI G, 41104, .inl (nf Hs))), (aS, .inl (xcI G, 10276, .inl (nf Sl))), (aT, .inl (xcC G, 60, .inl (nf tx)))] := hD
    refine lv_iload hx hb dX6_comes_100 (lv_at hl 0 rfl) ?_
    exact xend_i () hx hb hr hk hS (fun _ h => h) dX6_comes_102 rfl hP (Nat.le_refl _) (Nat.le_refl _)
