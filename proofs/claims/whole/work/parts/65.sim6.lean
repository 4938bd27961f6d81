/-! ===== a new vector ===== -/
theorem act_add {X : Xs} {N Hs Sl tx : Nat → Nat} {kept fil ty c : Nat} (h : XR X N Hs Sl tx kept fil ty c) {σ σ2 : Nat → Nat} (hV : vsR X.1.1 N σ) (he : N 10171 < 24) {N2 : Nat → Nat} {w2 : Vw} {md : Nat} {ed : Option Rw} {fo : Int32} (hfr : ∀ j, j ≠ 10172 → j ≠ 10171 → j ≠ 10173 → ¬ (403 * N 10171 ≤ j ∧ j < 403 * N 10171 + 403) → ¬ (10075 + 4 * N 10171 ≤ j ∧ j < 10075 + 4 * N 10171 + 4) → N2 j = N j) (h71 : N2 10171 = N 10171 + 1) (hM : N 10172 ≤ N2 10172) (hM2 : N2 10172 ≤ N 10172 + 200) (hi : N2 (10075 + 4 * N 10171) = 1) (hw : vwR N2 (N 10171) w2 σ2) (hσ : ∀ n, n < N 10172 → σ2 n = σ n) (hlt : ∀ j, N2 j < 2 ^ 24) (hE : edR ed fo N2 σ2) (hmd : md = N2 10172) : XR (cvAdd X w2 md ed fo) N2 (rRecH Hs N kept) Sl tx (rRecK kept) fil ty (c + 200) := by
  have ha := h.1.1
  obtain ⟨g1, g2⟩ := add_ok h.2.1 he hV hfr h71 hM hM2 hi hw hσ hlt
  refine h.act ⟨?_, hmd, σ2, ?_, hE⟩ g2
  · show X.1.2.1 + 1 = _
    rw [ha, h71]
  · show vsR (va_up X.1.1 X.1.2.1 (some w2)) N2 σ2
    rw [ha]; exact g1
theorem row_add {X : Xs} {N Hs Sl tx : Nat → Nat} {kept fil ty c : Nat} (h : XR X N Hs Sl tx kept fil ty c) {σ σ2 : Nat → Nat} (hV : vsR X.1.1 N σ) (hE : edR X.1.2.2.2.1 X.1.2.2.2.2 N σ) (he : N 10171 < 24) {k fi ma cnt : Nat} {P : Prop} {N2 : Nat → Nat} {w2 : Vw} (hfr : frR (N 10171) (rCo N k P fi ma) N2) (hrow : rowR N2 (N 10171) w2.1 σ2) (hσ : ∀ n, n < N 10172 → σ2 n = σ n) (hmade : N2 10172 = N 10172 + cnt) (hcnt : cnt ≤ 5) (hlt : ∀ j, N2 j < 2 ^ 24) (hw1 : w2.2.1 = bN P) (hw2 : w2.2.2.1 = fi) (hw3 : (P → w2.2.2.2 = ma) ∧ (¬ P → w2.2.2.2 = w2.1.2.2.2)) (hw4 : w2.2.2.1 + w2.2.2.2 ≤ w2.1.2.2.2) (hw5 : ¬ P → fi = 0) : XR (cvAdd X w2 (N 10172 + cnt) X.1.2.2.2.1 X.1.2.2.2.2) N2 (rRecH Hs N kept) Sl tx (rRecK kept) fil ty (c + 200) := by
  obtain ⟨f1, f2, f3, f4, f5, f6, f7, f8⟩ := rCo_f (f := k) (fi := fi) (ma := ma) (P := P) he
  have hfr2 : ∀ j, j ≠ 10172 → j ≠ 10171 → ¬ (403 * N 10171 ≤ j ∧ j < 403 * N 10171 + 403) → ¬ (10075 + 4 * N 10171 ≤ j ∧ j < 10075 + 4 * N 10171 + 4) → N2 j = N j := fun j a b d e => (hfr j a d (by omega)).trans (f8 j b d e)
  have hI : ∀ i, i < 4 → N2 (10075 + 4 * N 10171 + i) = rCo N k P fi ma (10075 + 4 * N 10171 + i) := fun i hi => hfr _ (by omega) (by omega) (by omega)
  have hbP : P ∨ ¬ P := Classical.em P
  have hrl : w2.2.2.2 = rLen N2 (N 10171) := by
    unfold rLen
    rw [hI 1 (by omega), f5, hI 3 (by omega), f7]
    rcases hbP with hp | hp
    · rw [bN_t hp, if_pos rfl]; exact hw3.1 hp
    · rw [bN_f hp, if_neg (by omega), hrow.1]; exact hw3.2 hp
  refine act_add h hV he (fun j a b _ d e => hfr2 j a b d e) ?_ (by omega) (by omega) ?_ ⟨hrow, ?_, ?_, ?_, hrl, hw4, fun z => ?_⟩ hσ hlt ?_ hmade.symm
  · rw [hfr _ (by omega) (by omega) (by omega), f1]
  · have := hI 0 (by omega); rw [Nat.add_zero] at this; rw [this, f4]
  · rw [hI 1 (by omega), f5]; exact hw1
  · rw [hw1]; have := bN_le P; omega
  · rw [hI 2 (by omega), f6]; exact hw2
  · rw [hw2]
    refine hw5 (fun hp => ?_)
    rw [hw1, bN_t hp] at z
    cases z
  · exact hE.mv (fun j a b => hfr2 j (by omega) (by omega) (by omega) (by omega)) (hfr2 _ (by omega) (by omega) (by omega) (by omega)) (fun j a b => hfr2 j (by omega) (by omega) (by omega) (by omega)) (by omega) hσ
theorem rSe_lt {N : Nat → Nat} {r q y : Nat} (hN : ∀ j, N j < 2 ^ 24) (hr : r ≤ 24) (hl : N (403 * r) ≤ 300) (hq : q < N (403 * r)) (hM : N 10172 < 2 ^ 23) (hy : y < 2 ^ 24) (j : Nat) : rSe N r q y j < 2 ^ 24 := by
  unfold rSe
  refine updN_lt ?_ hy j
  have h1 := rLv_le hl
  have h2 := rRt_le (rLv (N (403 * r)))
  by_cases hc : q < 4 * rLv (N (403 * r))
  · rw [if_pos hc]
    exact (rSl_lt hN hr (by omega) hM _ (by omega)).1
  · rw [if_neg hc]; exact hN
theorem rPo_lt {N : Nat → Nat} {r : Nat} (hN : ∀ j, N j < 2 ^ 24) (hr : r ≤ 24) (hl : N (403 * r) ≤ 300) (hM : N 10172 < 2 ^ 23) (j : Nat) : rPo N r j < 2 ^ 24 := by
  unfold rPo
  refine updN_lt ?_ (by omega) j
  have h1 := rLv_le (show N (403 * r) - 1 ≤ 300 by omega)
  have h2 := rCt_le (rLv (N (403 * r) - 1))
  split
  · exact (rOl_lt hN hr h1 hM _ h2).1
  · exact hN
theorem cap1 {n : Nat} (h : n < 300) : n < capN (n + 1) := by unfold capN; rw [if_pos (by omega)]; omega
