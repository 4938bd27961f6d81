/-! ===== the acts that make vectors ===== -/
/-- the class's value and the reference's, as one -/
def XM (X : Xs) (M : RM) (c : Nat) : Prop := XR X M.1 M.2.1 M.2.2.1 M.2.2.2.1 M.2.2.2.2.1 M.2.2.2.2.2.1 M.2.2.2.2.2.2.1 c
theorem rVl_of {x : Int32} (h : rVl x) : ∃ y, y ≤ 999 ∧ x = nI y := by
  obtain ⟨y, hy, rfl⟩ := nI_of (show ¬ x < 0 from fun z => absurd h.1 (Int32.not_le.mpr z))
  exact ⟨y, (nI_leI hy (by decide)).mp h.2, rfl⟩
theorem ow_new {N : Nat → Nat} {e : Nat} (he : e < 24) (nums : Nat → Int32) (U : Nat → Nat → Prop) : owR N e nums U cNO := ⟨fun _ => rfl, fun z => absurd z (by omega)⟩
theorem rCo_row {N : Nat → Nat} {k fi ma : Nat} {P : Prop} {r : Rw} {σ : Nat → Nat} (he : N 10171 < 24) (h : rowR N k r σ) (mo : Nat) : rowR (rCo N k P fi ma) (N 10171) (rwCp r mo) σ := by
  obtain ⟨f1, f2, f3, f4, f5, f6, f7, f8⟩ := rCo_f (f := k) (fi := fi) (ma := ma) (P := P) he
  exact (h.mv f3 (by rw [f2]; exact Nat.le_refl _) (fun _ _ => rfl)).cp mo
theorem ac_push {X : Xs} {N Hs Sl tx : Nat → Nat} {kept fil ty at_ nu c : Nat} (h : XR X N Hs Sl tx kept fil ty c) (hc : c < 2 ^ 20) (v x : Int32) : (cvPush X v x).1 = (rmPush (N, Hs, Sl, tx, kept, fil, ty, at_, nu) v x).1 ∧ XM (cvPush X v x).2 (rmPush (N, Hs, Sl, tx, kept, fil, ty, at_, nu) v x).2 (c + 200) := by
  obtain ⟨⟨a1, a2, σ, hV, hE⟩, hok, hrest⟩ := id h
  have hN := hok.1
  have hM := hok.2.2.2.2.2
  rcases no_at hV hok v with ⟨hn, hr⟩ | ⟨k, w, rfl, hk24, hke, hw, hr, _, hvw, hcl⟩
  · rw [cvPush, hn, oel_n, rmPush, if_pos hr]; exact ⟨rfl, h.up⟩
  · by_cases hx : ¬ rVl x
    · rw [cvPush, hw, oel_s, if_pos hx, rmPush, if_neg hr, if_pos hx]; exact ⟨rfl, h.up⟩
    · obtain ⟨y, hy, rfl⟩ := rVl_of (Classical.not_not.mp hx)
      have hyc : (nI y).toNatClampNeg = y := nI_clamp (by omega)
      obtain ⟨b1, b2, b3, b4, b5, b6, b7⟩ := id hvw
      have hlen : N (403 * k) = w.1.2.2.2 := b1.1
      have hl300 : w.1.2.2.2 ≤ 300 := by have := b1.2.1; have := b1.2.2.1; omega
      have he24 := hok.2.2.1
      rw [cvPush, hw, oel_s, if_neg hx, rmPush, if_neg hr, if_neg hx, hcl, hyc, rmPushK, ← b4, ← b5, hlen, ← b2]
      by_cases hf : N 10171 = 24 ∨ (w.2.2.1 + w.2.2.2 = w.1.2.2.2 ∧ w.2.2.1 + w.2.2.2 = 300)
      · rw [if_pos hf, if_pos (by omega)]; exact ⟨rfl, h.up⟩
      · rw [if_neg hf, if_neg (by omega), a1]
        refine ⟨rfl, ?_⟩
        have he : N 10171 < 24 := by omega
        obtain ⟨f1, f2, f3, f4, f5, f6, f7, f8⟩ := rCo_f (f := k) (fi := w.2.2.1) (ma := rMa N k 1) (P := w.2.1 = 1) he
        have hr1 := rCo_row (P := w.2.1 = 1) (fi := w.2.2.1) (ma := rMa N k 1) he b1 1
        have hma : w.2.1 = 1 → rMa N k 1 = w.2.2.2 + 1 := fun z => by rw [rMa, if_pos (by rw [← b2]; exact z), ← b5]
        have hnw : ¬ w.2.1 = 1 → w.2.2.1 = 0 ∧ w.2.2.2 = w.1.2.2.2 := fun z => ⟨b7 (by omega), by rw [b5, rLen, if_neg (by rw [← b2]; exact z), hlen]⟩
        have hrc : rMa N k 1 ≤ 301 := by
          by_cases z : w.2.1 = 1
          · rw [hma z]; omega
          · rw [rMa, if_neg (by rw [← b2]; exact z)]; omega
        have hlt1 := rCo_lt (f := k) (P := w.2.1 = 1) hN he (show w.2.2.1 < 2 ^ 24 by omega) (show rMa N k 1 < 2 ^ 24 by omega)
        have hw1 : w.2.1 = bN (w.2.1 = 1) := by
          by_cases z : w.2.1 = 1
          · rw [bN_t z]; exact z
          · rw [bN_f z]; omega
        by_cases hend : w.2.2.1 + w.2.2.2 = w.1.2.2.2
        · rw [if_pos hend]
          have hlt300 : w.1.2.2.2 < 300 := by omega
          obtain ⟨σ2, g1, g2, g3, g4, g5, g6⟩ := row_pu (y := y) hr1 (ow_new he _ _) (by omega) hlt300 (cap1 hlt300) (by rw [f2]; omega)
          rw [f2] at g1 g3 g4 g5
          have e1 : rwWr (rwCp w.1 1) (w.2.2.1 + w.2.2.2) (nI y) X.1.2.2.1 cNO = rwWr (rwCp w.1 1) (rwCp w.1 1).2.2.2 (nI y) (N 10172) cNO := by rw [a2, hend]; rfl
          have e2 : rwWrC (rwCp w.1 1) (w.2.2.1 + w.2.2.2) X.1.2.2.1 cNO = rwWrC (rwCp w.1 1) (rwCp w.1 1).2.2.2 (N 10172) cNO := by rw [a2, hend]; rfl
          have eL : (rwWr (rwCp w.1 1) (rwCp w.1 1).2.2.2 (nI y) (N 10172) cNO).2.2.2 = w.1.2.2.2 + 1 := if_pos rfl
          rw [e1, e2, a2]
          have hfac := rPu_fac (x := y) hlt1 (show N 10171 ≤ 24 by omega) (by have := f3 0 (by omega); rw [Nat.add_zero, Nat.add_zero] at this; rw [this, hlen]; exact hlt300) (by rw [f2]; omega) (by omega)
          exact row_add h hV hE he g6 g1 g4 g3 g5 hfac.1 hw1 rfl ⟨fun z => (hma z).symm, fun z => by rw [eL]; show w.2.2.2 + 1 = _; rw [(hnw z).2]⟩ (by rw [eL]; show w.2.2.1 + (w.2.2.2 + 1) ≤ _; omega) (fun z => (hnw z).1)
        · rw [if_neg hend]
          have hq : w.2.2.1 + w.2.2.2 < w.1.2.2.2 := by omega
          obtain ⟨σ2, g1, g2, g3, g4, g5, g6⟩ := row_se (q := w.2.2.1 + w.2.2.2) (y := y) hr1 (ow_new he _ _) (by omega) hq (by rw [f2]; omega)
          rw [f2] at g1 g3 g4 g5
          have eL : (rwWr (rwCp w.1 1) (w.2.2.1 + w.2.2.2) (nI y) (N 10172) cNO).2.2.2 = w.1.2.2.2 := if_neg (by show ¬ _ = w.1.2.2.2; omega)
          rw [a2]
          have hf0 : rCo N k (w.2.1 = 1) w.2.2.1 (rMa N k 1) (403 * N 10171) = w.1.2.2.2 := by have := f3 0 (by omega); rw [Nat.add_zero, Nat.add_zero] at this; rw [this, hlen]
          have hlt2 := rSe_lt (q := w.2.2.1 + w.2.2.2) (y := y) hlt1 (show N 10171 ≤ 24 by omega) (by rw [hf0]; exact hl300) (by rw [hf0]; exact hq) (by rw [f2]; omega) (by omega)
          have hP : w.2.1 = 1 := Classical.byContradiction (fun z => by have := hnw z; omega)
          exact row_add h hV hE he g6 g1 g4 g3 g5 hlt2 hw1 rfl ⟨fun z => (hma z).symm, fun z => absurd hP z⟩ (by rw [eL]; show w.2.2.1 + (w.2.2.2 + 1) ≤ _; omega) (fun z => absurd hP z)
