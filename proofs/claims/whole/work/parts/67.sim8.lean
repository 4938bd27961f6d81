theorem in_iff {x : Int32} {n : Nat} (hn : n < 2 ^ 24) : (nI 0 ≤ x ∧ x ≤ nI n - nI 1) ↔ (0 ≤ x ∧ x < nI n) := by
  constructor
  · intro z
    obtain ⟨k, hk, rfl⟩ := xin_of1 hn z
    exact ⟨z.1, (nI_ltI (by omega) (by omega)).mpr hk⟩
  · intro z
    obtain ⟨k, hk, rfl⟩ := nI_of (Int32.not_lt.mpr z.1)
    have hkn := (nI_ltI hk (by omega)).mp z.2
    refine ⟨z.1, ?_⟩
    rw [nI_sub (by omega)]
    exact (nI_leI hk (by omega)).mpr (by omega)
theorem ac_set {X : Xs} {N Hs Sl tx : Nat → Nat} {kept fil ty at_ nu c : Nat} (h : XR X N Hs Sl tx kept fil ty c) (hc : c < 2 ^ 20) (v b x : Int32) : (cvSet X v b x).1 = (rmSet (N, Hs, Sl, tx, kept, fil, ty, at_, nu) v b x).1 ∧ XM (cvSet X v b x).2 (rmSet (N, Hs, Sl, tx, kept, fil, ty, at_, nu) v b x).2 (c + 200) := by
  obtain ⟨⟨a1, a2, σ, hV, hE⟩, hok, hrest⟩ := id h
  have hN := hok.1
  have hM := hok.2.2.2.2.2
  rcases no_at hV hok v with ⟨hn, hr⟩ | ⟨k, w, rfl, hk24, hke, hw, hr, _, hvw, hcl⟩
  · rw [cvSet, hn, oel_n, rmSet, if_pos (Or.inl hr)]; exact ⟨rfl, h.up⟩
  · obtain ⟨b1, b2, b3, b4, b5, b6, b7⟩ := id hvw
    have hlen : N (403 * k) = w.1.2.2.2 := b1.1
    have hl300 : w.1.2.2.2 ≤ 300 := by have := b1.2.1; have := b1.2.2.1; omega
    have he24 := hok.2.2.1
    have hin := in_iff (x := b) (n := w.2.2.2) (by omega)
    by_cases hb : ¬ (0 ≤ b ∧ b < nI w.2.2.2)
    · rw [cvSet, hw, oel_s, if_pos hb, rmSet, if_pos (Or.inr (by rw [hcl, ← b5]; exact fun z => hb (hin.mp z)))]; exact ⟨rfl, h.up⟩
    have hb2 : ¬ (rNo N (nI k) ∨ ¬ (nI 0 ≤ b ∧ b ≤ nI (rLen N (nI k).toNatClampNeg) - nI 1)) := fun z => z.elim hr (fun y => by rw [hcl, ← b5] at y; exact hb (fun u => y (hin.mpr u)))
    by_cases hx : ¬ rVl x
    · rw [cvSet, hw, oel_s, if_neg hb, if_pos hx, rmSet, if_neg hb2, if_pos hx]; exact ⟨rfl, h.up⟩
    · obtain ⟨y, hy, rfl⟩ := rVl_of (Classical.not_not.mp hx)
      obtain ⟨hb0, hb1⟩ := Classical.not_not.mp hb
      obtain ⟨j, hj, rfl⟩ := nI_of (Int32.not_lt.mpr hb0)
      have hjn := (nI_ltI hj (by omega)).mp hb1
      have hyc : (nI y).toNatClampNeg = y := nI_clamp (by omega)
      have hjc : (nI j).toNatClampNeg = j := nI_clamp hj
      rw [cvSet, hw, oel_s, if_neg hb, if_neg hx, rmSet, if_neg hb2, if_neg hx, hcl, hyc, hjc, rmSetK, ← b4, ← b2]
      by_cases hf : N 10171 = 24
      · rw [if_pos hf, if_pos (by omega)]; exact ⟨rfl, h.up⟩
      · rw [if_neg hf, if_neg (by omega), a1]
        refine ⟨rfl, ?_⟩
        have he : N 10171 < 24 := by omega
        obtain ⟨f1, f2, f3, f4, f5, f6, f7, f8⟩ := rCo_f (f := k) (fi := w.2.2.1) (ma := rMa N k 0) (P := w.2.1 = 1) he
        have hr1 := rCo_row (P := w.2.1 = 1) (fi := w.2.2.1) (ma := rMa N k 0) he b1 1
        have hfi : rCo N k (w.2.1 = 1) w.2.2.1 (rMa N k 0) (10075 + 4 * k + 2) = w.2.2.1 := by rw [f8 _ (by omega) (by omega) (by omega), ← b4]
        have hma : w.2.1 = 1 → rMa N k 0 = w.2.2.2 := fun z => by rw [rMa, if_pos (by rw [← b2]; exact z), ← b5]; rfl
        have hnw : ¬ w.2.1 = 1 → w.2.2.1 = 0 ∧ w.2.2.2 = w.1.2.2.2 := fun z => ⟨b7 (by omega), by rw [b5, rLen, if_neg (by rw [← b2]; exact z), hlen]⟩
        have hrc : rMa N k 0 ≤ 301 := by
          by_cases z : w.2.1 = 1
          · rw [hma z]; omega
          · rw [rMa, if_neg (by rw [← b2]; exact z)]; omega
        have hlt1 := rCo_lt (f := k) (P := w.2.1 = 1) hN he (show w.2.2.1 < 2 ^ 24 by omega) (show rMa N k 0 < 2 ^ 24 by omega)
        have hw1 : w.2.1 = bN (w.2.1 = 1) := by
          by_cases z : w.2.1 = 1
          · rw [bN_t z]; exact z
          · rw [bN_f z]; omega
        have hq : w.2.2.1 + j < w.1.2.2.2 := by omega
        obtain ⟨σ2, g1, g2, g3, g4, g5, g6⟩ := row_se (q := w.2.2.1 + j) (y := y) hr1 (ow_new he _ _) (by omega) hq (by rw [f2]; omega)
        rw [f2] at g1 g3 g4 g5
        have eL : (rwWr (rwCp w.1 1) (w.2.2.1 + j) (nI y) (N 10172) cNO).2.2.2 = w.1.2.2.2 := if_neg (by show ¬ _ = w.1.2.2.2; omega)
        rw [a2, hfi]
        have hf0 : rCo N k (w.2.1 = 1) w.2.2.1 (rMa N k 0) (403 * N 10171) = w.1.2.2.2 := by have := f3 0 (by omega); rw [Nat.add_zero, Nat.add_zero] at this; rw [this, hlen]
        have hlt2 := rSe_lt (q := w.2.2.1 + j) (y := y) hlt1 (show N 10171 ≤ 24 by omega) (by rw [hf0]; exact hl300) (by rw [hf0]; exact hq) (by rw [f2]; omega) (by omega)
        exact row_add h hV hE he g6 g1 g4 g3 g5 hlt2 hw1 rfl ⟨fun z => (hma z).symm, fun z => by rw [eL]; exact (hnw z).2⟩ (by rw [eL]; exact b6) (fun z => (hnw z).1)
theorem frR_rf {v : Nat} {N : Nat → Nat} : frR v N N := fun _ _ _ _ => rfl
theorem ac_pop {X : Xs} {N Hs Sl tx : Nat → Nat} {kept fil ty at_ nu c : Nat} (h : XR X N Hs Sl tx kept fil ty c) (hc : c < 2 ^ 20) (v : Int32) : (cvPop X v).1 = (rmPop (N, Hs, Sl, tx, kept, fil, ty, at_, nu) v).1 ∧ XM (cvPop X v).2 (rmPop (N, Hs, Sl, tx, kept, fil, ty, at_, nu) v).2 (c + 200) := by
  obtain ⟨⟨a1, a2, σ, hV, hE⟩, hok, hrest⟩ := id h
  have hN := hok.1
  have hM := hok.2.2.2.2.2
  rcases no_at hV hok v with ⟨hn, hr⟩ | ⟨k, w, rfl, hk24, hke, hw, hr, _, hvw, hcl⟩
  · rw [cvPop, hn, oel_n, rmPop, if_pos hr]; exact ⟨rfl, h.up⟩
  · obtain ⟨b1, b2, b3, b4, b5, b6, b7⟩ := id hvw
    have hlen : N (403 * k) = w.1.2.2.2 := b1.1
    have hl300 : w.1.2.2.2 ≤ 300 := by have := b1.2.1; have := b1.2.2.1; omega
    have he24 := hok.2.2.1
    rw [cvPop, hw, oel_s, rmPop, if_neg hr, hcl, rmPopK, ← b4, ← b5, ← b2]
    by_cases h0 : w.2.2.2 = 0
    · rw [if_pos h0, if_pos h0]; exact ⟨rfl, h.up⟩
    · rw [if_neg h0, if_neg h0]
      by_cases hf : N 10171 = 24
      · rw [if_pos hf, if_pos (by omega)]; exact ⟨rfl, h.up⟩
      · rw [if_neg hf, if_neg (by omega), a1]
        have he : N 10171 < 24 := by omega
        by_cases hwi : w.2.1 = 0
        · rw [if_pos hwi, if_neg (by omega)]
          refine ⟨rfl, ?_⟩
          have hnw : w.2.2.1 = 0 ∧ w.2.2.2 = w.1.2.2.2 := ⟨b7 hwi, by rw [b5, rLen, if_neg (by rw [← b2]; omega), hlen]⟩
          obtain ⟨f1, f2, f3, f4, f5, f6, f7, f8⟩ := rCo_f (f := k) (fi := 0) (ma := 0) (P := False) he
          have hr1 := rCo_row (P := False) (fi := 0) (ma := 0) he b1 0
          have hlt1 := rCo_lt (f := k) (P := False) hN he (show 0 < 2 ^ 24 by omega) (show 0 < 2 ^ 24 by omega)
          obtain ⟨σ2, g1, g2, g3, g4, g5, g6⟩ := row_po hr1 (ow_new he _ _) (by omega) (show 1 ≤ w.1.2.2.2 by omega) (by rw [f2]; omega)
          rw [f2] at g1 g3 g4 g5
          have hf0 : rCo N k False 0 0 (403 * N 10171) = w.1.2.2.2 := by have := f3 0 (by omega); rw [Nat.add_zero, Nat.add_zero] at this; rw [this, hlen]
          have hlt2 := rPo_lt hlt1 (show N 10171 ≤ 24 by omega) (by rw [hf0]; exact hl300) (by rw [f2]; omega)
          rw [a2]
          exact row_add h hV hE he g6 g1 g4 g3 g5 hlt2 (by rw [bN_f (fun z => z)]; exact hwi) hnw.1 ⟨fun z => z.elim, fun _ => by show w.2.2.2 - 1 = w.1.2.2.2 - 1; rw [hnw.2]⟩ (by show w.2.2.1 + (w.2.2.2 - 1) ≤ w.1.2.2.2 - 1; omega) (fun _ => rfl)
        · have hw1' : w.2.1 = 1 := by omega
          rw [if_neg hwi, if_pos hw1']
          refine ⟨rfl, ?_⟩
          obtain ⟨f1, f2, f3, f4, f5, f6, f7, f8⟩ := rCo_f (f := k) (fi := w.2.2.1) (ma := w.2.2.2 - 1) (P := True) he
          have hr1 : rowR (rCo N k True w.2.2.1 (w.2.2.2 - 1)) (N 10171) w.1 σ := b1.mv f3 (by rw [f2]; exact Nat.le_refl _) (fun _ _ => rfl)
          have hlt1 := rCo_lt (f := k) (P := True) hN he (show w.2.2.1 < 2 ^ 24 by omega) (show w.2.2.2 - 1 < 2 ^ 24 by omega)
          rw [a2]
          exact row_add (cnt := 0) h hV hE he frR_rf hr1 (fun _ _ => rfl) f2 (by omega) hlt1 (by rw [bN_t trivial]; exact hw1') rfl ⟨fun _ => rfl, fun z => absurd trivial z⟩ (by show w.2.2.1 + (w.2.2.2 - 1) ≤ w.1.2.2.2; omega) (fun z => absurd trivial z)
theorem ac_win {X : Xs} {N Hs Sl tx : Nat → Nat} {kept fil ty at_ nu c : Nat} (h : XR X N Hs Sl tx kept fil ty c) (hc : c < 2 ^ 20) (v b d : Int32) : (cvWin X v b d).1 = (rmWin (N, Hs, Sl, tx, kept, fil, ty, at_, nu) v b d).1 ∧ XM (cvWin X v b d).2 (rmWin (N, Hs, Sl, tx, kept, fil, ty, at_, nu) v b d).2 (c + 200) := by
  obtain ⟨⟨a1, a2, σ, hV, hE⟩, hok, hrest⟩ := id h
  have hN := hok.1
  have hM := hok.2.2.2.2.2
  rcases no_at hV hok v with ⟨hn, hr⟩ | ⟨k, w, rfl, hk24, hke, hw, hr, _, hvw, hcl⟩
  · rw [cvWin, hn, oel_n, rmWin, if_pos hr]; exact ⟨rfl, h.up⟩
  · obtain ⟨b1, b2, b3, b4, b5, b6, b7⟩ := id hvw
    have hl300 : w.1.2.2.2 ≤ 300 := by have := b1.2.1; have := b1.2.2.1; omega
    have he24 := hok.2.2.1
    rw [cvWin, hw, oel_s, rmWin, if_neg hr, hcl, ← b5]
    by_cases hb : b < 0 ∨ nI w.2.2.2 < b ∨ d < 0 ∨ nI w.2.2.2 - b < d
    · rw [if_pos hb, if_pos]
      · exact ⟨rfl, h.up⟩
      · rcases hb with z | z | z | z
        · exact Or.inl (fun y => le_ge32 z y.1)
        · exact Or.inl (fun y => le_ge32 z y.2)
        · exact Or.inr (fun y => le_ge32 z y.1)
        · exact Or.inr (fun y => le_ge32 z y.2)
    · have hb2 : ¬ (¬ (nI 0 ≤ b ∧ b ≤ nI w.2.2.2) ∨ ¬ (nI 0 ≤ d ∧ d ≤ nI w.2.2.2 - b)) := fun z => z.elim (fun y => y ⟨Int32.not_lt.mp (fun u => hb (Or.inl u)), Int32.not_lt.mp (fun u => hb (Or.inr (Or.inl u)))⟩) (fun y => y ⟨Int32.not_lt.mp (fun u => hb (Or.inr (Or.inr (Or.inl u)))), Int32.not_lt.mp (fun u => hb (Or.inr (Or.inr (Or.inr u))))⟩)
      rw [if_neg hb, if_neg hb2]
      obtain ⟨j, hj, rfl⟩ := nI_of (fun u => hb (Or.inl u))
      obtain ⟨n, hn, rfl⟩ := nI_of (fun u => hb (Or.inr (Or.inr (Or.inl u))))
      have hjm : j ≤ w.2.2.2 := (nI_leI hj (by omega)).mp (Int32.not_lt.mp (fun u => hb (Or.inr (Or.inl u))))
      have hnm : n ≤ w.2.2.2 - j := by
        have z := Int32.not_lt.mp (fun u => hb (Or.inr (Or.inr (Or.inr u))))
        rw [nI_sub hjm] at z
        exact (nI_leI hn (by omega)).mp z
      rw [nI_clamp hj, nI_clamp hn, rmWinK, ← b4]
      by_cases hf : N 10171 = 24
      · rw [if_pos hf, if_pos (by omega)]; exact ⟨rfl, h.up⟩
      · rw [if_neg hf, if_neg (by omega), a1, a2]
        refine ⟨rfl, ?_⟩
        have he : N 10171 < 24 := by omega
        obtain ⟨f1, f2, f3, f4, f5, f6, f7, f8⟩ := rCo_f (f := k) (fi := w.2.2.1 + j) (ma := n) (P := True) he
        have hr1 : rowR (rCo N k True (w.2.2.1 + j) n) (N 10171) w.1 σ := b1.mv f3 (by rw [f2]; exact Nat.le_refl _) (fun _ _ => rfl)
        have hlt1 := rCo_lt (f := k) (P := True) hN he (show w.2.2.1 + j < 2 ^ 24 by omega) (show n < 2 ^ 24 by omega)
        exact row_add (cnt := 0) h hV hE he frR_rf hr1 (fun _ _ => rfl) f2 (by omega) hlt1 (by rw [bN_t trivial]) rfl ⟨fun _ => rfl, fun z => absurd trivial z⟩ (by show w.2.2.1 + j + n ≤ w.1.2.2.2; omega) (fun z => absurd trivial z)
