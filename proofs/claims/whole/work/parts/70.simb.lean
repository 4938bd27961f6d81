def flR (N : Nat → Nat) : Prop := ∀ i, i < 102 → N (10174 + i) ≤ 1
theorem rMk_fl {N : Nat → Nat} {v k q w : Nat} (hv : v ≤ 24) (hk : k < 5) (hq : q < wdN k) (h : flR N) : flR (rMk N v k q w) := fun i hi => by
  have hb := id_lt hk hq
  by_cases hc : v = 24 ∧ w ≠ 0 ∧ N (10174 + (rBg k + q)) = 1
  · rw [rMk, if_pos hc]; exact h i hi
  · by_cases h24 : v = 24 ∧ 10174 + i = 10174 + (rBg k + q)
    · rw [h24.2, (rMk_go hv hk hq hc).2.2 h24.1]; exact Nat.le_refl _
    · rw [rMk_fr (by omega) (by omega) h24]; exact h i hi
theorem rPl_fl {N : Nat → Nat} {v l : Nat} (hv : v ≤ 24) (hl : l ≤ 73) (h : flR N) : ∀ K, K ≤ 4 → flR (rPl N v l K)
  | 0, _ => rMk_fl hv (by omega) (by have := wd_dv (k := 0) (by omega) hl; simpa using this) h
  | K + 1, hK => rMk_fl hv (by omega) (wd_dv (by omega) hl) (rPl_fl hv hl h K (by omega))
theorem rSl_fl {N : Nat → Nat} {v l : Nat} (hv : v ≤ 24) (hl : l ≤ 73) (h : flR N) : ∀ K, K ≤ 5 → flR (rSl N v l K)
  | 0, _ => h
  | K + 1, hK => rMk_fl hv (by omega) (wd_dv (by omega) hl) (rSl_fl hv hl h K (by omega))
theorem rOl_fl {N : Nat → Nat} {v l : Nat} (hv : v ≤ 24) (hl : l ≤ 73) (h : flR N) : ∀ K, K ≤ 4 → flR (rOl N v l K)
  | 0, _ => h
  | K + 1, hK => by
    unfold rOl
    split
    · exact rMk_fl hv (by omega) (wd_dv (by omega) hl) (rOl_fl hv hl h K (by omega))
    · exact rOl_fl hv hl h K (by omega)
theorem flR.upd {N : Nat → Nat} {a x : Nat} (h : flR N) (ha : a < 10174) : flR (updN N a x) := fun i hi => by rw [updN_n (by omega)]; exact h i hi
theorem rPu_fl {N : Nat → Nat} {v y : Nat} (hv : v ≤ 24) (hl : N (403 * v) < 300) (h : flR N) : flR (rPu N v y) := by
  have h1 := rLv_c (N (403 * v))
  unfold rPu
  refine flR.upd (flR.upd ?_ (by omega)) (by omega)
  split
  · exact rPl_fl hv (by omega) h _ (rRt_le _)
  · exact h
theorem rSe_fl {N : Nat → Nat} {v q y : Nat} (hv : v ≤ 24) (hl : N (403 * v) ≤ 300) (hq : q < N (403 * v)) (h : flR N) : flR (rSe N v q y) := by
  have h1 := rLv_c (N (403 * v))
  have h2 := rRt_le (rLv (N (403 * v)))
  unfold rSe
  refine flR.upd ?_ (by omega)
  split
  · exact rSl_fl hv (by omega) h _ (by omega)
  · exact h
theorem rPo_fl {N : Nat → Nat} {v : Nat} (hv : v ≤ 24) (hl : N (403 * v) ≤ 300) (h : flR N) : flR (rPo N v) := by
  have h1 := rLv_c (N (403 * v) - 1)
  have h2 := rLv_c (N (403 * v) - 1 + 1)
  unfold rPo
  refine flR.upd ?_ (by omega)
  split
  · exact rOl_fl hv (by omega) h _ (rCt_le _)
  · exact h
theorem okN.ed {N N2 : Nat → Nat} {c : Nat} (h : okN N c) (hfr : frR 24 N N2) (hl : N2 (403 * 24) ≤ 300) (hM2 : N2 10172 ≤ N 10172 + 200) (hlt : ∀ j, N2 j < 2 ^ 24) : okN N2 (c + 200) := by
  obtain ⟨h1, h2, h3, h4, h5, h6⟩ := h
  have e : ∀ j, j < 9672 ∨ (10075 ≤ j ∧ j < 10172) → N2 j = N j := fun j hj => hfr j (by omega) (by omega) (by omega)
  have e71 := e 10171 (by omega)
  refine ⟨hlt, by omega, by omega, fun v hv => ?_, fun v hv => ?_, by omega⟩
  · by_cases h24 : v = 24
    · rw [h24]; exact hl
    · rw [e _ (by omega)]; exact h4 v hv
  · rw [rLen_mv (e _ (by omega)) (e _ (by omega)) (e _ (by omega)), e _ (by omega), e (403 * v) (by omega)]
    exact h5 v (by omega)
theorem ed_act {X : Xs} {N Hs Sl tx : Nat → Nat} {kept fil ty c : Nat} (h : XR X N Hs Sl tx kept fil ty c) {σ σ2 : Nat → Nat} (hV : vsR X.1.1 N σ) (h73 : N 10173 = 1) {N2 : Nat → Nat} {r2 : Rw} {cnt : Nat} (hfr : frR 24 N N2) (hr : rowR N2 24 r2 σ2) (ho : owR N2 24 r2.2.2.1 (fun k p => p < rBl (rLv r2.2.2.2) k) X.1.2.2.2.2) (hfl : flR N2) (hσ : ∀ n, n < N 10172 → σ2 n = σ n) (hmade : N2 10172 = N 10172 + cnt) (hcnt : cnt ≤ 200) (hlt : ∀ j, N2 j < 2 ^ 24) : XR (cvN X (X.1.1, X.1.2.1, N 10172 + cnt, some r2, X.1.2.2.2.2)) N2 (rRecH Hs N kept) Sl tx (rRecK kept) fil ty (c + 200) := by
  have e71 : N2 10171 = N 10171 := hfr _ (by omega) (by omega) (by omega)
  have e73 : N2 10173 = N 10173 := hfr _ (by omega) (by omega) (by omega)
  refine h.act ⟨h.1.1.trans e71.symm, hmade.symm, σ2, hV.mv (fun j hj => hfr j (by omega) (by omega) (by omega)) (fun j _ hj => hfr j (by omega) (by omega) (by omega)) e71 (by omega) hσ, Or.inr ⟨e73.trans h73, r2, rfl, hr, ho, hfl⟩⟩ (h.2.1.ed hfr ?_ (by omega) hlt)
  have := hr.1; have := hr.2.1; have := hr.2.2.1; omega
theorem ac_epu {X : Xs} {N Hs Sl tx : Nat → Nat} {kept fil ty at_ nu c : Nat} (h : XR X N Hs Sl tx kept fil ty c) (hc : c < 2 ^ 20) (x : Int32) : (cvEPu X x).1 = (rmEpu (N, Hs, Sl, tx, kept, fil, ty, at_, nu) x).1 ∧ XM (cvEPu X x).2 (rmEpu (N, Hs, Sl, tx, kept, fil, ty, at_, nu) x).2 (c + 200) := by
  obtain ⟨⟨a1, a2, σ, hV, hE⟩, hok, hrest⟩ := id h
  have hN := hok.1
  have hM := hok.2.2.2.2.2
  rcases ed_at hE with ⟨h0, he⟩ | ⟨h0, h1, r, he, hr, ho, hfl⟩
  · rw [cvEPu, he, oel_n, rmEpu, if_pos h0]; exact ⟨rfl, h.up⟩
  · by_cases hx : ¬ rVl x
    · rw [cvEPu, he, oel_s, if_pos hx, rmEpu, if_neg h0, if_pos hx]; exact ⟨rfl, h.up⟩
    · obtain ⟨y, hy, rfl⟩ := rVl_of (Classical.not_not.mp hx)
      have hl300 : r.2.2.2 ≤ 300 := by have := hr.2.1; have := hr.2.2.1; omega
      have hlen := hr.1
      rw [cvEPu, he, oel_s, if_neg hx, rmEpu, if_neg h0, if_neg hx, nI_clamp (show y < 2 ^ 31 by omega), rmEpuK, hlen]
      by_cases hf : r.2.2.2 = 300
      · rw [if_pos hf, if_pos (by omega)]; exact ⟨rfl, h.up⟩
      · rw [if_neg hf, if_neg (by omega), a2]
        have hlt3 : r.2.2.2 < 300 := by omega
        obtain ⟨σ2, g1, g2, g3, g4, g5, g6⟩ := row_pu (y := y) (hr.cp 1) (ho.cp 1) (by omega) hlt3 (cap1 hlt3) (by omega)
        have hfac := rPu_fac (x := y) hN (show 24 ≤ 24 by omega) (by rw [hlen]; exact hlt3) (by omega) (by omega)
        refine ⟨?_, ed_act h hV h1 g6 g1 g2 (rPu_fl (by omega) (by rw [hlen]; exact hlt3) hfl) g4 g3 (Nat.le_trans g5 (by omega)) hfac.1⟩
        rw [g3, nI_sub (by omega), Nat.add_sub_cancel_left]; rfl
