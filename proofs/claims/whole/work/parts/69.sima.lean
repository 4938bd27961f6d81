/-! ===== acts of the edit, of the text, of the history ===== -/
theorem ed_at {X : Xs} {N : Nat → Nat} {σ : Nat → Nat} (hE : edR X.1.2.2.2.1 X.1.2.2.2.2 N σ) : (N 10173 = 0 ∧ X.1.2.2.2.1 = none) ∨ (¬ N 10173 = 0 ∧ N 10173 = 1 ∧ ∃ r, X.1.2.2.2.1 = some r ∧ rowR N 24 r σ ∧ owR N 24 r.2.2.1 (fun k p => p < rBl (rLv r.2.2.2) k) X.1.2.2.2.2 ∧ ∀ i, i < 102 → N (10174 + i) ≤ 1) := hE.imp id (fun ⟨a, b⟩ => ⟨by omega, a, b⟩)
theorem okN.mv3 {N N2 : Nat → Nat} {c d : Nat} (h : okN N c) (hN : ∀ j, j < 10173 → N2 j = N j) (hlt : ∀ j, N2 j < 2 ^ 24) (hcd : c ≤ d) : okN N2 d := h.mv4 (fun j hj _ => hN j hj) hlt hcd
theorem ac_aba {X : Xs} {N Hs Sl tx : Nat → Nat} {kept fil ty at_ nu c : Nat} (h : XR X N Hs Sl tx kept fil ty c) : (cvAba X).1 = (rmAba (N, Hs, Sl, tx, kept, fil, ty, at_, nu)).1 ∧ XM (cvAba X).2 (rmAba (N, Hs, Sl, tx, kept, fil, ty, at_, nu)).2 (c + 200) := by
  obtain ⟨⟨a1, a2, σ, hV, hE⟩, hok, hrest⟩ := id h
  have hN := hok.1
  rcases ed_at hE with ⟨h0, he⟩ | ⟨h0, h1, r, he, hr, ho, hfl⟩
  · rw [cvAba, he, oel_n, rmAba, if_pos h0]; exact ⟨rfl, h.up⟩
  · rw [cvAba, he, oel_s, rmAba, if_neg h0]
    have e71 : updN N 10173 0 10171 = N 10171 := updN_n (by omega)
    have e72 : updN N 10173 0 10172 = N 10172 := updN_n (by omega)
    refine ⟨by rw [updN_n (by omega), hr.1], h.act ⟨a1.trans e71.symm, a2.trans e72.symm, σ, hV.mv (fun j hj => updN_n (by omega)) (fun j _ hj => updN_n (by omega)) e71 (Nat.le_of_eq e72.symm) (fun _ _ => rfl), Or.inl ⟨(updN_s : updN N 10173 0 10173 = 0), rfl⟩⟩ (hok.mv3 (fun j hj => updN_n (by omega)) (updN_lt hN (by omega)) (by omega))⟩
theorem ac_fin {X : Xs} {N Hs Sl tx : Nat → Nat} {kept fil ty at_ nu c : Nat} (h : XR X N Hs Sl tx kept fil ty c) : (cvFin X).1 = (rmFin (N, Hs, Sl, tx, kept, fil, ty, at_, nu)).1 ∧ XM (cvFin X).2 (rmFin (N, Hs, Sl, tx, kept, fil, ty, at_, nu)).2 (c + 200) := by
  obtain ⟨⟨a1, a2, σ, hV, hE⟩, hok, hrest⟩ := id h
  have hN := hok.1
  have he24 := hok.2.2.1
  rcases ed_at hE with ⟨h0, he⟩ | ⟨h0, h1, r, he, hr, ho, hfl⟩
  · rw [cvFin, he, oel_n, rmFin, if_pos h0]; exact ⟨rfl, h.up⟩
  · rw [cvFin, he, oel_s, rmFin, if_neg h0]
    by_cases hf : N 10171 = 24
    · rw [if_pos hf, if_pos (by omega)]; exact ⟨rfl, h.up⟩
    · rw [if_neg hf, if_neg (by omega), a1, a2]
      have he : N 10171 < 24 := by omega
      have e71 : updN N 10173 0 10171 = N 10171 := updN_n (by omega)
      have e72 : updN N 10173 0 10172 = N 10172 := updN_n (by omega)
      have hl300 : r.2.2.2 ≤ 300 := by have := hr.2.1; have := hr.2.2.1; omega
      obtain ⟨f1, f2, f3, f4, f5, f6, f7, f8⟩ := rCo_f (N := updN N 10173 0) (f := 24) (fi := 0) (ma := 0) (P := False) (by rw [e71]; exact he)
      rw [e71] at f1 f3 f4 f5 f6 f7 f8
      rw [e72] at f2
      have hr1 : rowR (rCo (updN N 10173 0) 24 False 0 0) (N 10171) r σ := hr.mv (fun i hi => (f3 i hi).trans (updN_n (by omega))) (Nat.le_of_eq f2.symm) (fun _ _ => rfl)
      have hlt1 := rCo_lt (N := updN N 10173 0) (f := 24) (P := False) (updN_lt hN (by omega)) (by rw [e71]; exact he) (show 0 < 2 ^ 24 by omega) (show 0 < 2 ^ 24 by omega)
      refine ⟨by rw [e71], act_add (N2 := rCo (updN N 10173 0) 24 False 0 0) (σ2 := σ) h hV he (fun j a b d e g => (f8 j b e g).trans (updN_n d)) f1 (Nat.le_of_eq f2.symm) (by omega) f4 ⟨hr1, ?_, show 0 < 2 by omega, f6.symm, ?_, ?_, fun _ => rfl⟩ (fun _ _ => rfl) hlt1 (Or.inl ⟨?_, rfl⟩) f2.symm⟩
      · rw [f5, bN_f (fun z => z)]
      · show r.2.2.2 = rLen _ _
        rw [rLen, f5, bN_f (fun z => z), if_neg (by omega), hr1.1]
      · show 0 + r.2.2.2 ≤ r.2.2.2; omega
      · rw [f8 _ (by omega) (by omega) (by omega), updN_s]
