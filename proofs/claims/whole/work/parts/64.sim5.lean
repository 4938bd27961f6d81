/-! ===== acts ===== -/
theorem no_at {vs : Nat → Option Vw} {N : Nat → Nat} {σ : Nat → Nat} {c : Nat} (hV : vsR vs N σ) (hok : okN N c) (x : Int32) : (vwA vs x = none ∧ rNo N x) ∨ ∃ k w, x = nI k ∧ k < 24 ∧ k < N 10171 ∧ vwA vs x = some w ∧ ¬ rNo N x ∧ vs k = some w ∧ vwR N k w σ ∧ x.toNatClampNeg = k := by
  have he := hok.2.1
  have he2 := hok.2.2.1
  unfold vwA
  by_cases hx : x < 0 ∨ nI 24 ≤ x
  · rw [if_pos hx]
    refine Or.inl ⟨rfl, Or.inl (fun z => ?_)⟩
    rcases hx with hx | hx
    · exact absurd z.1 (Int32.not_le.mpr hx)
    · have h1 := Int32.le_trans hx z.2
      have h2 := (nI_leI (by decide) (by omega)).mp h1
      omega
  · rw [if_neg hx]
    obtain ⟨k, hk, rfl⟩ := nI_of (fun z => hx (Or.inl z))
    have hk24 : k < 24 := Nat.not_le.mp (fun z => hx (Or.inr ((nI_leI (by decide) hk).mpr z)))
    have hc := nI_clamp hk
    rw [hc]
    rcases hV k hk24 with ⟨h1, h2, w, h3, h4⟩ | ⟨h1, h2⟩
    · refine Or.inr ⟨k, w, rfl, hk24, h1, h3, ?_, h3, h4, rfl⟩
      rintro (z | z)
      · exact z ⟨(nI_leI (by decide) hk).mpr (Nat.zero_le _), (nI_leI hk (by omega)).mpr (by omega)⟩
      · rw [hc] at z; omega
    · refine Or.inl ⟨h2, ?_⟩
      rcases h1 with h1 | h1
      · exact Or.inl (fun z => by have := (nI_leI hk (by omega)).mp z.2; omega)
      · exact Or.inr (by rw [hc]; exact h1)
theorem rRec_at {Hs N : Nat → Nat} {kept : Nat} (hk : kept ≤ 4) {j i : Nat} (hj : j < rRecK kept) (hi : i < 10276) : rRecH Hs N kept (10276 * j + i) = if j + 1 = rRecK kept then N i else if kept < 4 then Hs (10276 * j + i) else Hs (10276 * (j + 1) + i) := by
  unfold rRecK at hj ⊢
  unfold rRecH recB
  by_cases h4 : kept = 4
  · rw [if_pos h4] at hj ⊢
    rw [if_pos h4, if_pos h4]
    by_cases hj3 : j + 1 = 4
    · rw [if_pos (by omega), if_pos hj3]
      exact congrArg N (by omega)
    · rw [if_neg (by omega), if_neg hj3, if_neg (by omega)]
      unfold recA
      rw [if_pos (by omega)]
      exact congrArg Hs (by omega)
  · rw [if_neg h4] at hj ⊢
    rw [if_neg h4, if_neg h4]
    by_cases hj3 : j + 1 = kept + 1
    · rw [if_pos (by omega), if_pos hj3]
      exact congrArg N (by omega)
    · rw [if_neg (by omega), if_neg hj3, if_pos (by omega)]
theorem recA_lt {Hs : Nat → Nat} (h1 : ∀ j, Hs j < 2 ^ 24) (i j : Nat) : recA Hs i j < 2 ^ 24 := by
  unfold recA
  by_cases h : j < i
  · rw [if_pos h]; exact h1 _
  · rw [if_neg h]; exact h1 _
theorem rRec_lt {Hs N : Nat → Nat} {kept : Nat} (h1 : ∀ j, Hs j < 2 ^ 24) (h2 : ∀ j, N j < 2 ^ 24) (j : Nat) : rRecH Hs N kept j < 2 ^ 24 := by
  unfold rRecH
  have key : ∀ (A : Nat → Nat) (k : Nat), (∀ j, A j < 2 ^ 24) → recB A N k 10276 j < 2 ^ 24 := fun A k hA => by
    unfold recB
    by_cases h : 10276 * k ≤ j ∧ j < 10276 * k + 10276
    · rw [if_pos h]; exact h2 _
    · rw [if_neg h]; exact hA _
  by_cases h4 : kept = 4
  · rw [if_pos h4]; exact key _ _ (recA_lt h1 _)
  · rw [if_neg h4]; exact key _ _ h1
/-- an act: the state that was is recorded, and another one comes -/
theorem XR.act {X : Xs} {N Hs Sl tx : Nat → Nat} {kept fil ty c : Nat} (h : XR X N Hs Sl tx kept fil ty c) {a : As} {N2 : Nat → Nat} (hs : stR a N2) (hok : okN N2 (c + 200)) : XR (cvN X a) N2 (rRecH Hs N kept) Sl tx (rRecK kept) fil ty (c + 200) := by
  obtain ⟨h1, h2, h3, h4, h5, h6, h7, h8, h9, h10, h11, h12, h13, h14⟩ := h
  refine ⟨hs, hok, h3, h4, fun z => ⟨(h5 z).1, (h5 z).2.mv (fun _ _ => rfl) h14 (by omega)⟩, ?_, ?_, fun j hj => ?_, h9, h10, h11, h12, rRec_lt h13 h2.1, h14⟩
  · show rmbM X.2.2.2.2.1 = rRecK kept
    rw [h6]
    unfold rmbM rRecK
    split <;> split <;> omega
  · unfold rRecK; split <;> omega
  · show stR (rmbH X.2.2.2.1 X.2.2.2.2.1 X.1 j) _ ∧ _
    have hat : ∀ i, i < 10276 → rRecH Hs N kept (10276 * j + i) = _ := fun i hi => rRec_at h7 hj hi
    rw [h6]
    unfold rRecK at hj hat
    unfold rmbH
    by_cases h4k : kept < 4
    · rw [if_neg (show ¬ kept = 4 by omega)] at hj hat
      rw [if_pos h4k]
      unfold upC
      by_cases hjk : j = kept
      · rw [if_pos hjk]
        have e : ∀ i, i < 10276 → rRecH Hs N kept (10276 * j + i) = N i := fun i hi => by rw [hat i hi, if_pos (by omega)]
        exact ⟨h1.mv e, h2.mv e (fun _ => rRec_lt h13 h2.1 _) (by omega)⟩
      · rw [if_neg hjk]
        have e : ∀ i, i < 10276 → rRecH Hs N kept (10276 * j + i) = Hs (10276 * j + i) := fun i hi => by rw [hat i hi, if_neg (by omega), if_pos h4k]
        have h8j := h8 j (by omega)
        exact ⟨h8j.1.mv e, h8j.2.mv e (fun _ => rRec_lt h13 h2.1 _) (by omega)⟩
    · rw [if_pos (show kept = 4 by omega)] at hj hat
      rw [if_neg h4k]
      show stR (if j = 3 then X.1 else X.2.2.2.1 (j + 1)) _ ∧ _
      by_cases hj3 : j = 3
      · rw [if_pos hj3]
        have e : ∀ i, i < 10276 → rRecH Hs N kept (10276 * j + i) = N i := fun i hi => by rw [hat i hi, if_pos (by omega)]
        exact ⟨h1.mv e, h2.mv e (fun _ => rRec_lt h13 h2.1 _) (by omega)⟩
      · rw [if_neg hj3]
        have e : ∀ i, i < 10276 → rRecH Hs N kept (10276 * j + i) = Hs (10276 * (j + 1) + i) := fun i hi => by rw [hat i hi, if_neg (by omega), if_neg h4k]
        have h8j := h8 (j + 1) (by omega)
        exact ⟨h8j.1.mv e, h8j.2.mv e (fun _ => rRec_lt h13 h2.1 _) (by omega)⟩
theorem XR.up {X : Xs} {N Hs Sl tx : Nat → Nat} {kept fil ty c : Nat} (h : XR X N Hs Sl tx kept fil ty c) : XR X N Hs Sl tx kept fil ty (c + 200) := by
  obtain ⟨h1, h2, h3, h4, h5, h6, h7, h8, h9, h10, h11, h12, h13, h14⟩ := h
  exact ⟨h1, h2.mv (fun _ _ => rfl) h2.1 (by omega), h3, h4, fun z => ⟨(h5 z).1, (h5 z).2.mv (fun _ _ => rfl) h14 (by omega)⟩, h6, h7, fun j hj => ⟨(h8 j hj).1, (h8 j hj).2.mv (fun _ _ => rfl) (fun _ => h13 _) (by omega)⟩, h9, h10, h11, h12, h13, h14⟩
