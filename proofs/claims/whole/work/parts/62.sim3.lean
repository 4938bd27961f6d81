/-! ===== whole rows ===== -/
def rowR (N : Nat → Nat) (v : Nat) (r : Rw) (σ : Nat → Nat) : Prop := N (403 * v) = r.2.2.2 ∧ r.2.2.2 ≤ r.1 ∧ r.1 ≤ 300 ∧ (∀ j, j < r.2.2.2 → r.2.1 j = nI (N (403 * v + 1 + j))) ∧ slR N v r.2.2.1 (fun k p => p < rBl (rLv r.2.2.2) k) σ
theorem slR.mv {N N2 : Nat → Nat} {v v2 : Nat} {nums : Nat → Int32} {U : Nat → Nat → Prop} {σ σ2 : Nat → Nat} (h : slR N v nums U σ) (hN : ∀ i, 301 ≤ i → i < 403 → N2 (403 * v2 + i) = N (403 * v + i)) (hM : N 10172 ≤ N2 10172) (hσ : ∀ n, n < N 10172 → σ2 n = σ n) : slR N2 v2 nums U σ2 := fun k p hk hp => by
  have hb := id_lt hk hp
  have e : N2 (403 * v2 + 301 + (rBg k + p)) = N (403 * v + 301 + (rBg k + p)) := by
    rw [Nat.add_assoc, hN _ (by omega) (by omega), Nat.add_assoc]
  rcases h k p hk hp with ⟨h1, h2, h3, h4⟩ | h1
  · exact Or.inl ⟨h1, by rw [e]; omega, by rw [e]; exact h3, by rw [e, hσ _ h2]; exact h4⟩
  · exact Or.inr h1
theorem owR.mv {N N2 : Nat → Nat} {v : Nat} {nums : Nat → Int32} {U : Nat → Nat → Prop} {fo : Int32} (h : owR N v nums U fo) (hM : N 10172 ≤ N2 10172) (hN : v = 24 → ∀ i, i < 102 → N2 (10174 + i) = N (10174 + i)) : owR N2 v nums U fo := ⟨h.1, fun hv => by
  obtain ⟨⟨f0, a, b⟩, h2⟩ := h.2 hv
  exact ⟨⟨f0, a, by omega⟩, fun k p hk hp hU => by rw [hN hv _ (id_lt hk hp)]; exact h2 k p hk hp hU⟩⟩
theorem rowR.mv {N N2 : Nat → Nat} {v v2 : Nat} {r : Rw} {σ σ2 : Nat → Nat} (h : rowR N v r σ) (hN : ∀ i, i < 403 → N2 (403 * v2 + i) = N (403 * v + i)) (hM : N 10172 ≤ N2 10172) (hσ : ∀ n, n < N 10172 → σ2 n = σ n) : rowR N2 v2 r σ2 := by
  obtain ⟨h1, h2, h3, h4, h5⟩ := h
  refine ⟨?_, h2, h3, fun j hj => ?_, h5.mv (fun i _ hi => hN i hi) hM hσ⟩
  · have := hN 0 (by omega); rw [Nat.add_zero, Nat.add_zero] at this; rw [this]; exact h1
  · rw [h4 j hj, Nat.add_assoc (403 * v2), hN (1 + j) (by omega), Nat.add_assoc]
theorem capN_ge {n m : Nat} (h : n ≤ 300) : n ≤ capN (n + m) := by unfold capN; split <;> omega
theorem rowR.cp {N : Nat → Nat} {v : Nat} {r : Rw} {σ : Nat → Nat} (h : rowR N v r σ) (mo : Nat) : rowR N v (rwCp r mo) σ := by
  obtain ⟨h1, h2, h3, h4, h5⟩ := h
  refine ⟨h1, capN_ge (show r.2.2.2 ≤ 300 by omega), capN_le _, fun j hj => ?_, fun k p hk hp => ?_⟩
  · show cpI (fun _ => 0) r.2.1 r.2.2.2 j = _
    exact (if_pos hj).trans (h4 j hj)
  · have e : (rwCp r mo).2.2.1 (lvN k + p) = r.2.2.1 (lvN k + p) := if_pos (sl_lt hk hp)
    rw [e]
    exact h5 k p hk hp
theorem owR.cp {N : Nat → Nat} {v : Nat} {r : Rw} {U : Nat → Nat → Prop} {fo : Int32} (h : owR N v r.2.2.1 U fo) (mo : Nat) : owR N v (rwCp r mo).2.2.1 U fo := ⟨h.1, fun hv => ⟨(h.2 hv).1, fun k p hk hp hU => by
  have e : (rwCp r mo).2.2.1 (lvN k + p) = r.2.2.1 (lvN k + p) := if_pos (sl_lt hk hp)
  rw [e]
  exact (h.2 hv).2 k p hk hp hU⟩⟩
/-- what a row's act leaves alone -/
def frR (v : Nat) (N N2 : Nat → Nat) : Prop := ∀ j, j ≠ 10172 → ¬ (403 * v ≤ j ∧ j < 403 * v + 403) → ¬ (v = 24 ∧ 10174 ≤ j ∧ j < 10276) → N2 j = N j
def frI (v : Nat) (N N2 : Nat → Nat) : Prop := ∀ j, j ≠ 10172 → ¬ (403 * v + 301 ≤ j ∧ j < 403 * v + 403) → ¬ (v = 24 ∧ 10174 ≤ j ∧ j < 10276) → N2 j = N j
theorem rMk_frI {N : Nat → Nat} {v k q w : Nat} (hk : k < 5) (hq : q < wdN k) : frI v N (rMk N v k q w) := fun j h1 h2 h3 => by
  have hb := id_lt hk hq
  exact rMk_fr (by omega) h1 (by omega)
theorem frI.tr {v : Nat} {A B D : Nat → Nat} (h1 : frI v A B) (h2 : frI v B D) : frI v A D := fun j a b d => (h2 j a b d).trans (h1 j a b d)
theorem rPl_frI {N : Nat → Nat} {v l : Nat} (hl : l ≤ 73) : ∀ K, K ≤ 4 → frI v N (rPl N v l K)
  | 0, _ => rMk_frI (by omega) (by have := wd_dv (k := 0) (by omega) hl; simpa using this)
  | K + 1, hK => (rPl_frI hl K (by omega)).tr (rMk_frI (by omega) (wd_dv (by omega) hl))
theorem rSl_frI {N : Nat → Nat} {v l : Nat} (hl : l ≤ 73) : ∀ K, K ≤ 5 → frI v N (rSl N v l K)
  | 0, _ => fun _ _ _ _ => rfl
  | K + 1, hK => (rSl_frI hl K (by omega)).tr (rMk_frI (by omega) (wd_dv (by omega) hl))
theorem rOl_frI {N : Nat → Nat} {v l : Nat} (hl : l ≤ 73) : ∀ K, K ≤ 4 → frI v N (rOl N v l K)
  | 0, _ => fun _ _ _ _ => rfl
  | K + 1, hK => by
    unfold rOl
    split
    · exact (rOl_frI hl K (by omega)).tr (rMk_frI (by omega) (wd_dv (by omega) hl))
    · exact rOl_frI hl K (by omega)
theorem rLv_c (n : Nat) : (n = 0 ∧ rLv n = 0) ∨ (0 < n ∧ rLv n = (n - 1) / 4) := by
  unfold rLv
  by_cases h : n = 0
  · rw [if_pos h]; exact Or.inl ⟨h, rfl⟩
  · rw [if_neg h]; exact Or.inr ⟨by omega, rfl⟩
theorem owR.frI {N N2 : Nat → Nat} {v : Nat} {nums : Nat → Int32} {U : Nat → Nat → Prop} {fo : Int32} (h : owR N v nums U fo) {a x : Nat} (e : N2 = updN N a x) (ha : a < 10172) : owR N2 v nums U fo := by
  subst e
  refine h.mv (by rw [updN_n (by omega)]; exact Nat.le_refl _) (fun _ i hi => updN_n (by omega))
theorem row_pu {N : Nat → Nat} {v : Nat} {r : Rw} {σ : Nat → Nat} {fo : Int32} {y : Nat} (h : rowR N v r σ) (ho : owR N v r.2.2.1 (fun k p => p < rBl (rLv r.2.2.2) k) fo) (hv : v ≤ 24) (hl : r.2.2.2 < 300) (hlr : r.2.2.2 < r.1) (hM : N 10172 + 10 < 2 ^ 24) :
    ∃ σ2, rowR (rPu N v y) v (rwWr r r.2.2.2 (nI y) (N 10172) fo) σ2 ∧ owR (rPu N v y) v (rwWr r r.2.2.2 (nI y) (N 10172) fo).2.2.1 (fun k p => p < rBl (rLv (rwWr r r.2.2.2 (nI y) (N 10172) fo).2.2.2) k) fo ∧ rPu N v y 10172 = N 10172 + rwWrC r r.2.2.2 (N 10172) fo ∧ (∀ n, n < N 10172 → σ2 n = σ n) ∧ rwWrC r r.2.2.2 (N 10172) fo ≤ 5 ∧ frR v N (rPu N v y) := by
  obtain ⟨h1, h2, h3, h4, h5⟩ := h
  have hlv := rLv_c r.2.2.2
  have hlv2 := rLv_c (r.2.2.2 + 1)
  have hl73 : rLv r.2.2.2 ≤ 74 := rLv_le (by omega)
  have eL : (rwWr r r.2.2.2 (nI y) (N 10172) fo).2.2.2 = r.2.2.2 + 1 := if_pos rfl
  have key : ∃ (N1 : Nat → Nat) (σ2 : Nat → Nat), rPu N v y = updN (updN N1 (403 * v + 1 + r.2.2.2) y) (403 * v) (r.2.2.2 + 1) ∧ slR N1 v (rwWr r r.2.2.2 (nI y) (N 10172) fo).2.2.1 (fun k p => p < rBl (rLv (r.2.2.2 + 1)) k) σ2 ∧ owR N1 v (rwWr r r.2.2.2 (nI y) (N 10172) fo).2.2.1 (fun k p => p < rBl (rLv (r.2.2.2 + 1)) k) fo ∧ N1 10172 = N 10172 + rwWrC r r.2.2.2 (N 10172) fo ∧ (∀ n, n < N 10172 → σ2 n = σ n) ∧ rwWrC r r.2.2.2 (N 10172) fo ≤ 5 ∧ frI v N N1 := by
    by_cases hc : 0 < r.2.2.2 ∧ r.2.2.2 % 4 = 0
    · have hc2 : r.2.2.2 - rLv r.2.2.2 * 4 = 4 := by omega
      have e : wrN r.2.2.1 r.2.2.2 r.2.2.2 (N 10172) fo = mpP r.2.2.1 (rLv r.2.2.2) (N 10172) fo (rRt (rLv r.2.2.2 + 1) + 1) := by rw [wrN, if_pos rfl, if_pos hc2]
      obtain ⟨σ2, g1, g2, g3, g4, g5⟩ := push_ok h5 ho hv (by omega) hM _ (rRt_le (rLv r.2.2.2 + 1))
      have hUV : ∀ a b, a < 5 → b < wdN a → ((b < rBl (rLv r.2.2.2) a ∨ (a ≤ rRt (rLv r.2.2.2 + 1) ∧ b = rLv r.2.2.2 / 4 ^ a)) ↔ b < rBl (rLv (r.2.2.2 + 1)) a) := fun a b ha _ => by
        rw [show rLv (r.2.2.2 + 1) = rLv r.2.2.2 + 1 by omega]; exact push_U (by omega) ha
      refine ⟨rPl N v (rLv r.2.2.2) (rRt (rLv r.2.2.2 + 1)), σ2, ?_, ?_, ?_, ?_, g4, ?_, rPl_frI (by omega) _ (rRt_le _)⟩
      · rw [rPu, h1, if_pos hc]
      · show slR _ v (wrN r.2.2.1 r.2.2.2 r.2.2.2 (N 10172) fo).1 _ σ2
        rw [e]; exact g1.iff hUV
      · show owR _ v (wrN r.2.2.1 r.2.2.2 r.2.2.2 (N 10172) fo).1 _ fo
        rw [e]; exact g2.iff hUV
      · rw [g3]; show _ = N 10172 + (wrN r.2.2.1 r.2.2.2 r.2.2.2 (N 10172) fo).2; rw [e]
      · show (wrN r.2.2.1 r.2.2.2 r.2.2.2 (N 10172) fo).2 ≤ 5
        rw [e]; have := rRt_le (rLv r.2.2.2 + 1); omega
    · have hc2 : ¬ r.2.2.2 - rLv r.2.2.2 * 4 = 4 := by omega
      have e : wrN r.2.2.1 r.2.2.2 r.2.2.2 (N 10172) fo = (r.2.2.1, 0) := by rw [wrN, if_pos rfl, if_neg hc2]
      have e9 : rLv (r.2.2.2 + 1) = rLv r.2.2.2 := by omega
      refine ⟨N, σ, ?_, ?_, ?_, ?_, fun _ _ => rfl, ?_, fun _ _ _ _ => rfl⟩
      · rw [rPu, h1, if_neg hc]
      · show slR _ v (wrN r.2.2.1 r.2.2.2 r.2.2.2 (N 10172) fo).1 _ σ
        rw [e, e9]; exact h5
      · show owR _ v (wrN r.2.2.1 r.2.2.2 r.2.2.2 (N 10172) fo).1 _ fo
        rw [e, e9]; exact ho
      · show _ = N 10172 + (wrN r.2.2.1 r.2.2.2 r.2.2.2 (N 10172) fo).2; rw [e]; rfl
      · show (wrN r.2.2.1 r.2.2.2 r.2.2.2 (N 10172) fo).2 ≤ 5
        rw [e]; exact Nat.zero_le _
  obtain ⟨N1, σ2, e, g1, g2, g3, g4, g5, g6⟩ := key
  have eM : rPu N v y 10172 = N1 10172 := by rw [e, updN_n (by omega), updN_n (by omega)]
  refine ⟨σ2, ⟨?_, ?_, h3, fun j hj => ?_, ?_⟩, ?_, by rw [eM, g3], g4, g5, fun j a b d => ?_⟩
  · rw [e, updN_s, eL]
  · rw [eL]; exact hlr
  · rw [eL] at hj
    rw [e, updN_n (by omega)]
    show upd r.2.1 r.2.2.2 (nI y) j = _
    by_cases hjl : j = r.2.2.2
    · rw [hjl, pk_us, updN_s]
    · rw [pk_un hjl, updN_n (by omega), h4 j (by omega), g6 _ (by omega) (by omega) (by omega)]
  · rw [eL]
    refine g1.mv (fun i hi hi2 => ?_) (by rw [eM]; exact Nat.le_refl _) (fun _ _ => rfl)
    rw [e, updN_n (by omega), updN_n (by omega)]
  · rw [eL]
    refine g2.mv (by rw [eM]; exact Nat.le_refl _) (fun _ i hi => ?_)
    rw [e, updN_n (by omega), updN_n (by omega)]
  · rw [e, updN_n (by omega), updN_n (by omega)]
    exact g6 j a (by omega) d
theorem row_se {N : Nat → Nat} {v : Nat} {r : Rw} {σ : Nat → Nat} {fo : Int32} {q y : Nat} (h : rowR N v r σ) (ho : owR N v r.2.2.1 (fun k p => p < rBl (rLv r.2.2.2) k) fo) (hv : v ≤ 24) (hq : q < r.2.2.2) (hM : N 10172 + 10 < 2 ^ 24) :
    ∃ σ2, rowR (rSe N v q y) v (rwWr r q (nI y) (N 10172) fo) σ2 ∧ owR (rSe N v q y) v (rwWr r q (nI y) (N 10172) fo).2.2.1 (fun k p => p < rBl (rLv (rwWr r q (nI y) (N 10172) fo).2.2.2) k) fo ∧ rSe N v q y 10172 = N 10172 + rwWrC r q (N 10172) fo ∧ (∀ n, n < N 10172 → σ2 n = σ n) ∧ rwWrC r q (N 10172) fo ≤ 5 ∧ frR v N (rSe N v q y) := by
  obtain ⟨h1, h2, h3, h4, h5⟩ := h
  have hl73 : rLv r.2.2.2 ≤ 74 := rLv_le (by omega)
  have hne : ¬ q = r.2.2.2 := by omega
  have eL : (rwWr r q (nI y) (N 10172) fo).2.2.2 = r.2.2.2 := if_neg hne
  have key : ∃ (N1 : Nat → Nat) (σ2 : Nat → Nat), rSe N v q y = updN N1 (403 * v + 1 + q) y ∧ slR N1 v (rwWr r q (nI y) (N 10172) fo).2.2.1 (fun k p => p < rBl (rLv r.2.2.2) k) σ2 ∧ owR N1 v (rwWr r q (nI y) (N 10172) fo).2.2.1 (fun k p => p < rBl (rLv r.2.2.2) k) fo ∧ N1 10172 = N 10172 + rwWrC r q (N 10172) fo ∧ (∀ n, n < N 10172 → σ2 n = σ n) ∧ rwWrC r q (N 10172) fo ≤ 5 ∧ frI v N N1 := by
    have hrt := rRt_le (rLv r.2.2.2)
    by_cases hc : q < 4 * rLv r.2.2.2
    · have hc2 : q / 4 < rLv r.2.2.2 := by omega
      have e : wrN r.2.2.1 r.2.2.2 q (N 10172) fo = mpP r.2.2.1 (q / 4) (N 10172) fo (rRt (rLv r.2.2.2) + 1) := by rw [wrN, if_neg hne, if_pos hc2]
      obtain ⟨σ2, g1, g2, g3, g4, g5⟩ := set_ok h5 ho hv hl73 hc2 hM _ (Nat.le_refl _)
      refine ⟨rSl N v (q / 4) (rRt (rLv r.2.2.2) + 1), σ2, ?_, ?_, ?_, ?_, g4, ?_, rSl_frI (by omega) _ (by omega)⟩
      · rw [rSe, h1, if_pos hc]
      · show slR _ v (wrN r.2.2.1 r.2.2.2 q (N 10172) fo).1 _ σ2
        rw [e]; exact g1
      · show owR _ v (wrN r.2.2.1 r.2.2.2 q (N 10172) fo).1 _ fo
        rw [e]; exact g2
      · rw [g3]; show _ = N 10172 + (wrN r.2.2.1 r.2.2.2 q (N 10172) fo).2; rw [e]
      · show (wrN r.2.2.1 r.2.2.2 q (N 10172) fo).2 ≤ 5
        rw [e]; omega
    · have hc2 : ¬ q / 4 < rLv r.2.2.2 := by omega
      have e : wrN r.2.2.1 r.2.2.2 q (N 10172) fo = (r.2.2.1, 0) := by rw [wrN, if_neg hne, if_neg hc2]
      refine ⟨N, σ, ?_, ?_, ?_, ?_, fun _ _ => rfl, ?_, fun _ _ _ _ => rfl⟩
      · rw [rSe, h1, if_neg hc]
      · show slR _ v (wrN r.2.2.1 r.2.2.2 q (N 10172) fo).1 _ σ
        rw [e]; exact h5
      · show owR _ v (wrN r.2.2.1 r.2.2.2 q (N 10172) fo).1 _ fo
        rw [e]; exact ho
      · show _ = N 10172 + (wrN r.2.2.1 r.2.2.2 q (N 10172) fo).2; rw [e]; rfl
      · show (wrN r.2.2.1 r.2.2.2 q (N 10172) fo).2 ≤ 5
        rw [e]; exact Nat.zero_le _
  obtain ⟨N1, σ2, e, g1, g2, g3, g4, g5, g6⟩ := key
  have eM : rSe N v q y 10172 = N1 10172 := by rw [e, updN_n (by omega)]
  refine ⟨σ2, ⟨?_, ?_, h3, fun j hj => ?_, ?_⟩, ?_, by rw [eM, g3], g4, g5, fun j a b d => ?_⟩
  · rw [e, updN_n (by omega), eL, g6 _ (by omega) (by omega) (by omega), h1]
  · rw [eL]; exact h2
  · rw [eL] at hj
    rw [e]
    show upd r.2.1 q (nI y) j = _
    by_cases hjl : j = q
    · rw [hjl, pk_us, updN_s]
    · rw [pk_un hjl, updN_n (by omega), h4 j hj, g6 _ (by omega) (by omega) (by omega)]
  · rw [eL]
    refine g1.mv (fun i hi hi2 => ?_) (by rw [eM]; exact Nat.le_refl _) (fun _ _ => rfl)
    rw [e, updN_n (by omega)]
  · rw [eL]
    refine g2.mv (by rw [eM]; exact Nat.le_refl _) (fun _ i hi => ?_)
    rw [e, updN_n (by omega)]
  · rw [e, updN_n (by omega)]
    exact g6 j a (by omega) d
theorem row_po {N : Nat → Nat} {v : Nat} {r : Rw} {σ : Nat → Nat} {fo : Int32} (h : rowR N v r σ) (ho : owR N v r.2.2.1 (fun k p => p < rBl (rLv r.2.2.2) k) fo) (hv : v ≤ 24) (hl1 : 1 ≤ r.2.2.2) (hM : N 10172 + 10 < 2 ^ 24) :
    ∃ σ2, rowR (rPo N v) v (rwRm r (N 10172) fo) σ2 ∧ owR (rPo N v) v (rwRm r (N 10172) fo).2.2.1 (fun k p => p < rBl (rLv (rwRm r (N 10172) fo).2.2.2) k) fo ∧ rPo N v 10172 = N 10172 + rwRmC r (N 10172) fo ∧ (∀ n, n < N 10172 → σ2 n = σ n) ∧ rwRmC r (N 10172) fo ≤ 5 ∧ frR v N (rPo N v) := by
  obtain ⟨h1, h2, h3, h4, h5⟩ := h
  have hlv := rLv_c r.2.2.2
  have hlv2 := rLv_c (r.2.2.2 - 1)
  have hl73 : rLv r.2.2.2 ≤ 74 := rLv_le (by omega)
  have e1 : r.2.2.2 - 1 + 1 = r.2.2.2 := by omega
  have key : ∃ (N1 : Nat → Nat) (σ2 : Nat → Nat), rPo N v = updN N1 (403 * v) (r.2.2.2 - 1) ∧ slR N1 v (rwRm r (N 10172) fo).2.2.1 (fun k p => p < rBl (rLv (r.2.2.2 - 1)) k) σ2 ∧ owR N1 v (rwRm r (N 10172) fo).2.2.1 (fun k p => p < rBl (rLv (r.2.2.2 - 1)) k) fo ∧ N1 10172 = N 10172 + rwRmC r (N 10172) fo ∧ (∀ n, n < N 10172 → σ2 n = σ n) ∧ rwRmC r (N 10172) fo ≤ 5 ∧ frI v N N1 := by
    by_cases hc : rLv (r.2.2.2 - 1) < rLv r.2.2.2
    · have hc2 : r.2.2.2 - rLv r.2.2.2 * 4 = 1 ∧ rLv r.2.2.2 ≠ 0 := by omega
      have et : rLv (r.2.2.2 - 1) = rLv r.2.2.2 - 1 := by omega
      have et2 : rLv r.2.2.2 - 1 + 1 = rLv r.2.2.2 := by omega
      have e : rmN r.2.2.1 r.2.2.2 (N 10172) fo = tlP r.2.2.1 (rLv r.2.2.2 - 1) (N 10172) fo (rRt (rLv r.2.2.2) + 1) := by rw [rmN, if_pos hc2]
      have hrt := rRt_le (rLv r.2.2.2)
      obtain ⟨σ2, g1, g2, g3, g4, g5⟩ := pop_ok (t := rLv r.2.2.2 - 1) (by rw [et2]; exact h5) (by rw [et2]; exact ho) hv (by omega) hM _ (Nat.le_refl _)
      have hmin : min (rRt (rLv r.2.2.2 - 1 + 1) + 1 - 1) (rCt (rLv r.2.2.2 - 1)) = rCt (rLv r.2.2.2 - 1) := by
        refine Nat.min_eq_right ?_
        rw [et2]
        have a := rRt_cs (rLv r.2.2.2)
        have b := rRt_cs (rLv r.2.2.2 - 1)
        unfold rCt
        split <;> omega
      have hUV : ∀ a b, a < 5 → b < wdN a → ((b < rBl (rLv r.2.2.2 - 1 + 1) a ∧ ¬ (a < rRt (rLv r.2.2.2 - 1 + 1) + 1 ∧ b = (rLv r.2.2.2 - 1) / 4 ^ a ∧ rmQ (rLv r.2.2.2 - 1) a)) ↔ b < rBl (rLv (r.2.2.2 - 1)) a) := fun a b ha _ => by
        rw [et]; exact pop_U (by omega) ha
      rw [hmin] at g1 g2 g3
      have g1 := g1.iff hUV
      have g2 := g2.iff hUV
      rw [et2] at g1 g2 g3 g5
      refine ⟨rOl N v (rLv r.2.2.2 - 1) (rCt (rLv r.2.2.2 - 1)), σ2, ?_, ?_, ?_, ?_, g4, ?_, rOl_frI (by omega) _ (rCt_le _)⟩
      · rw [rPo, h1, e1, if_pos hc, et]
      · show slR _ v (rmN r.2.2.1 r.2.2.2 (N 10172) fo).1 _ σ2
        rw [e]; exact g1
      · show owR _ v (rmN r.2.2.1 r.2.2.2 (N 10172) fo).1 _ fo
        rw [e]; exact g2
      · rw [g3]; show _ = N 10172 + (rmN r.2.2.1 r.2.2.2 (N 10172) fo).2; rw [e]
      · show (rmN r.2.2.1 r.2.2.2 (N 10172) fo).2 ≤ 5
        rw [e]; omega
    · have hc2 : ¬ (r.2.2.2 - rLv r.2.2.2 * 4 = 1 ∧ rLv r.2.2.2 ≠ 0) := by omega
      have e : rmN r.2.2.1 r.2.2.2 (N 10172) fo = (r.2.2.1, 0) := by rw [rmN, if_neg hc2]
      have e9 : rLv (r.2.2.2 - 1) = rLv r.2.2.2 := by omega
      refine ⟨N, σ, ?_, ?_, ?_, ?_, fun _ _ => rfl, ?_, fun _ _ _ _ => rfl⟩
      · rw [rPo, h1, e1, if_neg hc]
      · show slR _ v (rmN r.2.2.1 r.2.2.2 (N 10172) fo).1 _ σ
        rw [e, e9]; exact h5
      · show owR _ v (rmN r.2.2.1 r.2.2.2 (N 10172) fo).1 _ fo
        rw [e, e9]; exact ho
      · show _ = N 10172 + (rmN r.2.2.1 r.2.2.2 (N 10172) fo).2; rw [e]; rfl
      · show (rmN r.2.2.1 r.2.2.2 (N 10172) fo).2 ≤ 5
        rw [e]; exact Nat.zero_le _
  obtain ⟨N1, σ2, e, g1, g2, g3, g4, g5, g6⟩ := key
  have eM : rPo N v 10172 = N1 10172 := by rw [e, updN_n (by omega)]
  refine ⟨σ2, ⟨?_, ?_, h3, fun j hj => ?_, ?_⟩, ?_, by rw [eM, g3], g4, g5, fun j a b d => ?_⟩
  · rw [e, updN_s]; rfl
  · show r.2.2.2 - 1 ≤ r.1; omega
  · have hj : j < r.2.2.2 - 1 := hj
    rw [e, updN_n (by omega), g6 _ (by omega) (by omega) (by omega)]
    exact h4 j (by omega)
  · refine g1.mv (fun i hi hi2 => ?_) (by rw [eM]; exact Nat.le_refl _) (fun _ _ => rfl)
    rw [e, updN_n (by omega)]
  · refine g2.mv (by rw [eM]; exact Nat.le_refl _) (fun _ i hi => ?_)
    rw [e, updN_n (by omega)]
  · rw [e, updN_n (by omega)]
    exact g6 j a (by omega) d
