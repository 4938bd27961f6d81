/-! ===== paths of blocks ===== -/
theorem mbC_le (nums : Nat → Int32) (j : Nat) (fo : Int32) : mbC nums j fo ≤ 1 := by unfold mbC; split <;> omega
theorem wd_dv {k l : Nat} (hk : k < 5) (hl : l ≤ 73) : l / 4 ^ k < wdN k := lvN_w (by omega) hl
theorem rBl_u (l k : Nat) : (l = 0 ∧ rBl l k = 0) ∨ (l ≠ 0 ∧ rRt l < k ∧ rBl l k = 0) ∨ (l ≠ 0 ∧ k ≤ rRt l ∧ rBl l k = (l + 4 ^ k - 1) / 4 ^ k) := by
  unfold rBl
  by_cases h : l = 0
  · rw [if_pos h]; exact Or.inl ⟨h, rfl⟩
  · rw [if_neg h]
    by_cases h2 : rRt l < k
    · rw [if_pos h2]; exact Or.inr (Or.inl ⟨h, h2, rfl⟩)
    · rw [if_neg h2]; exact Or.inr (Or.inr ⟨h, by omega, rfl⟩)
theorem in_rBl {l leaf k : Nat} (h : leaf < l) (hk : k ≤ rRt l) (hl : l ≤ 74) : leaf / 4 ^ k < rBl l k := by
  have h1 := rBl_u l k
  have h2 := rRt_cs l
  rcases (show k = 0 ∨ k = 1 ∨ k = 2 ∨ k = 3 ∨ k = 4 by omega) with rfl | rfl | rfl | rfl | rfl <;> simp only [Nat.reducePow] at h1 ⊢ <;> omega
theorem push_ok {N : Nat → Nat} {v : Nat} {nums : Nat → Int32} {σ : Nat → Nat} {fo : Int32} {l : Nat} (hs : slR N v nums (fun k p => p < rBl l k) σ) (ho : owR N v nums (fun k p => p < rBl l k) fo) (hv : v ≤ 24) (hl : l ≤ 73) (hM : N 10172 + 10 < 2 ^ 24) : ∀ K, K ≤ 4 →
    ∃ σ2, slR (rPl N v l K) v (mpP nums l (N 10172) fo (K + 1)).1 (fun k p => p < rBl l k ∨ (k ≤ K ∧ p = l / 4 ^ k)) σ2 ∧ owR (rPl N v l K) v (mpP nums l (N 10172) fo (K + 1)).1 (fun k p => p < rBl l k ∨ (k ≤ K ∧ p = l / 4 ^ k)) fo ∧ rPl N v l K 10172 = N 10172 + (mpP nums l (N 10172) fo (K + 1)).2 ∧ (∀ n, n < N 10172 → σ2 n = σ n) ∧ (mpP nums l (N 10172) fo (K + 1)).2 ≤ K + 1
  | 0, _ => by
    have e : l / 4 ^ 0 = l := by simp
    have e0 : rPl N v l 0 = rMk N v 0 (l / 4 ^ 0) 0 := by rw [e]; rfl
    obtain ⟨σ2, g1, g2, g3, g4⟩ := mk_ok (w := 0) hs ho hv (by omega) (show 0 < 5 by omega) (wd_dv (k := 0) (by omega) hl) (fun _ => ⟨fun z => absurd rfl z, fun z => by
      have h1 := rBl_u l 0
      rw [e] at z
      simp only [Nat.reducePow] at h1
      omega⟩)
    have hUV : ∀ a b, a < 5 → b < wdN a → ((b < rBl l a ∨ (a = 0 ∧ b = l / 4 ^ 0)) ↔ (b < rBl l a ∨ (a ≤ 0 ∧ b = l / 4 ^ a))) := fun a b _ _ => ⟨fun z => z.imp id (fun y => ⟨by omega, by rw [y.1]; exact y.2⟩), fun z => z.imp id (fun y => ⟨by omega, by rw [show a = 0 by omega] at y; exact y.2⟩)⟩
    refine ⟨σ2, ?_, ?_, ?_, g4, ?_⟩
    · rw [e0]; exact g1.iff hUV
    · rw [e0]; exact g2.iff hUV
    · rw [e0, g3]; show _ = N 10172 + (0 + _); rw [Nat.zero_add]; rfl
    · show 0 + mbC _ _ _ ≤ 0 + 1; have := mbC_le nums (lvN 0 + l / 4 ^ 0) fo; show 0 + mbC nums (lvN 0 + l / 4 ^ 0) fo ≤ 1; omega
  | K + 1, hK => by
    obtain ⟨σ1, f1, f2, f3, f4, f5⟩ := push_ok hs ho hv hl hM K (by omega)
    obtain ⟨σ2, g1, g2, g3, g4⟩ := mk_ok (w := if l / 4 ^ (K + 1) < rBl l (K + 1) then 1 else 0) f1 f2 hv (by omega) (show K + 1 < 5 by omega) (wd_dv (k := K + 1) (by omega) hl) (fun _ => by
      by_cases hb : l / 4 ^ (K + 1) < rBl l (K + 1)
      · rw [if_pos hb]; exact ⟨fun _ => Or.inl hb, fun _ => by omega⟩
      · rw [if_neg hb]; exact ⟨fun z => absurd rfl z, fun z => z.elim (fun y => absurd y hb) (fun y => absurd y.1 (by omega))⟩)
    rw [f3] at g1 g2 g3
    have hUV : ∀ a b, a < 5 → b < wdN a → (((b < rBl l a ∨ (a ≤ K ∧ b = l / 4 ^ a)) ∨ (a = K + 1 ∧ b = l / 4 ^ (K + 1))) ↔ (b < rBl l a ∨ (a ≤ K + 1 ∧ b = l / 4 ^ a))) := fun a b _ _ => by
      constructor
      · rintro ((z | z) | z)
        · exact Or.inl z
        · exact Or.inr ⟨by omega, z.2⟩
        · exact Or.inr ⟨by omega, by rw [z.1]; exact z.2⟩
      · rintro (z | z)
        · exact Or.inl (Or.inl z)
        · by_cases ha : a ≤ K
          · exact Or.inl (Or.inr ⟨ha, z.2⟩)
          · obtain rfl : a = K + 1 := by omega
            exact Or.inr ⟨rfl, z.2⟩
    have hc := mbC_le (mpP nums l (N 10172) fo (K + 1)).1 (lvN (K + 1) + l / 4 ^ (K + 1)) fo
    refine ⟨σ2, g1.iff hUV, g2.iff hUV, ?_, fun n hn => (g4 n (by omega)).trans (f4 n hn), ?_⟩
    · show rMk (rPl N v l K) v (K + 1) (l / 4 ^ (K + 1)) _ 10172 = N 10172 + ((mpP nums l (N 10172) fo (K + 1)).2 + mbC (mpP nums l (N 10172) fo (K + 1)).1 (lvN (K + 1) + l / 4 ^ (K + 1)) fo)
      rw [g3, Nat.add_assoc]
    · show (mpP nums l (N 10172) fo (K + 1)).2 + mbC (mpP nums l (N 10172) fo (K + 1)).1 (lvN (K + 1) + l / 4 ^ (K + 1)) fo ≤ _
      omega
theorem set_ok {N : Nat → Nat} {v : Nat} {nums : Nat → Int32} {σ : Nat → Nat} {fo : Int32} {l leaf : Nat} (hs : slR N v nums (fun k p => p < rBl l k) σ) (ho : owR N v nums (fun k p => p < rBl l k) fo) (hv : v ≤ 24) (hl : l ≤ 74) (hlf : leaf < l) (hM : N 10172 + 10 < 2 ^ 24) : ∀ K, K ≤ rRt l + 1 →
    ∃ σ2, slR (rSl N v leaf K) v (mpP nums leaf (N 10172) fo K).1 (fun k p => p < rBl l k) σ2 ∧ owR (rSl N v leaf K) v (mpP nums leaf (N 10172) fo K).1 (fun k p => p < rBl l k) fo ∧ rSl N v leaf K 10172 = N 10172 + (mpP nums leaf (N 10172) fo K).2 ∧ (∀ n, n < N 10172 → σ2 n = σ n) ∧ (mpP nums leaf (N 10172) fo K).2 ≤ K
  | 0, _ => ⟨σ, hs, ho, rfl, fun _ _ => rfl, Nat.le_refl _⟩
  | K + 1, hK => by
    have hr4 := rRt_le l
    obtain ⟨σ1, f1, f2, f3, f4, f5⟩ := set_ok hs ho hv hl hlf hM K (by omega)
    have hb := in_rBl hlf (show K ≤ rRt l by omega) hl
    obtain ⟨σ2, g1, g2, g3, g4⟩ := mk_ok (w := 1) f1 f2 hv (by omega) (show K < 5 by omega) (wd_dv (k := K) (by omega) (show leaf ≤ 73 by omega)) (fun _ => ⟨fun _ => hb, fun _ => by omega⟩)
    rw [f3] at g1 g2 g3
    have hUV : ∀ a b, a < 5 → b < wdN a → ((b < rBl l a ∨ (a = K ∧ b = leaf / 4 ^ K)) ↔ b < rBl l a) := fun a b _ _ => ⟨fun z => z.elim id (fun y => by rw [y.1, y.2]; exact hb), Or.inl⟩
    have hc := mbC_le (mpP nums leaf (N 10172) fo K).1 (lvN K + leaf / 4 ^ K) fo
    refine ⟨σ2, g1.iff hUV, g2.iff hUV, ?_, fun n hn => (g4 n (by omega)).trans (f4 n hn), ?_⟩
    · show rMk (rSl N v leaf K) v K (leaf / 4 ^ K) 1 10172 = N 10172 + ((mpP nums leaf (N 10172) fo K).2 + mbC (mpP nums leaf (N 10172) fo K).1 (lvN K + leaf / 4 ^ K) fo)
      rw [g3, Nat.add_assoc]
    · show (mpP nums leaf (N 10172) fo K).2 + mbC (mpP nums leaf (N 10172) fo K).1 (lvN K + leaf / 4 ^ K) fo ≤ _
      omega
def rmQ (t k : Nat) : Prop := (t = 0 ∨ rRt t < k) ∨ t % 4 ^ k = 0
theorem rOl_id {N : Nat → Nat} {v t K : Nat} (hK : K ≤ 4) (ht : t ≤ 73) (h : rmQ t K) : rOl N v t (min K (rCt t)) = rOl N v t (min (K - 1) (rCt t)) := by
  by_cases h0 : K = 0
  · subst h0; rfl
  · by_cases h1 : rCt t < K
    · rw [Nat.min_eq_right (by omega), Nat.min_eq_right (by omega)]
    · rw [Nat.min_eq_left (by omega), Nat.min_eq_left (by omega)]
      obtain ⟨J, rfl⟩ : ∃ J, K = J + 1 := ⟨K - 1, by omega⟩
      show rOl N v t (J + 1) = rOl N v t J
      have hn : ¬ t / 4 ^ (J + 1) < rBl t (J + 1) := by
        have h2 := rBl_u t (J + 1)
        unfold rCt at h1
        unfold rmQ at h
        by_cases ht0 : t = 0
        · rw [if_pos ht0] at h1; omega
        · rw [if_neg ht0] at h1
          have h3 : t % 4 ^ (J + 1) = 0 := h.resolve_left (fun z => by omega)
          have h4 := rRt_cs t
          rcases (show J = 0 ∨ J = 1 ∨ J = 2 ∨ J = 3 by omega) with rfl | rfl | rfl | rfl <;> simp only [Nat.reduceAdd, Nat.reducePow] at h2 h3 ⊢ <;> omega
      exact if_neg hn
theorem pop_ok {N : Nat → Nat} {v : Nat} {nums : Nat → Int32} {σ : Nat → Nat} {fo : Int32} {t : Nat} (hs : slR N v nums (fun k p => p < rBl (t + 1) k) σ) (ho : owR N v nums (fun k p => p < rBl (t + 1) k) fo) (hv : v ≤ 24) (ht : t ≤ 73) (hM : N 10172 + 10 < 2 ^ 24) : ∀ K, K ≤ rRt (t + 1) + 1 →
    ∃ σ2, slR (rOl N v t (min (K - 1) (rCt t))) v (tlP nums t (N 10172) fo K).1 (fun k p => p < rBl (t + 1) k ∧ ¬ (k < K ∧ p = t / 4 ^ k ∧ rmQ t k)) σ2 ∧ owR (rOl N v t (min (K - 1) (rCt t))) v (tlP nums t (N 10172) fo K).1 (fun k p => p < rBl (t + 1) k ∧ ¬ (k < K ∧ p = t / 4 ^ k ∧ rmQ t k)) fo ∧ rOl N v t (min (K - 1) (rCt t)) 10172 = N 10172 + (tlP nums t (N 10172) fo K).2 ∧ (∀ n, n < N 10172 → σ2 n = σ n) ∧ (tlP nums t (N 10172) fo K).2 ≤ K
  | 0, _ => by
    have hUV : ∀ a b, a < 5 → b < wdN a → (b < rBl (t + 1) a ↔ (b < rBl (t + 1) a ∧ ¬ (a < 0 ∧ b = t / 4 ^ a ∧ rmQ t a))) := fun a b _ _ => ⟨fun z => ⟨z, fun y => absurd y.1 (Nat.not_lt_zero _)⟩, fun z => z.1⟩
    have e : rOl N v t (min (0 - 1) (rCt t)) = N := by rw [Nat.zero_sub, Nat.zero_min]; rfl
    rw [e]
    exact ⟨σ, hs.iff hUV, ho.iff hUV, rfl, fun _ _ => rfl, Nat.le_refl _⟩
  | K + 1, hK => by
    have hr4 := rRt_le (t + 1)
    obtain ⟨σ1, f1, f2, f3, f4, f5⟩ := pop_ok hs ho hv ht hM K (by omega)
    have hw := wd_dv (k := K) (show K < 5 by omega) ht
    show ∃ σ2, slR (rOl N v t (min K (rCt t))) v _ _ σ2 ∧ owR (rOl N v t (min K (rCt t))) v _ _ fo ∧ rOl N v t (min K (rCt t)) 10172 = _ ∧ _
    by_cases hq : rmQ t K
    · have e : tlP nums t (N 10172) fo (K + 1) = (upd (tlP nums t (N 10172) fo K).1 (lvN K + t / 4 ^ K) (-5), (tlP nums t (N 10172) fo K).2) := if_pos hq
      rw [rOl_id (by omega) ht hq, e]
      obtain ⟨g1, g2⟩ := rmv_ok f1 f2 (show K < 5 by omega) hw
      have hUV : ∀ a b, a < 5 → b < wdN a → (((b < rBl (t + 1) a ∧ ¬ (a < K ∧ b = t / 4 ^ a ∧ rmQ t a)) ∧ ¬ (a = K ∧ b = t / 4 ^ K)) ↔ (b < rBl (t + 1) a ∧ ¬ (a < K + 1 ∧ b = t / 4 ^ a ∧ rmQ t a))) := fun a b _ _ => by
        constructor
        · rintro ⟨⟨z1, z2⟩, z3⟩
          refine ⟨z1, fun y => ?_⟩
          by_cases ha : a = K
          · subst ha; exact z3 ⟨rfl, y.2.1⟩
          · exact z2 ⟨by omega, y.2⟩
        · rintro ⟨z1, z2⟩
          refine ⟨⟨z1, fun y => z2 ⟨by omega, y.2⟩⟩, fun y => ?_⟩
          obtain ⟨rfl, y2⟩ := y
          exact z2 ⟨by omega, y2, hq⟩
      exact ⟨σ1, g1.iff hUV, g2.iff hUV, f3, f4, Nat.le_succ_of_le f5⟩
    · have e : tlP nums t (N 10172) fo (K + 1) = (mbN (tlP nums t (N 10172) fo K).1 (lvN K + t / 4 ^ K) (N 10172 + (tlP nums t (N 10172) fo K).2) fo, (tlP nums t (N 10172) fo K).2 + mbC (tlP nums t (N 10172) fo K).1 (lvN K + t / 4 ^ K) fo) := if_neg hq
      have hq1 : ¬ (t = 0 ∨ rRt t < K) := fun z => hq (Or.inl z)
      have hq2 : ¬ t % 4 ^ K = 0 := fun z => hq (Or.inr z)
      have hK0 : K ≠ 0 := fun z => hq2 (by rw [z]; simp [Nat.mod_one])
      obtain ⟨J, rfl⟩ : ∃ J, K = J + 1 := ⟨K - 1, by omega⟩
      have hct : rCt t = rRt t := if_neg (fun z => hq1 (Or.inl z))
      have hm1 : min (J + 1) (rCt t) = J + 1 := Nat.min_eq_left (by omega)
      have hm2 : min (J + 1 - 1) (rCt t) = J := Nat.min_eq_left (by omega)
      have hin : t / 4 ^ (J + 1) < rBl t (J + 1) := by
        have h2 := rBl_u t (J + 1)
        have h4 := rRt_cs t
        rcases (show J = 0 ∨ J = 1 ∨ J = 2 ∨ J = 3 by omega) with rfl | rfl | rfl | rfl <;> simp only [Nat.reduceAdd, Nat.reducePow] at h2 hq2 ⊢ <;> omega
      have eo : rOl N v t (J + 1) = rMk (rOl N v t J) v (J + 1) (t / 4 ^ (J + 1)) 1 := if_pos hin
      rw [hm2] at f1 f2 f3
      rw [hm1, eo, e]
      have hU : t / 4 ^ (J + 1) < rBl (t + 1) (J + 1) ∧ ¬ (J + 1 < J + 1 ∧ t / 4 ^ (J + 1) = t / 4 ^ (J + 1) ∧ rmQ t (J + 1)) := ⟨in_rBl (by omega) (by omega) (by omega), fun z => absurd z.1 (Nat.lt_irrefl _)⟩
      obtain ⟨σ2, g1, g2, g3, g4⟩ := mk_ok (w := 1) f1 f2 hv (by omega) (show J + 1 < 5 by omega) hw (fun _ => ⟨fun _ => hU, fun _ => by omega⟩)
      rw [f3] at g1 g2 g3
      have hUV : ∀ a b, a < 5 → b < wdN a → (((b < rBl (t + 1) a ∧ ¬ (a < J + 1 ∧ b = t / 4 ^ a ∧ rmQ t a)) ∨ (a = J + 1 ∧ b = t / 4 ^ (J + 1))) ↔ (b < rBl (t + 1) a ∧ ¬ (a < J + 1 + 1 ∧ b = t / 4 ^ a ∧ rmQ t a))) := fun a b _ _ => by
        constructor
        · rintro (⟨z1, z2⟩ | ⟨rfl, rfl⟩)
          · refine ⟨z1, fun y => ?_⟩
            by_cases ha : a = J + 1
            · subst ha; exact hq y.2.2
            · exact z2 ⟨by omega, y.2⟩
          · exact ⟨hU.1, fun y => hq y.2.2⟩
        · rintro ⟨z1, z2⟩
          exact Or.inl ⟨z1, fun y => z2 ⟨by omega, y.2⟩⟩
      have hc := mbC_le (tlP nums t (N 10172) fo (J + 1)).1 (lvN (J + 1) + t / 4 ^ (J + 1)) fo
      refine ⟨σ2, g1.iff hUV, g2.iff hUV, by rw [g3, Nat.add_assoc], fun n hn => (g4 n (by omega)).trans (f4 n hn), ?_⟩
      show _ + mbC _ _ _ ≤ _
      omega
theorem pop_U {t k p : Nat} (ht : t ≤ 73) (hk : k < 5) : (p < rBl (t + 1) k ∧ ¬ (k < rRt (t + 1) + 1 ∧ p = t / 4 ^ k ∧ rmQ t k)) ↔ p < rBl t k := by
  have h1 := rBl_u (t + 1) k
  have h2 := rBl_u t k
  have h3 := rRt_cs t
  have h4 := rRt_cs (t + 1)
  unfold rmQ
  rcases (show k = 0 ∨ k = 1 ∨ k = 2 ∨ k = 3 ∨ k = 4 by omega) with rfl | rfl | rfl | rfl | rfl <;> simp only [Nat.reducePow] at h1 h2 ⊢ <;> omega
theorem push_U {l k p : Nat} (hl : l ≤ 73) (hk : k < 5) : (p < rBl l k ∨ (k ≤ rRt (l + 1) ∧ p = l / 4 ^ k)) ↔ p < rBl (l + 1) k := by
  have h1 := rBl_u (l + 1) k
  have h2 := rBl_u l k
  have h3 := rRt_cs l
  have h4 := rRt_cs (l + 1)
  rcases (show k = 0 ∨ k = 1 ∨ k = 2 ∨ k = 3 ∨ k = 4 by omega) with rfl | rfl | rfl | rfl | rfl <;> simp only [Nat.reducePow] at h1 h2 ⊢ <;> omega
