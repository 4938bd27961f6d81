/-! ===== what is told: sums, slots, rows ===== -/
theorem sl_ex {j : Nat} (h : j < 101) : ∃ k p, k < 5 ∧ p < wdN k ∧ j = lvN k + p := by
  by_cases h1 : j < 74
  · have := wdN_cs (k := 0) (by omega); exact ⟨0, j, by omega, by omega, by omega⟩
  · by_cases h2 : j < 93
    · have := wdN_cs (k := 1) (by omega); exact ⟨1, j - 74, by omega, by omega, by omega⟩
    · by_cases h3 : j < 98
      · have := wdN_cs (k := 2) (by omega); exact ⟨2, j - 93, by omega, by omega, by omega⟩
      · by_cases h4 : j < 100
        · have := wdN_cs (k := 3) (by omega); exact ⟨3, j - 98, by omega, by omega, by omega⟩
        · have := wdN_cs (k := 4) (by omega); exact ⟨4, j - 100, by omega, by omega, by omega⟩
theorem rBl_wd {l k : Nat} (hl : l ≤ 74) (hk : k < 5) : rBl l k ≤ wdN k := by
  have h1 := rBl_u l k
  have h2 := wdN_cs hk
  rcases (show k = 0 ∨ k = 1 ∨ k = 2 ∨ k = 3 ∨ k = 4 by omega) with rfl | rfl | rfl | rfl | rfl <;> simp only [Nat.reducePow] at h1 <;> omega
theorem sumN_tail {f : Nat → Nat} {b n : Nat} (hb : b ≤ n) (h : ∀ i, b ≤ i → i < n → f i = 0) : sumN f n = sumN f b := by
  obtain ⟨d, rfl⟩ : ∃ d, n = b + d := ⟨n - b, by omega⟩
  rw [sumN_add, sumN_0 (f := fun z => f (b + z)) (n := d) (fun i hi => h (b + i) (by omega) (by omega)), Nat.add_zero]
theorem sum_lv (f : Nat → Nat) : sumN f 101 = sumN (fun k => sumN (fun p => f (lvN k + p)) (wdN k)) 5 := by
  have e1 : sumN f 101 = sumN f 100 + sumN (fun z => f (100 + z)) 1 := sumN_add f 100 1
  have e2 : sumN f 100 = sumN f 98 + sumN (fun z => f (98 + z)) 2 := sumN_add f 98 2
  have e3 : sumN f 98 = sumN f 93 + sumN (fun z => f (93 + z)) 5 := sumN_add f 93 5
  have e4 : sumN f 93 = sumN f 74 + sumN (fun z => f (74 + z)) 19 := sumN_add f 74 19
  have e0 : sumN (fun p => f (0 + p)) 74 = sumN f 74 := sumN_congr (fun i _ => by rw [Nat.zero_add])
  have e9 : sumN (fun k => sumN (fun p => f (lvN k + p)) (wdN k)) 5 = 0 + sumN (fun p => f (0 + p)) 74 + sumN (fun p => f (74 + p)) 19 + sumN (fun p => f (93 + p)) 5 + sumN (fun p => f (98 + p)) 2 + sumN (fun p => f (100 + p)) 1 := rfl
  rw [e9, e1, e2, e3, e4, e0, Nat.zero_add]
theorem cnt_lv {f : Nat → Nat} {g : Nat → Nat → Nat} {b : Nat → Nat} (hb : ∀ k, k < 5 → b k ≤ wdN k) (h1 : ∀ k p, k < 5 → p < b k → f (lvN k + p) = g k p) (h2 : ∀ k p, k < 5 → b k ≤ p → p < wdN k → f (lvN k + p) = 0) : sumN f 101 = sumN (fun k => sumN (g k) (b k)) 5 := by
  rw [sum_lv]
  refine sumN_congr (fun k hk => ?_)
  rw [sumN_tail (hb k hk) (fun i hi hi2 => h2 k i hk hi hi2)]
  exact sumN_congr (fun p hp => h1 k p hk hp)
theorem sumN_1 : ∀ n : Nat, sumN (fun _ => 1) n = n
  | 0 => rfl
  | n + 1 => by show sumN (fun _ => 1) n + 1 = n + 1; rw [sumN_1 n]
theorem sumN_plus (f g : Nat → Nat) : ∀ n : Nat, sumN (fun z => f z + g z) n = sumN f n + sumN g n
  | 0 => rfl
  | n + 1 => by
    show sumN (fun z => f z + g z) n + (f n + g n) = sumN f n + f n + (sumN g n + g n)
    rw [sumN_plus f g n]; omega
theorem sumN_swap (F : Nat → Nat → Nat) (M : Nat) : ∀ A : Nat, sumN (fun j => sumN (fun n => F j n) M) A = sumN (fun n => sumN (fun j => F j n) A) M
  | 0 => (sumN_0 (fun _ _ => rfl)).symm
  | A + 1 => by
    show sumN (fun j => sumN (fun n => F j n) M) A + sumN (fun n => F A n) M = sumN (fun n => sumN (fun j => F j n) A + F A n) M
    rw [sumN_swap F M A, sumN_plus]
theorem sum_uni {P : Nat → Prop} : ∀ M : Nat, (∀ n n', n < M → n' < M → P n → P n' → n = n') → sumN (fun n => bN (P n)) M = bN (∃ n, n < M ∧ P n)
  | 0, _ => (bN_f (fun ⟨n, h, _⟩ => by omega)).symm
  | M + 1, h => by
    show sumN (fun n => bN (P n)) M + bN (P M) = _
    rw [sum_uni M (fun n n' a b => h n n' (by omega) (by omega))]
    by_cases hP : P M
    · have e1 : bN (∃ n, n < M + 1 ∧ P n) = 1 := bN_t ⟨M, Nat.lt_succ_self M, hP⟩
      have e0 : bN (∃ n, n < M ∧ P n) = 0 := bN_f (fun ⟨n, hn, hPn⟩ => by
        have := h n M (by omega) (by omega) hPn hP
        omega)
      rw [bN_t hP, e1, e0]
    · rw [bN_f hP, Nat.add_zero]
      refine bN_iff ⟨fun ⟨n, a, b⟩ => ⟨n, by omega, b⟩, fun ⟨n, a, b⟩ => ⟨n, ?_, b⟩⟩
      have : n ≠ M := fun z => hP (z ▸ b)
      omega
theorem dcount {A M : Nat} {g : Nat → Nat → Prop} (u1 : ∀ j n n', j < A → n < M → n' < M → g j n → g j n' → n = n') (u2 : ∀ j j' n, j < A → j' < A → n < M → g j n → g j' n → j = j') : sumN (fun j => bN (∃ n, n < M ∧ g j n)) A = sumN (fun n => bN (∃ j, j < A ∧ g j n)) M := by
  have e1 : sumN (fun j => bN (∃ n, n < M ∧ g j n)) A = sumN (fun j => sumN (fun n => bN (g j n)) M) A := sumN_congr (fun j hj => (sum_uni M (fun n n' a b => u1 j n n' hj a b)).symm)
  have e2 : sumN (fun n => bN (∃ j, j < A ∧ g j n)) M = sumN (fun n => sumN (fun j => bN (g j n)) A) M := sumN_congr (fun n hn => (sum_uni A (fun j j' a b => u2 j j' n a b hn)).symm)
  rw [e1, e2, sumN_swap (fun j n => bN (g j n))]
theorem sum_split (A B : Nat → Prop) (n : Nat) : sumN (fun j => bN (A j)) n = sumN (fun j => bN (A j ∧ ¬ B j)) n + sumN (fun j => bN (A j ∧ B j)) n := by
  rw [← sumN_plus]
  refine sumN_congr (fun i _ => ?_)
  show bN (A i) = bN (A i ∧ ¬ B i) + bN (A i ∧ B i)
  by_cases ha : A i
  · by_cases hb : B i
    · rw [bN_t ha, bN_f (fun z => z.2 hb), bN_t ⟨ha, hb⟩]
    · rw [bN_t ha, bN_t ⟨ha, hb⟩, bN_f (fun z => hb z.2)]
  · rw [bN_f ha, bN_f (fun z => ha z.1), bN_f (fun z => ha z.1)]
theorem rId_e (N : Nat → Nat) (v k p : Nat) : rId N v k p = N (403 * v + 301 + (rBg k + p)) := by rw [rId, Nat.add_assoc]
theorem m5_neg : ¬ (0 : Int32) ≤ -5 := by decide
theorem row_len {N : Nat → Nat} {v : Nat} {r : Rw} {σ : Nat → Nat} (h : rowR N v r σ) : r.2.2.2 ≤ 300 ∧ rLv r.2.2.2 ≤ 74 := by
  have h1 := h.2.1
  have h2 := h.2.2.1
  have h3 : r.2.2.2 ≤ 300 := by omega
  exact ⟨h3, rLv_le h3⟩
/-- a block's number tells its slot -/
theorem slot_of {N : Nat → Nat} {v : Nat} {r : Rw} {σ : Nat → Nat} (h : rowR N v r σ) (hN : ∀ j, N j < 2 ^ 24) {j n : Nat} (hj : j < 101) (hn : n < 2 ^ 24) (e : r.2.2.1 j = nI n) : σ n = j ∧ n < N 10172 := by
  obtain ⟨k, p, hk, hp, rfl⟩ := sl_ex hj
  rcases h.2.2.2.2 k p hk hp with ⟨u1, u2, u3, u4⟩ | ⟨u1, u2⟩
  · rw [u3] at e
    have := hN (403 * v + 301 + (rBg k + p))
    have e2 := (nI_eq (by omega) (by omega)).mp e
    rw [e2] at u4 u2
    exact ⟨u4, u2⟩
  · rw [u2] at e
    exact absurd e.symm (nI_ne5 (by omega))
theorem has_iff {N : Nat → Nat} {v : Nat} {r : Rw} {σ : Nat → Nat} (h : rowR N v r σ) (hN : ∀ j, N j < 2 ^ 24) {n : Nat} (hn : n < 2 ^ 24) : rHas N v n ↔ ∃ j, j < 101 ∧ r.2.2.1 j = nI n := by
  have hl := row_len h
  constructor
  · rintro ⟨k, hk, p, hp, e⟩
    rw [h.1] at hp
    have hpw := Nat.lt_of_lt_of_le hp (rBl_wd hl.2 hk)
    rw [rId_e] at e
    rcases h.2.2.2.2 k p hk hpw with ⟨u1, u2, u3, u4⟩ | ⟨u1, u2⟩
    · exact ⟨lvN k + p, sl_lt hk hpw, by rw [u3, e]⟩
    · exact absurd hp u1
  · rintro ⟨j, hj, e⟩
    obtain ⟨k, p, hk, hp, rfl⟩ := sl_ex hj
    rcases h.2.2.2.2 k p hk hp with ⟨u1, u2, u3, u4⟩ | ⟨u1, u2⟩
    · refine ⟨k, hk, p, by rw [h.1]; exact u1, ?_⟩
      rw [rId_e]
      rw [u3] at e
      have := hN (403 * v + 301 + (rBg k + p))
      exact (nI_eq (by omega) (by omega)).mp e
    · rw [u2] at e
      exact absurd e.symm (nI_ne5 (by omega))
theorem has_at {N : Nat → Nat} {v : Nat} {r : Rw} {σ : Nat → Nat} (h : rowR N v r σ) (hN : ∀ j, N j < 2 ^ 24) {n j : Nat} (hn : n < 2 ^ 24) (hj : j < 101) (hs : σ n = j) : rHas N v n ↔ r.2.2.1 j = nI n := by
  rw [has_iff h hN hn]
  refine ⟨fun ⟨j2, hj2, e⟩ => ?_, fun e => ⟨j, hj, e⟩⟩
  have := (slot_of h hN hj2 hn e).1
  rw [← hs, this]; exact e
/-- a count over the blocks of a row -/
theorem sh_ok {N : Nat → Nat} {v : Nat} {r : Rw} {σ : Nat → Nat} (h : rowR N v r σ) (hN : ∀ j, N j < 2 ^ 24) {P : Nat → Prop} {Q : Nat → Prop} (hPQ : ∀ j n, j < 101 → n < 2 ^ 24 → r.2.2.1 j = nI n → σ n = j → (P n ↔ Q j)) : sumN (fun j => bN (0 ≤ r.2.2.1 j ∧ Q j)) 101 = sumN (rSh N v P) 5 := by
  have hl := row_len h
  have key := cnt_lv (f := fun j => bN (0 ≤ r.2.2.1 j ∧ Q j)) (g := fun k p => bN (P (rId N v k p))) (b := fun k => rBl (rLv (N (403 * v))) k) (fun k hk => by rw [h.1]; exact rBl_wd hl.2 hk) (fun k p hk hp => by
    have hp : p < rBl (rLv (N (403 * v))) k := hp
    rw [h.1] at hp
    have hpw := Nat.lt_of_lt_of_le hp (rBl_wd hl.2 hk)
    rcases h.2.2.2.2 k p hk hpw with ⟨u1, u2, u3, u4⟩ | ⟨u1, u2⟩
    · refine bN_iff ?_
      have hb := hN (403 * v + 301 + (rBg k + p))
      rw [rId_e, hPQ (lvN k + p) _ (sl_lt hk hpw) hb u3 u4]
      exact ⟨fun z => z.2, fun z => ⟨by rw [u3]; exact nI_pos' (by omega), z⟩⟩
    · exact absurd hp u1) (fun k p hk hp hpw => by
    have hp : rBl (rLv (N (403 * v))) k ≤ p := hp
    rw [h.1] at hp
    rcases h.2.2.2.2 k p hk hpw with ⟨u1, u2, u3, u4⟩ | ⟨u1, u2⟩
    · exact absurd u1 (Nat.not_lt.mpr hp)
    · refine bN_f (fun z => ?_)
      rw [u2] at z
      exact m5_neg z.1)
  exact key
theorem blk_ok {N : Nat → Nat} {v : Nat} {r : Rw} {σ : Nat → Nat} (h : rowR N v r σ) (hN : ∀ j, N j < 2 ^ 24) : sumN (fun z => bN (nI 0 ≤ r.2.2.1 z)) 101 = sumN (rBl (rLv r.2.2.2)) 5 := by
  have hl := row_len h
  have key := cnt_lv (f := fun j => bN (nI 0 ≤ r.2.2.1 j)) (g := fun _ _ => 1) (b := fun k => rBl (rLv r.2.2.2) k) (fun k hk => rBl_wd hl.2 hk) (fun k p hk hp => by
    have hpw := Nat.lt_of_lt_of_le hp (rBl_wd hl.2 hk)
    rcases h.2.2.2.2 k p hk hpw with ⟨u1, u2, u3, u4⟩ | ⟨u1, u2⟩
    · have hb := hN (403 * v + 301 + (rBg k + p))
      exact bN_t (by rw [u3]; exact (nI_leI (by omega) (by omega)).mpr (Nat.zero_le _))
    · exact absurd hp u1) (fun k p hk hp hpw => by
    rcases h.2.2.2.2 k p hk hpw with ⟨u1, u2, u3, u4⟩ | ⟨u1, u2⟩
    · exact absurd u1 (Nat.not_lt.mpr hp)
    · refine bN_f (fun z => ?_)
      rw [u2] at z
      exact m5_neg z)
  rw [key]
  exact sumN_congr (fun k _ => sumN_1 _)
/-- a block by level and place -/
theorem sl_val {α β : Nat} (h1 : α < 5) (h2 : β < wdN α) : slI (nI α) (nI β) = nI (lvN α + β) := by
  have hw := wdN_cs h1
  have e1 : nI (lvN (α + 1)) - nI (lvN α) = nI (wdN α) := nI_sub (by unfold wdN at h2 hw; omega)
  rw [slI, if_neg, nI_clamp (show α < 2 ^ 31 by omega), e1, if_pos ((nI_ltI (by omega) (by omega)).mpr h2), nI_add]
  rintro (z | z | z)
  · exact nI_pos (by omega) z
  · have := (nI_ltI (by omega) (by omega)).mp z; omega
  · exact nI_pos (by omega) z
theorem sl_no {α β : Nat} (ha : α < 2 ^ 31) (hb : β < 2 ^ 31) (h : ¬ (α < 5 ∧ β < wdN α)) : slI (nI α) (nI β) = -1 := by
  by_cases h1 : α < 5
  · have hw := wdN_cs h1
    have e1 : nI (lvN (α + 1)) - nI (lvN α) = nI (wdN α) := nI_sub (by unfold wdN at hw; omega)
    rw [slI, if_neg, nI_clamp ha, e1, if_neg (fun z => h ⟨h1, (nI_ltI (by omega) (by omega)).mp z⟩)]
    rintro (z | z | z)
    · exact nI_pos (by omega) z
    · have := (nI_ltI (by omega) (by omega)).mp z; omega
    · exact nI_pos (by omega) z
  · rw [slI, if_pos (Or.inr (Or.inl ((nI_ltI (by omega) ha).mpr (by omega))))]
theorem nu_ok {N : Nat → Nat} {v : Nat} {r : Rw} {σ : Nat → Nat} (h : rowR N v r σ) {α β : Nat} (ha : α < 2 ^ 31) (hb : β < 2 ^ 31) : nuI r.2.2.1 (nI α) (nI β) = if α < 5 ∧ β < rBl (rLv r.2.2.2) α then nI (rId N v α β) else -5 := by
  have hl := row_len h
  by_cases hc : α < 5 ∧ β < wdN α
  · have hs := sl_lt hc.1 hc.2
    rw [nuI, sl_val hc.1 hc.2, if_neg (nI_pos (by omega)), nI_clamp (by omega), rId_e]
    rcases h.2.2.2.2 α β hc.1 hc.2 with ⟨u1, u2, u3, u4⟩ | ⟨u1, u2⟩
    · rw [if_pos ⟨hc.1, u1⟩, u3]
    · rw [if_neg (fun z => u1 z.2), u2]
  · rw [nuI, sl_no ha hb hc, if_pos (by decide), if_neg (fun z => hc ⟨z.1, Nat.lt_of_lt_of_le z.2 (rBl_wd hl.2 z.1)⟩)]
/-- a value of a view -/
theorem vw_300 {N : Nat → Nat} {v : Nat} {w : Vw} {σ : Nat → Nat} (h : vwR N v w σ) : w.2.2.1 + w.2.2.2 ≤ 300 ∧ w.2.2.2 ≤ 300 ∧ w.2.2.1 ≤ 300 := by
  have h1 := row_len h.1
  have h2 := h.2.2.2.2.2.1
  omega
theorem vw_val {N : Nat → Nat} {v : Nat} {w : Vw} {σ : Nat → Nat} (h : vwR N v w σ) {j : Nat} (hj : j < w.2.2.2) : vwF w j = nI (rVal N v j) := by
  obtain ⟨⟨r1, r2, r3, r4, r5⟩, h2, h3, h4, h5, h6, h7⟩ := h
  have e : vwF w j = w.1.2.1 (w.2.2.1 + j) := if_pos (by omega)
  rw [e, r4 _ (by omega), rVal, ← h4]
  exact congrArg (fun z => nI (N z)) (by omega)
theorem sumI_ok {f : Nat → Int32} {g : Nat → Nat} : ∀ {n : Nat}, (∀ i, i < n → f i = nI (g i)) → sumI f n = nI (sumN g n)
  | 0, _ => nI_0.symm
  | n + 1, h => by
    show sumI f n + f n = nI (sumN g n + g n)
    rw [sumI_ok (fun i hi => h i (by omega)), h n (by omega), nI_add]
theorem mxJ_ok {f : Nat → Int32} {g : Nat → Nat} : ∀ {n : Nat}, (∀ i, i < n → f i = nI (g i)) → mxJ f n = mxI g n
  | 0, _ => rfl
  | n + 1, h => by
    show (if mxJ f n < f n then f n else mxJ f n) = (if mxI g n < nI (g n) then nI (g n) else mxI g n)
    rw [mxJ_ok (fun i hi => h i (by omega)), h n (by omega)]
theorem lst_spec (P : Nat → Bool) : ∀ n k : Nat, k ≤ lstN P n k ∧ lstN P n k ≤ k + n ∧ (∀ i, k ≤ i → i < lstN P n k → P i = false) ∧ (lstN P n k < k + n → P (lstN P n k) = true)
  | 0, k => ⟨Nat.le_refl _, Nat.le_refl _, fun i a b => absurd b (Nat.not_lt.mpr a), fun z => absurd z (Nat.lt_irrefl _)⟩
  | n + 1, k => by
    by_cases h : P k = true
    · have e : lstN P (n + 1) k = k := if_pos h
      rw [e]
      exact ⟨Nat.le_refl _, by omega, fun i a b => by omega, fun _ => h⟩
    · have e : lstN P (n + 1) k = lstN P n (k + 1) := if_neg h
      obtain ⟨h1, h2, h3, h4⟩ := lst_spec P n (k + 1)
      rw [e]
      refine ⟨by omega, by omega, fun i a b => ?_, fun z => h4 (by omega)⟩
      by_cases hi : i = k
      · rw [hi]; exact Bool.eq_false_iff.mpr h
      · exact h3 i (by omega) b
theorem lst_uni {P : Nat → Bool} {n k r : Nat} (h1 : k ≤ r) (h2 : r ≤ k + n) (h3 : ∀ i, k ≤ i → i < r → P i = false) (h4 : r < k + n → P r = true) : lstN P n k = r := by
  obtain ⟨g1, g2, g3, g4⟩ := lst_spec P n k
  rcases Nat.lt_trichotomy (lstN P n k) r with h | h | h
  · have a := g4 (by omega)
    rw [h3 _ g1 h] at a
    cases a
  · exact h
  · have a := h4 (by omega)
    rw [g3 r h1 h] at a
    cases a
theorem lst_cg {P Q : Nat → Bool} {n k : Nat} (h : ∀ i, k ≤ i → i < k + n → P i = Q i) : lstN P n k = lstN Q n k := by
  obtain ⟨g1, g2, g3, g4⟩ := lst_spec Q n k
  exact lst_uni g1 g2 (fun i a b => by rw [h i a (by omega)]; exact g3 i a b) (fun z => by rw [h _ g1 z]; exact g4 z)
