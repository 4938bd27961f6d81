theorem okN.mv4 {N N2 : Nat → Nat} {c d : Nat} (h : okN N c) (hN : ∀ j, j < 10173 → (∀ v, v < 24 → j ≠ 10075 + 4 * v) → N2 j = N j) (hlt : ∀ j, N2 j < 2 ^ 24) (hcd : c ≤ d) : okN N2 d := by
  obtain ⟨h1, h2, h3, h4, h5, h6⟩ := h
  have e := hN 10171 (by omega) (by omega)
  refine ⟨hlt, by omega, by omega, fun v hv => by rw [hN _ (by omega) (by omega)]; exact h4 v hv, fun v hv => ?_, by rw [hN 10172 (by omega) (by omega)]; omega⟩
  have hv2 : v < N 10171 := by omega
  rw [rLen_mv (hN _ (by omega) (by omega)) (hN _ (by omega) (by omega)) (hN _ (by omega) (by omega)), hN _ (by omega) (by omega), hN (403 * v) (by omega) (by omega)]
  exact h5 v hv2
theorem sumN_add (f : Nat → Nat) (a : Nat) : ∀ b, sumN f (a + b) = sumN f a + sumN (fun z => f (a + z)) b
  | 0 => rfl
  | b + 1 => by
    show sumN f (a + b) + f (a + b) = sumN f a + (sumN (fun z => f (a + z)) b + f (a + b))
    rw [sumN_add f a b, Nat.add_assoc]
theorem sumN_0 {f : Nat → Nat} : ∀ {n : Nat}, (∀ i, i < n → f i = 0) → sumN f n = 0
  | 0, _ => rfl
  | n + 1, h => by
    show sumN f n + f n = 0
    rw [sumN_0 (fun i hi => h i (Nat.lt_succ_of_lt hi)), h n (Nat.lt_succ_self n)]
theorem left_ok {vs : Nat → Option Vw} {N : Nat → Nat} {σ : Nat → Nat} {c : Nat} (hV : vsR vs N σ) (hok : okN N c) : sumN (fun z => N (10075 + 4 * z)) (N 10171) = vLeft vs := by
  have he := hok.2.2.1
  unfold vLeft
  rw [show 24 = N 10171 + (24 - N 10171) by omega, sumN_add, sumN_0 (n := 24 - N 10171), Nat.add_zero]
  · refine sumN_congr (fun i hi => ?_)
    rcases hV i (by omega) with ⟨_, a, w, b, _⟩ | ⟨a, b⟩
    · rw [a, bN_t (by rw [b]; intro z; cases z)]
    · rw [bN_f (fun z => z b)]; omega
  · intro i hi
    rcases hV (N 10171 + i) (by omega) with ⟨a, _⟩ | ⟨a, b⟩
    · omega
    · exact bN_f (fun z => z b)
theorem ac_drop {X : Xs} {N Hs Sl tx : Nat → Nat} {kept fil ty at_ nu c : Nat} (h : XR X N Hs Sl tx kept fil ty c) (v : Int32) : (cvDro X v).1 = (rmDrop (N, Hs, Sl, tx, kept, fil, ty, at_, nu) v).1 ∧ XM (cvDro X v).2 (rmDrop (N, Hs, Sl, tx, kept, fil, ty, at_, nu) v).2 (c + 200) := by
  obtain ⟨⟨a1, a2, σ, hV, hE⟩, hok, hrest⟩ := id h
  have hN := hok.1
  rcases no_at hV hok v with ⟨hn, hr⟩ | ⟨k, w, rfl, hk24, hke, hw, hr, _, hvw, hcl⟩
  · rw [cvDro, hn, oel_n, rmDrop, if_pos hr]; exact ⟨rfl, h.up⟩
  · rw [cvDro, hw, oel_s, rmDrop, if_neg hr, hcl, rmDropK]
    have e71 : updN N (10075 + 4 * k) 0 10171 = N 10171 := updN_n (by omega)
    have e72 : updN N (10075 + 4 * k) 0 10172 = N 10172 := updN_n (by omega)
    have hlt : ∀ j, updN N (10075 + 4 * k) 0 j < 2 ^ 24 := updN_lt hN (by omega)
    have hok2 : okN (updN N (10075 + 4 * k) 0) (c + 200) := hok.mv4 (fun j _ hj => updN_n (hj k hk24)) hlt (by omega)
    have hV2 : vsR (va_up X.1.1 k none) (updN N (10075 + 4 * k) 0) σ := fun z hz => by
      by_cases hzk : z = k
      · rw [hzk, va_up_self]; exact Or.inr ⟨Or.inr updN_s, rfl⟩
      · rw [va_up_ne _ _ hzk, e71, updN_n (show 10075 + 4 * z ≠ 10075 + 4 * k by omega)]
        exact (hV z hz).imp (fun ⟨a, b, w, d, e⟩ => ⟨a, b, w, d, e.mv (fun i hi => updN_n (by omega)) (fun i hi => updN_n (by omega)) (by rw [e72]; exact Nat.le_refl _) (fun _ _ => rfl)⟩) id
    exact ⟨by rw [left_ok hV2 hok2], h.act ⟨a1.trans e71.symm, a2.trans e72.symm, σ, hV2, hE.mv (fun j _ _ => updN_n (by omega)) (updN_n (by omega)) (fun j _ _ => updN_n (by omega)) (Nat.le_of_eq e72.symm) (fun _ _ => rfl)⟩ hok2⟩
