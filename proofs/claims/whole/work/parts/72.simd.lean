/-! ===== texts ===== -/
theorem ft_tk {tx : Nat → Nat} {ty : Nat} : ∀ (f i d n : Nat), i ≤ ty → 1 ≤ d → d + f = 3 → (n = 0 ↔ (d = 1 ∧ tx (i - 1) = 48)) →
    ftL tx ty (ty - i) i d = if (tkL tx ty f i n).1 < ty then (if tx (tkL tx ty f i n).1 = 44 then ftL tx ty (ty - ((tkL tx ty f i n).1 + 1)) ((tkL tx ty f i n).1 + 1) 0 else nI (tkL tx ty f i n).1) else -1 := by
  intro f
  induction f with
  | zero =>
    intro i d n hi hd hdf hn
    show _ = if i < ty then (if tx i = 44 then _ else nI i) else -1
    by_cases h : i < ty
    · rw [if_pos h, ftL_s (by omega)]
      by_cases hg : 48 ≤ tx i ∧ tx i ≤ 57
      · rw [if_pos hg, if_pos (Or.inr (by omega)), if_neg (by omega)]
      · rw [if_neg hg]
        by_cases h4 : tx i = 44
        · rw [if_pos ⟨h4, by omega⟩, if_pos h4]; congr 1
        · rw [if_neg (fun z => h4 z.1), if_neg h4]
    · rw [if_neg h, show ty - i = 0 by omega]
      exact if_neg (by omega)
  | succ f ih =>
    intro i d n hi hd hdf hn
    by_cases hgo : 0 < n ∧ rDg tx ty i
    · have e : tkL tx ty (f + 1) i n = tkL tx ty f (i + 1) (10 * n + tx i - 48) := if_pos hgo
      obtain ⟨g1, g2, g3, g4⟩ := hgo
      rw [e, ftL_s (by omega), if_pos ⟨g3, g4⟩, if_neg (by omega), show ty - i - 1 = ty - (i + 1) by omega]
      exact ih (i + 1) (d + 1) _ (by omega) (by omega) (by omega) (by omega)
    · have e : tkL tx ty (f + 1) i n = (i, n) := if_neg hgo
      rw [e]
      show _ = if i < ty then (if tx i = 44 then _ else nI i) else -1
      by_cases h : i < ty
      · rw [if_pos h, ftL_s (by omega)]
        by_cases hg : 48 ≤ tx i ∧ tx i ≤ 57
        · rw [if_pos hg, if_pos (Or.inl (hn.mp (by
            by_cases hn0 : n = 0
            · exact hn0
            · exact absurd ⟨by omega, h, hg.1, hg.2⟩ hgo))), if_neg (by omega)]
        · rw [if_neg hg]
          by_cases h4 : tx i = 44
          · rw [if_pos ⟨h4, by omega⟩, if_pos h4]; congr 1
          · rw [if_neg (fun z => h4 z.1), if_neg h4]
      · rw [if_neg h, show ty - i = 0 by omega]
        exact if_neg (by omega)
theorem ft_num {tx : Nat → Nat} {ty a u : Nat} (h : rDg tx ty a) : ftL tx ty (ty - a) a 0 = if (tkR tx ty a u).1 < ty then (if tx (tkR tx ty a u).1 = 44 then ftL tx ty (ty - ((tkR tx ty a u).1 + 1)) ((tkR tx ty a u).1 + 1) 0 else nI (tkR tx ty a u).1) else -1 := by
  obtain ⟨h1, h2, h3⟩ := h
  have e : tkR tx ty a u = tkL tx ty 2 (a + 1) (tx a - 48) := if_pos ⟨h1, h2, h3⟩
  rw [e, ftL_s (by omega), if_pos ⟨h2, h3⟩, if_neg (by omega), show ty - a - 1 = ty - (a + 1) by omega]
  exact ft_tk 2 (a + 1) (0 + 1) _ (by omega) (by omega) (by omega) (by rw [Nat.add_sub_cancel]; omega)
theorem ft_vt {tx : Nat → Nat} {ty : Nat} (hty : ty ≤ 60) : ∀ (f a n u : Nat), a ≤ ty → 61 ≤ f + a → n ≤ a → ((vtL tx ty f a n u).1 = -5 → ftL tx ty (ty - a) a 0 = nI (vtL tx ty f a n u).2.1) ∧ (¬ (vtL tx ty f a n u).1 = -5 → ftL tx ty (ty - a) a 0 = -1)
  | 0, a, n, u, h1, h2, _ => by omega
  | f + 1, a, n, u, h1, h2, h3 => by
    by_cases hd : rDg tx ty a
    · have ht := tkR_at (u := u) hd
      rw [ft_num (u := u) hd]
      unfold vtL
      rw [if_pos hd]
      by_cases hl : (tkR tx ty a u).1 < ty
      · rw [if_pos hl, if_pos hl]
        by_cases hc : tx (tkR tx ty a u).1 = 44
        · rw [if_pos hc, if_pos hc]
          exact ft_vt hty f _ _ _ (by omega) (by omega) (by omega)
        · rw [if_neg hc, if_neg hc]
          exact ⟨fun _ => rfl, fun z => absurd rfl z⟩
      · rw [if_neg hl, if_neg hl]
        exact ⟨fun z => absurd z (nI_ne5 (by omega)), fun _ => rfl⟩
    · have e : vtL tx ty (f + 1) a n u = (-5, a, u) := if_neg hd
      rw [e]
      refine ⟨fun _ => ?_, fun z => absurd rfl z⟩
      show _ = nI a
      by_cases h : a < ty
      · rw [ftL_s (by omega), if_neg (fun z => hd ⟨h, z.1, z.2⟩), if_neg (by omega)]
      · rw [show ty - a = 0 by omega, show a = ty by omega]; exact if_pos rfl
theorem ft_ok {tx : Nat → Nat} {ty nu : Nat} (hty : ty ≤ 60) : ((rVt tx ty nu).1 = -5 → ftL tx ty ty 0 0 = nI (rVt tx ty nu).2.1) ∧ (¬ (rVt tx ty nu).1 = -5 → ftL tx ty ty 0 0 = -1) := ft_vt hty 61 0 0 nu (Nat.zero_le _) (by omega) (Nat.le_refl _)
/-- how a number's characters are read -/
theorem vl_dg {tx : Nat → Nat} {n i k m : Nat} {A : Nat → Int32} (hv : (vlS tx n i).1 = k) (hA : (vlS tx n i).2 = A) (hk : k < n) (hm : A k = nI m) (h1 : 48 ≤ tx i) (h2 : tx i ≤ 57) : (vlS tx n (i + 1)).1 = k ∧ (vlS tx n (i + 1)).2 = upd A k (nI (10 * m + tx i - 48)) := by
  have e : vlS tx n (i + 1) = ((vlS tx n i).1, upd (vlS tx n i).2 (vlS tx n i).1 ((vlS tx n i).2 (vlS tx n i).1 * nI 10 + (nI (tx i) - nI 48))) := by
    rw [vlS, if_neg (by omega), if_pos (by omega)]
  rw [e]
  refine ⟨hv, ?_⟩
  show upd (vlS tx n i).2 (vlS tx n i).1 ((vlS tx n i).2 (vlS tx n i).1 * nI 10 + (nI (tx i) - nI 48)) = _
  rw [hA, hv, hm, nI_sub h1, pk_mul, nI_add, show m * 10 + (tx i - 48) = 10 * m + tx i - 48 by omega]
theorem upd_upd {A : Nat → Int32} {k : Nat} {x y : Int32} : upd (upd A k x) k y = upd A k y := by
  funext j
  by_cases h : j = k
  · subst h; rw [pk_us, pk_us]
  · rw [pk_un h, pk_un h, pk_un h]
theorem vl_tk {tx : Nat → Nat} {ty n k : Nat} (hk : k < n) : ∀ (f i m : Nat) (A : Nat → Int32), (vlS tx n i).1 = k → (vlS tx n i).2 = A → A k = nI m → (vlS tx n (tkL tx ty f i m).1).1 = k ∧ (vlS tx n (tkL tx ty f i m).1).2 = upd A k (nI (tkL tx ty f i m).2)
  | 0, i, m, A, h1, h2, h3 => by
    refine ⟨h1, ?_⟩
    show (vlS tx n i).2 = upd A k (nI m)
    rw [h2]
    funext j
    by_cases h : j = k
    · subst h; rw [pk_us, h3]
    · rw [pk_un h]
  | f + 1, i, m, A, h1, h2, h3 => by
    by_cases hgo : 0 < m ∧ rDg tx ty i
    · have e : tkL tx ty (f + 1) i m = tkL tx ty f (i + 1) (10 * m + tx i - 48) := if_pos hgo
      rw [e]
      obtain ⟨g1, g2⟩ := vl_dg h1 h2 hk h3 hgo.2.2.1 hgo.2.2.2
      obtain ⟨q1, q2⟩ := vl_tk hk f (i + 1) _ _ g1 g2 pk_us
      exact ⟨q1, by rw [q2, upd_upd]⟩
    · have e : tkL tx ty (f + 1) i m = (i, m) := if_neg hgo
      rw [e]
      refine ⟨h1, ?_⟩
      show (vlS tx n i).2 = upd A k (nI m)
      rw [h2]
      funext j
      by_cases h : j = k
      · subst h; rw [pk_us, h3]
      · rw [pk_un h]
theorem vl_num {tx : Nat → Nat} {ty n k a u : Nat} {A : Nat → Int32} (hk : k < n) (h : rDg tx ty a) (h1 : (vlS tx n a).1 = k) (h2 : (vlS tx n a).2 = A) (h3 : A k = nI 0) : (vlS tx n (tkR tx ty a u).1).1 = k ∧ (vlS tx n (tkR tx ty a u).1).2 = upd A k (nI (tkR tx ty a u).2) := by
  have e : tkR tx ty a u = tkL tx ty 2 (a + 1) (tx a - 48) := if_pos h
  rw [e]
  obtain ⟨g1, g2⟩ := vl_dg h1 h2 hk h3 h.2.1 h.2.2
  rw [Nat.mul_zero, Nat.zero_add] at g2
  obtain ⟨q1, q2⟩ := vl_tk (ty := ty) hk 2 (a + 1) (tx a - 48) _ g1 g2 pk_us
  exact ⟨q1, by rw [q2, upd_upd]⟩
