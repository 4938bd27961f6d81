/-! ===== editRead ===== -/
theorem cm_tk {tx : Nat → Nat} {ty : Nat} : ∀ (f i m : Nat), cmN tx (tkL tx ty f i m).1 = cmN tx i
  | 0, i, m => rfl
  | f + 1, i, m => by
    by_cases hgo : 0 < m ∧ rDg tx ty i
    · have e : tkL tx ty (f + 1) i m = tkL tx ty f (i + 1) (10 * m + tx i - 48) := if_pos hgo
      rw [e, cm_tk f]
      show cmN tx i + bN (tx i = 44) = cmN tx i
      rw [bN_f (by have := hgo.2.2.1; omega), Nat.add_zero]
    · have e : tkL tx ty (f + 1) i m = (i, m) := if_neg hgo
      rw [e]
theorem cm_num {tx : Nat → Nat} {ty a u : Nat} (h : rDg tx ty a) : cmN tx (tkR tx ty a u).1 = cmN tx a := by
  have e : tkR tx ty a u = tkL tx ty 2 (a + 1) (tx a - 48) := if_pos h
  rw [e, cm_tk]
  show cmN tx a + bN (tx a = 44) = _
  rw [bN_f (by have := h.2.1; omega), Nat.add_zero]
theorem cm_ok {tx : Nat → Nat} {ty : Nat} : ∀ (c a : Nat), pOk tx ty (c + 1) a → cmN tx ty = cmN tx a + c
  | 0, a, h => by
    obtain ⟨h1, h2⟩ := h
    have ht := tkR_at (u := 0) h1
    have e1 : ty ≤ (tkR tx ty a 0).1 := h2.elim (fun z => z.2) (fun z => absurd z.1 (Nat.lt_irrefl _))
    have e : (tkR tx ty a 0).1 = ty := by omega
    have := cm_num (u := 0) h1
    rw [e] at this
    rw [this, Nat.add_zero]
  | c + 1, a, h => by
    obtain ⟨h1, h2 | ⟨_, h3, h4, h5⟩⟩ := h
    · omega
    · rw [cm_ok c _ h5]
      show cmN tx (tkR tx ty a 0).1 + bN (tx (tkR tx ty a 0).1 = 44) + c = _
      rw [bN_t h4, cm_num h1]; omega
theorem vl_keep {tx : Nat → Nat} {n : Nat} : ∀ (d i j : Nat), j < (vlS tx n i).1 → (vlS tx n (i + d)).2 j = (vlS tx n i).2 j ∧ (vlS tx n i).1 ≤ (vlS tx n (i + d)).1
  | 0, i, j, h => ⟨rfl, Nat.le_refl _⟩
  | d + 1, i, j, h => by
    obtain ⟨g1, g2⟩ := vl_keep d i j h
    show (vlS tx n (i + d + 1)).2 j = _ ∧ _ ≤ (vlS tx n (i + d + 1)).1
    by_cases h4 : tx (i + d) = 44
    · have e : vlS tx n (i + d + 1) = ((vlS tx n (i + d)).1 + 1, (vlS tx n (i + d)).2) := by rw [vlS, if_pos h4]
      rw [e]; exact ⟨g1, Nat.le_succ_of_le g2⟩
    · by_cases hn : (vlS tx n (i + d)).1 < n
      · have e : vlS tx n (i + d + 1) = ((vlS tx n (i + d)).1, upd (vlS tx n (i + d)).2 (vlS tx n (i + d)).1 ((vlS tx n (i + d)).2 (vlS tx n (i + d)).1 * nI 10 + (nI (tx (i + d)) - nI 48))) := by rw [vlS, if_neg h4, if_pos hn]
        rw [e]
        refine ⟨?_, g2⟩
        show upd _ _ _ j = _
        rw [pk_un (by omega)]; exact g1
      · have e : vlS tx n (i + d + 1) = vlS tx n (i + d) := by rw [vlS, if_neg h4, if_neg hn]
        rw [e]; exact ⟨g1, g2⟩
/-- how far the reading has come: k values are pushed -/
def rdI (r0 : Rw) (V : Nat → Int32) (fo : Int32) (N0 σ0 : Nat → Nat) (k : Nat) (N : Nat → Nat) : Prop := (∃ σ, rowR N 24 (apR r0 V (N0 10172) fo k).1 σ ∧ ∀ n, n < N0 10172 → σ n = σ0 n) ∧ owR N 24 (apR r0 V (N0 10172) fo k).1.2.2.1 (fun a p => p < rBl (rLv (apR r0 V (N0 10172) fo k).1.2.2.2) a) fo ∧ flR N ∧ frR 24 N0 N ∧ N 10172 = N0 10172 + (apR r0 V (N0 10172) fo k).2 ∧ (apR r0 V (N0 10172) fo k).2 ≤ 5 * k ∧ (apR r0 V (N0 10172) fo k).1.1 = r0.1 ∧ (apR r0 V (N0 10172) fo k).1.2.2.2 = r0.2.2.2 + k ∧ ∀ j, N j < 2 ^ 24
theorem rd_step {r0 : Rw} {V : Nat → Int32} {fo : Int32} {N0 σ0 N : Nat → Nat} {k y : Nat} (h : rdI r0 V fo N0 σ0 k N) (hr : r0.2.2.2 + k < r0.1) (hV : V k = nI y) (hy : y < 2 ^ 24) (hM : N0 10172 < 2 ^ 22) (hk : k ≤ 60) : rdI r0 V fo N0 σ0 (k + 1) (rPu N 24 y) := by
  obtain ⟨⟨σ, h1, h2⟩, h3, h4, h5, h6, h7, h8, h9, h10⟩ := h
  have hl3 := h1.2.2.1
  have hlt : (apR r0 V (N0 10172) fo k).1.2.2.2 < 300 := by omega
  have hl1 := h1.1
  obtain ⟨σ2, g1, g2, g3, g4, g5, g6⟩ := row_pu (y := y) h1 h3 (by omega) hlt (by omega) (by omega)
  have e1 : (apR r0 V (N0 10172) fo (k + 1)).1 = rwWr (apR r0 V (N0 10172) fo k).1 (apR r0 V (N0 10172) fo k).1.2.2.2 (nI y) (N 10172) fo := by rw [h6, ← hV]; rfl
  have e2 : (apR r0 V (N0 10172) fo (k + 1)).2 = (apR r0 V (N0 10172) fo k).2 + rwWrC (apR r0 V (N0 10172) fo k).1 (apR r0 V (N0 10172) fo k).1.2.2.2 (N 10172) fo := by rw [h6]; rfl
  have eL : (rwWr (apR r0 V (N0 10172) fo k).1 (apR r0 V (N0 10172) fo k).1.2.2.2 (nI y) (N 10172) fo).2.2.2 = (apR r0 V (N0 10172) fo k).1.2.2.2 + 1 := if_pos rfl
  have hfac := rPu_fac (x := y) h10 (show 24 ≤ 24 by omega) (by rw [hl1]; exact hlt) (by omega) hy
  unfold rdI
  rw [e1, e2]
  refine ⟨⟨σ2, g1, fun n hn => (g4 n (by omega)).trans (h2 n hn)⟩, g2, rPu_fl (by omega) (by rw [hl1]; exact hlt) h4, fun j a b d => (g6 j a b d).trans (h5 j a b d), ?_, ?_, h8, ?_, hfac.1⟩
  · rw [g3, h6, Nat.add_assoc]
  · omega
  · rw [eL, h9]; rfl
theorem rd_ok {tx : Nat → Nat} {ty n : Nat} {r0 : Rw} {fo : Int32} {N0 σ0 : Nat → Nat} (hr : r0.2.2.2 + n ≤ r0.1) (hM : N0 10172 < 2 ^ 22) (hn : n ≤ 30) : ∀ (m k a u : Nat) (N : Nat → Nat), pOk tx ty (m + 1) a → k + (m + 1) = n → (vlS tx n a).1 = k → (∀ j, k ≤ j → (vlS tx n a).2 j = 0) → rdI r0 (vlS tx n ty).2 fo N0 σ0 k N → rdI r0 (vlS tx n ty).2 fo N0 σ0 n (rdL tx ty (m + 1) a u N).1 := by
  intro m
  induction m with
  | zero =>
    intro k a u N hp hk h1 h0 hI
    obtain ⟨hd, hp2⟩ := hp
    have ht := tkR_at (u := u) hd
    obtain ⟨v1, v2⟩ := vl_num (n := n) (u := u) (by omega) hd h1 rfl ((h0 k (Nat.le_refl _)).trans nI_0.symm)
    rw [tkR_u 0 u hd] at hp2
    have e1 : ty ≤ (tkR tx ty a u).1 := hp2.elim (fun z => z.2) (fun z => absurd z.1 (Nat.lt_irrefl _))
    have e : (tkR tx ty a u).1 = ty := by omega
    rw [e] at v2
    have hV : (vlS tx n ty).2 k = nI (tkR tx ty a u).2 := by rw [v2, pk_us]
    have hs := rd_step hI (by omega) hV (Nat.lt_trans (tkR_nu hd) (by omega)) hM (by omega)
    have hkn : k + 1 = n := by omega
    rw [hkn] at hs
    exact hs
  | succ m ih =>
    intro k a u N hp hk h1 h0 hI
    obtain ⟨hd, hp2 | ⟨_, h3, h4, h5⟩⟩ := hp
    · omega
    · rw [tkR_u 0 u hd] at h3 h4 h5
      obtain ⟨v1, v2⟩ := vl_num (n := n) (u := u) (by omega) hd h1 rfl ((h0 k (Nat.le_refl _)).trans nI_0.symm)
      have e : vlS tx n ((tkR tx ty a u).1 + 1) = ((vlS tx n (tkR tx ty a u).1).1 + 1, (vlS tx n (tkR tx ty a u).1).2) := by rw [vlS, if_pos h4]
      have w1 : (vlS tx n ((tkR tx ty a u).1 + 1)).1 = k + 1 := by rw [e, v1]
      have w2 : (vlS tx n ((tkR tx ty a u).1 + 1)).2 = upd (vlS tx n a).2 k (nI (tkR tx ty a u).2) := by rw [e, v2]
      have hkp := (vl_keep (tx := tx) (n := n) (ty - ((tkR tx ty a u).1 + 1)) ((tkR tx ty a u).1 + 1) k (by omega)).1
      rw [show (tkR tx ty a u).1 + 1 + (ty - ((tkR tx ty a u).1 + 1)) = ty by omega, w2, pk_us] at hkp
      have hs := rd_step hI (by omega) hkp (Nat.lt_trans (tkR_nu hd) (by omega)) hM (by omega)
      exact ih (k + 1) _ (tkR tx ty a u).2 _ h5 (by omega) w1 (fun j hj => by rw [w2, pk_un (by omega)]; exact h0 j (by omega)) hs
theorem vt_le {tx : Nat → Nat} {ty : Nat} (hty : ty ≤ 60) : ∀ (f a n u : Nat), a ≤ ty → 61 ≤ f + a → n ≤ a → (vtL tx ty f a n u).1 = -5 → (vtL tx ty f a n u).2.1 ≤ ty
  | 0, a, n, u, h1, h2, _, _ => by omega
  | f + 1, a, n, u, h1, h2, h3, h4 => by
    by_cases hd : rDg tx ty a
    · have ht := tkR_at (u := u) hd
      unfold vtL at h4 ⊢
      rw [if_pos hd] at h4 ⊢
      by_cases hl : (tkR tx ty a u).1 < ty
      · rw [if_pos hl] at h4 ⊢
        by_cases hc : tx (tkR tx ty a u).1 = 44
        · rw [if_pos hc] at h4 ⊢
          exact vt_le hty f _ _ _ (by omega) (by omega) (by omega) h4
        · rw [if_neg hc]; exact ht.2
      · rw [if_neg hl] at h4
        exact absurd h4 (nI_ne5 (by omega))
    · have e : vtL tx ty (f + 1) a n u = (-5, a, u) := if_neg hd
      rw [e]; exact h1
theorem nI_nem1 {n : Nat} (h : n < 2 ^ 31) : ¬ nI n = -1 := fun z => by
  have z2 := congrArg Int32.toInt z
  rw [nI_toInt h] at z2
  have e1 : (-1 : Int32).toInt = -1 := rfl
  omega
theorem ac_rea {X : Xs} {N Hs Sl tx : Nat → Nat} {kept fil ty at_ nu c : Nat} (h : XR X N Hs Sl tx kept fil ty c) (hc : c < 2 ^ 20) : (cvERe X).1 = (rmRea (N, Hs, Sl, tx, kept, fil, ty, at_, nu)).1 ∧ XM (cvERe X).2 (rmRea (N, Hs, Sl, tx, kept, fil, ty, at_, nu)).2 (c + 200) := by
  obtain ⟨⟨a1, a2, σ, hV, hE⟩, hok, h3, h4, h5, h6, h7, h8, h9, h10, h11, h12, h13, h14⟩ := id h
  have hN := hok.1
  have hM := hok.2.2.2.2.2
  rcases ed_at hE with ⟨h0, he⟩ | ⟨h0, h1, r, he, hr, ho, hfl⟩
  · rw [cvERe, he, oel_n, rmRea, if_pos h0]; exact ⟨rfl, h.up⟩
  · have hl300 : r.2.2.2 ≤ 300 := by have := hr.2.1; have := hr.2.2.1; omega
    have hlen := hr.1
    by_cases hf : (rVt tx ty nu).1 = -5
    · have e := (ft_ok (nu := nu) h11).1 hf
      have hle : (rVt tx ty nu).2.1 ≤ ty := vt_le h11 61 0 0 nu (Nat.zero_le _) (by omega) (Nat.le_refl _) hf
      rw [cvERe, he, oel_s, h9, h10, e, if_pos (nI_nem1 (by omega)), rmRea, if_neg h0, if_pos hf]
      exact ⟨rfl, h.up⟩
    · have e := (ft_ok (nu := nu) h11).2 hf
      obtain ⟨n, en, hn1, hn30, hp⟩ := rVt_ok h11 hf
      obtain ⟨m, rfl⟩ : ∃ m, n = m + 1 := ⟨n - 1, by omega⟩
      have ecm : cmN tx ty + 1 = m + 1 := by
        have := cm_ok m 0 hp
        have e0 : cmN tx 0 = 0 := rfl
        omega
      have eN : cvEReN X = m + 1 := by rw [cvEReN, h9, h10]; exact ecm
      have eV : cvEReV X = (vlS tx (m + 1) ty).2 := by rw [cvEReV, h9, h10, ecm]
      have ecl : (nI (m + 1)).toNatClampNeg = m + 1 := nI_clamp (by omega)
      rw [cvERe, he, oel_s, h9, h10, e, if_neg (fun z => z rfl), eN, eV, rmRea, if_neg h0, if_neg hf, en, ecl, hlen]
      by_cases hfu : 300 < r.2.2.2 + (m + 1)
      · rw [if_pos hfu, if_pos hfu]; exact ⟨rfl, h.up⟩
      · rw [if_neg hfu, if_neg hfu, a2]
        have hcap : (rwCp r (m + 1)).1 = r.2.2.2 + (m + 1) := if_pos (by omega)
        have hI0 : rdI (rwCp r (m + 1)) (vlS tx (m + 1) ty).2 X.1.2.2.2.2 N σ 0 N := ⟨⟨σ, hr.cp (m + 1), fun _ _ => rfl⟩, ho.cp (m + 1), hfl, fun _ _ _ _ => rfl, rfl, Nat.le_refl _, rfl, rfl, hN⟩
        have hI := rd_ok (tx := tx) (ty := ty) (n := m + 1) (Nat.le_of_eq hcap.symm) (by omega) hn30 m 0 0 (rVt tx ty nu).2.2 N hp (by omega) rfl (fun _ _ => rfl) hI0
        obtain ⟨⟨σ2, i1, i2⟩, i3, i4, i5, i6, i7, i8, i9, i10⟩ := hI
        refine ⟨?_, ed_act h hV h1 i5 i1 i3 i4 i2 i6 (by omega) i10⟩
        rw [i6, nI_sub (by omega), Nat.add_sub_cancel_left]
