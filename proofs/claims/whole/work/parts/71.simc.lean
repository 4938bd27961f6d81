theorem ac_ese {X : Xs} {N Hs Sl tx : Nat → Nat} {kept fil ty at_ nu c : Nat} (h : XR X N Hs Sl tx kept fil ty c) (hc : c < 2 ^ 20) (b x : Int32) : (cvESe X b x).1 = (rmEse (N, Hs, Sl, tx, kept, fil, ty, at_, nu) b x).1 ∧ XM (cvESe X b x).2 (rmEse (N, Hs, Sl, tx, kept, fil, ty, at_, nu) b x).2 (c + 200) := by
  obtain ⟨⟨a1, a2, σ, hV, hE⟩, hok, hrest⟩ := id h
  have hN := hok.1
  have hM := hok.2.2.2.2.2
  rcases ed_at hE with ⟨h0, he⟩ | ⟨h0, h1, r, he, hr, ho, hfl⟩
  · rw [cvESe, he, oel_n, rmEse, if_pos h0]; exact ⟨rfl, h.up⟩
  · have hl300 : r.2.2.2 ≤ 300 := by have := hr.2.1; have := hr.2.2.1; omega
    have hlen := hr.1
    have hin := in_iff (x := b) (n := r.2.2.2) (by omega)
    by_cases hb : b < 0 ∨ nI r.2.2.2 ≤ b
    · rw [cvESe, he, oel_s, if_pos hb, rmEse, if_neg h0, if_pos]
      · exact ⟨rfl, h.up⟩
      · show ¬ (nI 0 ≤ b ∧ b ≤ nI (N (403 * 24)) - nI 1)
        rw [hlen]
        intro z
        have z2 := hin.mp z
        exact hb.elim (fun y => le_ge32 y z2.1) (fun y => le_ge32 z2.2 y)
    have hb2 : ¬ ¬ (nI 0 ≤ b ∧ b ≤ nI (N (403 * 24)) - nI 1) := fun z => z (by rw [hlen]; exact hin.mpr ⟨Int32.not_lt.mp (fun y => hb (Or.inl y)), Int32.not_le.mp (fun y => hb (Or.inr y))⟩)
    by_cases hx : ¬ rVl x
    · rw [cvESe, he, oel_s, if_neg hb, if_pos hx, rmEse, if_neg h0, if_neg hb2, if_pos hx]; exact ⟨rfl, h.up⟩
    · obtain ⟨y, hy, rfl⟩ := rVl_of (Classical.not_not.mp hx)
      obtain ⟨j, hj, rfl⟩ := nI_of (fun u => hb (Or.inl u))
      have hjn : j < r.2.2.2 := (nI_ltI hj (by omega)).mp (Int32.not_le.mp (fun u => hb (Or.inr u)))
      rw [cvESe, he, oel_s, if_neg hb, if_neg hx, rmEse, if_neg h0, if_neg hb2, if_neg hx, nI_clamp (show y < 2 ^ 31 by omega), nI_clamp hj, rmEseK, a2]
      obtain ⟨σ2, g1, g2, g3, g4, g5, g6⟩ := row_se (q := j) (y := y) (hr.cp 1) (ho.cp 1) (by omega) hjn (by omega)
      have hlt2 := rSe_lt (q := j) (y := y) hN (show 24 ≤ 24 by omega) (by rw [hlen]; exact hl300) (by rw [hlen]; exact hjn) (by omega) (by omega)
      refine ⟨?_, ed_act h hV h1 g6 g1 g2 (rSe_fl (by omega) (by rw [hlen]; exact hl300) (by rw [hlen]; exact hjn) hfl) g4 g3 (Nat.le_trans g5 (by omega)) hlt2⟩
      rw [g3, nI_sub (by omega), Nat.add_sub_cancel_left]
theorem ac_epo {X : Xs} {N Hs Sl tx : Nat → Nat} {kept fil ty at_ nu c : Nat} (h : XR X N Hs Sl tx kept fil ty c) (hc : c < 2 ^ 20) : (cvEPo X).1 = (rmEpo (N, Hs, Sl, tx, kept, fil, ty, at_, nu)).1 ∧ XM (cvEPo X).2 (rmEpo (N, Hs, Sl, tx, kept, fil, ty, at_, nu)).2 (c + 200) := by
  obtain ⟨⟨a1, a2, σ, hV, hE⟩, hok, hrest⟩ := id h
  have hN := hok.1
  have hM := hok.2.2.2.2.2
  rcases ed_at hE with ⟨h0, he⟩ | ⟨h0, h1, r, he, hr, ho, hfl⟩
  · rw [cvEPo, he, oel_n, rmEpo, if_pos (Or.inl h0)]; exact ⟨rfl, h.up⟩
  · have hl300 : r.2.2.2 ≤ 300 := by have := hr.2.1; have := hr.2.2.1; omega
    have hlen := hr.1
    rw [cvEPo, he, oel_s, rmEpo]
    by_cases hf : r.2.2.2 = 0
    · rw [if_pos hf, if_pos (Or.inr (by rw [hlen]; exact hf))]; exact ⟨rfl, h.up⟩
    · rw [if_neg hf, if_neg (fun z => z.elim h0 (fun y => hf (by rw [← hlen]; exact y))), a2]
      obtain ⟨σ2, g1, g2, g3, g4, g5, g6⟩ := row_po (hr.cp 0) (ho.cp 0) (by omega) (show 1 ≤ r.2.2.2 by omega) (by omega)
      have hlt2 := rPo_lt hN (show 24 ≤ 24 by omega) (by rw [hlen]; exact hl300) (by omega)
      refine ⟨?_, ed_act h hV h1 g6 g1 g2 (rPo_fl (by omega) (by rw [hlen]; exact hl300) hfl) g4 g3 (Nat.le_trans g5 (by omega)) hlt2⟩
      rw [g3, nI_sub (by omega), Nat.add_sub_cancel_left]
theorem ac_beg {X : Xs} {N Hs Sl tx : Nat → Nat} {kept fil ty at_ nu c : Nat} (h : XR X N Hs Sl tx kept fil ty c) (hc : c < 2 ^ 20) (v : Int32) : (cvBeg X v).1 = (rmBeg (N, Hs, Sl, tx, kept, fil, ty, at_, nu) v).1 ∧ XM (cvBeg X v).2 (rmBeg (N, Hs, Sl, tx, kept, fil, ty, at_, nu) v).2 (c + 200) := by
  obtain ⟨⟨a1, a2, σ, hV, hE⟩, hok, hrest⟩ := id h
  have hN := hok.1
  have hM := hok.2.2.2.2.2
  rcases no_at hV hok v with ⟨hn, hr⟩ | ⟨k, w, rfl, hk24, hke, hw, hr, _, hvw, hcl⟩
  · rw [cvBeg, hn, oel_n, rmBeg, if_pos hr]; exact ⟨rfl, h.up⟩
  · obtain ⟨b1, b2, b3, b4, b5, b6, b7⟩ := id hvw
    rw [cvBeg, hw, oel_s, rmBeg, if_neg hr, hcl, rmBegK, ← b2]
    rcases ed_at hE with ⟨h0, he⟩ | ⟨h0, h1, r, he, _⟩
    · rw [he, oel_n]
      by_cases hwi : w.2.1 = 0
      · rw [if_pos hwi, if_neg (fun z => z.elim (fun y => y h0) (fun y => by omega)), a2]
        have hN2 : ∀ j, updN (clrN (cpyN N k 24 403) 102) 10173 1 j = if j = 10173 then 1 else if 10174 ≤ j ∧ j < 10276 then 0 else if 9672 ≤ j ∧ j < 10075 then N (403 * k + (j - 9672)) else N j := fun j => rfl
        have hlt : ∀ j, updN (clrN (cpyN N k 24 403) 102) 10173 1 j < 2 ^ 24 := fun j => by
          rw [hN2]
          split
          · omega
          · split
            · omega
            · split <;> exact hN _
        have hrow : ∀ i, i < 403 → updN (clrN (cpyN N k 24 403) 102) 10173 1 (403 * 24 + i) = N (403 * k + i) := fun i hi => by
          rw [hN2, if_neg (by omega), if_neg (by omega), if_pos (by omega), show 403 * 24 + i - 9672 = i by omega]
        have hel : ∀ j, j < 9672 ∨ (10075 ≤ j ∧ j < 10173) → updN (clrN (cpyN N k 24 403) 102) 10173 1 j = N j := fun j hj => by
          rw [hN2, if_neg (by omega), if_neg (by omega), if_neg (by omega)]
        have hown : ∀ i, i < 102 → updN (clrN (cpyN N k 24 403) 102) 10173 1 (10174 + i) = 0 := fun i hi => by
          rw [hN2, if_neg (by omega), if_pos (by omega)]
        have e72 := hel 10172 (by omega)
        have e71 := hel 10171 (by omega)
        have hlen24 : updN (clrN (cpyN N k 24 403) 102) 10173 1 (403 * 24) = w.1.2.2.2 := (hrow 0 (by omega)).trans b1.1
        refine ⟨by rw [hlen24], h.act (N2 := updN (clrN (cpyN N k 24 403) 102) 10173 1) ⟨a1.trans e71.symm, e72.symm, σ, hV.mv (fun j hj => hel j (by omega)) (fun j a b => hel j (by omega)) e71 (Nat.le_of_eq e72.symm) (fun _ _ => rfl), Or.inr ⟨(hN2 10173).trans (if_pos rfl), w.1, rfl, b1.mv hrow (Nat.le_of_eq e72.symm) (fun _ _ => rfl), ⟨fun z => absurd rfl z, fun _ => ⟨⟨N 10172, rfl, Nat.le_of_eq e72.symm⟩, fun a b ha hb hU => ?_⟩⟩, fun i hi => by rw [hown i hi]; omega⟩⟩ ?_⟩
        · rw [hown _ (id_lt ha hb)]
          rcases b1.2.2.2.2 a b ha hb with ⟨_, u2, u3, _⟩ | ⟨u1, _⟩
          · refine ⟨fun z => absurd z (by omega), fun z => ?_⟩
            have z2 : nI (N 10172) ≤ w.1.2.2.1 (lvN a + b) := z
            rw [u3] at z2
            have := (nI_leI (by omega) (by omega)).mp z2
            omega
          · exact absurd hU u1
        · obtain ⟨q1, q2, q3, q4, q5, q6⟩ := hok
          refine ⟨hlt, by omega, by omega, fun z hz => ?_, fun z hz => ?_, by omega⟩
          · by_cases hz24 : z = 24
            · rw [hz24, hlen24]; have := b1.2.1; have := b1.2.2.1; omega
            · rw [hel _ (by omega)]; exact q4 z hz
          · rw [rLen_mv (hel _ (by omega)) (hel _ (by omega)) (hel _ (by omega)), hel _ (by omega), hel (403 * z) (by omega)]
            exact q5 z (by omega)
      · rw [if_neg hwi, if_pos (Or.inr (by omega))]; exact ⟨rfl, h.up⟩
    · rw [he, oel_s, if_pos (Or.inl h0)]; exact ⟨rfl, h.up⟩
theorem ac_typ {X : Xs} {N Hs Sl tx : Nat → Nat} {kept fil ty at_ nu c : Nat} (h : XR X N Hs Sl tx kept fil ty c) (x : Nat) (hx : x < 65536) : (cvTyp X x).1 = (rmTyp (N, Hs, Sl, tx, kept, fil, ty, at_, nu) x).1 ∧ XM (cvTyp X x).2 (rmTyp (N, Hs, Sl, tx, kept, fil, ty, at_, nu) x).2 (c + 200) := by
  obtain ⟨h1, h2, h3, h4, h5, h6, h7, h8, h9, h10, h11, h12, h13, h14⟩ := h.up
  rw [cvTyp, rmTyp, h10, h9]
  by_cases ht : ty = 60
  · rw [if_neg (by omega), if_pos ht]; exact ⟨rfl, h.up⟩
  · rw [if_pos (by omega), if_neg ht]
    exact ⟨rfl, h1, h2, h3, h4, h5, h6, h7, h8, rfl, rfl, show ty + 1 ≤ 60 by omega, updN_lt h12 hx, h13, h14⟩
theorem ac_clr {X : Xs} {N Hs Sl tx : Nat → Nat} {kept fil ty at_ nu c : Nat} (h : XR X N Hs Sl tx kept fil ty c) : (cvClr X).1 = (rmClr (N, Hs, Sl, tx, kept, fil, ty, at_, nu)).1 ∧ XM (cvClr X).2 (rmClr (N, Hs, Sl, tx, kept, fil, ty, at_, nu)).2 (c + 200) := by
  obtain ⟨h1, h2, h3, h4, h5, h6, h7, h8, h9, h10, h11, h12, h13, h14⟩ := h.up
  rw [cvClr, rmClr, h10]
  exact ⟨rfl, h1, h2, h3, h4, h5, h6, h7, h8, h9, rfl, Nat.zero_le _, h12, h13, h14⟩
theorem cpA_lt {A B : Nat → Nat} {n : Nat} (h1 : ∀ j, A j < 2 ^ 24) (h2 : ∀ j, B j < 2 ^ 24) (j : Nat) : cpA A B n j < 2 ^ 24 := by
  unfold cpA
  split
  · exact h2 _
  · exact h1 _
theorem ac_und {X : Xs} {N Hs Sl tx : Nat → Nat} {kept fil ty at_ nu c : Nat} (h : XR X N Hs Sl tx kept fil ty c) : (cvUnd X).1 = (rmUnd (N, Hs, Sl, tx, kept, fil, ty, at_, nu)).1 ∧ XM (cvUnd X).2 (rmUnd (N, Hs, Sl, tx, kept, fil, ty, at_, nu)).2 (c + 200) := by
  obtain ⟨h1, h2, h3, h4, h5, h6, h7, h8, h9, h10, h11, h12, h13, h14⟩ := h.up
  rw [cvUnd, rmUnd, h6]
  by_cases hk : kept = 0
  · rw [if_pos hk, if_pos hk]; exact ⟨rfl, h.up⟩
  · rw [if_neg hk, if_neg hk]
    have e : ∀ i, i < 10276 → cpA N (fun j => Hs (10276 * (kept - 1) + j)) 10276 i = Hs (10276 * (kept - 1) + i) := fun i hi => if_pos hi
    obtain ⟨k1, k2⟩ := h8 (kept - 1) (by omega)
    exact ⟨rfl, k1.mv e, k2.mv e (cpA_lt h2.1 (fun _ => h13 _)) (Nat.le_refl _), h3, h4, h5, rfl, show kept - 1 ≤ 4 by omega, fun j hj => h8 j (Nat.lt_of_lt_of_le hj (Nat.sub_le _ _)), h9, h10, h11, h12, h13, h14⟩
theorem ac_kee {X : Xs} {N Hs Sl tx : Nat → Nat} {kept fil ty at_ nu c : Nat} (h : XR X N Hs Sl tx kept fil ty c) : (cvKee X).1 = (rmKee (N, Hs, Sl, tx, kept, fil, ty, at_, nu)).1 ∧ XM (cvKee X).2 (rmKee (N, Hs, Sl, tx, kept, fil, ty, at_, nu)).2 (c + 200) := by
  obtain ⟨h1, h2, h3, h4, h5, h6, h7, h8, h9, h10, h11, h12, h13, h14⟩ := h.up
  rw [cvKee, rmKee, h1.2.1]
  have e : ∀ i, i < 10276 → cpA Sl N 10276 i = N i := fun i hi => if_pos hi
  exact ⟨rfl, h1, h2, rfl, show 1 < 2 by omega, fun _ => ⟨h1.mv e, h2.mv e (cpA_lt h14 h2.1) (Nat.le_refl _)⟩, h6, h7, h8, h9, h10, h11, h12, h13, cpA_lt h14 h2.1⟩
theorem ac_res {X : Xs} {N Hs Sl tx : Nat → Nat} {kept fil ty at_ nu c : Nat} (h : XR X N Hs Sl tx kept fil ty c) : (cvRes X).1 = (rmRes (N, Hs, Sl, tx, kept, fil, ty, at_, nu)).1 ∧ XM (cvRes X).2 (rmRes (N, Hs, Sl, tx, kept, fil, ty, at_, nu)).2 (c + 200) := by
  obtain ⟨h1, h2, h3, h4, h5, h6, h7, h8, h9, h10, h11, h12, h13, h14⟩ := id h
  rw [cvRes, rmRes, h3]
  by_cases hf : fil = 0
  · rw [if_pos hf, if_pos hf]; exact ⟨rfl, h.up⟩
  · rw [if_neg hf, if_neg hf]
    have e : ∀ i, i < 10276 → cpA N Sl 10276 i = Sl i := fun i hi => if_pos hi
    obtain ⟨k1, k2⟩ := h5 (by omega)
    exact ⟨by rw [e _ (by omega), k1.2.1], h.act (k1.mv e) (k2.mv e (cpA_lt h2.1 h14) (by omega))⟩
