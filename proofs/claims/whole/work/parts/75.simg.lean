/-! ===== the readers, one by one ===== -/
theorem rd_get {X : Xs} {N Hs Sl tx : Nat → Nat} {kept fil ty c : Nat} (h : XR X N Hs Sl tx kept fil ty c) (v b : Int32) : cvGet X v b = rmGet N v b := by
  obtain ⟨⟨a1, a2, σ, hV, hE⟩, hok, hrest⟩ := id h
  rcases no_at hV hok v with ⟨hn, hr⟩ | ⟨k, w, rfl, hk24, hke, hw, hr, _, hvw, hcl⟩
  · rw [cvGet, hn, oel_n, rmGet, if_pos (Or.inl hr)]
  · have h300 := vw_300 hvw
    have hlen : rLen N k = w.2.2.2 := hvw.2.2.2.2.1.symm
    have hin := in_iff (x := b) (n := w.2.2.2) (by omega)
    have hin2 : (nI 0 ≤ b ∧ b ≤ nI (rLen N (nI k).toNatClampNeg) - nI 1) ↔ (0 ≤ b ∧ b < nI w.2.2.2) := by rw [hcl, hlen]; exact hin
    rw [cvGet, hw, oel_s, rmGet]
    by_cases hb : 0 ≤ b ∧ b < nI w.2.2.2
    · obtain ⟨j, hj, rfl⟩ := nI_of (Int32.not_lt.mpr hb.1)
      have hjn := (nI_ltI hj (by omega)).mp hb.2
      rw [if_neg (fun z => z hb), if_neg (fun z => z.elim hr (fun y => y (hin2.mpr hb))), nI_clamp hj, hcl]
      exact vw_val hvw hjn
    · rw [if_pos hb, if_pos (Or.inr (fun y => hb (hin2.mp y)))]
theorem rd_vec {X : Xs} {N Hs Sl tx : Nat → Nat} {kept fil ty c : Nat} (h : XR X N Hs Sl tx kept fil ty c) (v b : Int32) : cvVec X v b = rmVec N v b := by
  obtain ⟨⟨a1, a2, σ, hV, hE⟩, hok, hrest⟩ := id h
  have hN := hok.1
  rcases no_at hV hok v with ⟨hn, hr⟩ | ⟨k, w, rfl, hk24, hke, hw, hr, _, hvw, hcl⟩
  · rw [cvVec, hn, oel_n, rmVec, if_pos hr]
  · have h300 := vw_300 hvw
    have hlen : w.2.2.2 = rLen N k := hvw.2.2.2.2.1
    have hrl : N (403 * k) = w.1.2.2.2 := hvw.1.1
    rw [cvVec, hw, oel_s, rmVec, if_neg hr, hcl, cvVecK, rmVecK, hrl, blk_ok hvw.1 hN, ← hlen]
    refine ite_congr rfl (fun _ => rfl) (fun _ => ?_)
    refine ite_congr rfl (fun _ => ?_) (fun _ => ?_)
    · refine bI_iff ?_
      rw [← hvw.2.1]
      have := hvw.2.2.1
      omega
    refine ite_congr rfl (fun _ => ?_) (fun _ => ?_)
    · rw [hvw.2.2.2.1]
    refine ite_congr rfl (fun _ => rfl) (fun _ => ?_)
    refine ite_congr rfl (fun _ => rfl) (fun _ => ?_)
    refine ite_congr rfl (fun _ => rfl) (fun _ => ?_)
    refine ite_congr rfl (fun _ => rfl) (fun _ => ?_)
    refine ite_congr rfl (fun _ => ?_) (fun _ => ?_)
    · rw [Nat.mul_comm]
    refine ite_congr rfl (fun _ => ?_) (fun _ => ?_)
    · exact sumI_ok (fun i hi => vw_val hvw hi)
    exact ite_congr rfl (fun _ => mxJ_ok (fun i hi => vw_val hvw hi)) (fun _ => rfl)
theorem rd_blo {X : Xs} {N Hs Sl tx : Nat → Nat} {kept fil ty c : Nat} (h : XR X N Hs Sl tx kept fil ty c) (v b d : Int32) : cvBlo X v b d = rmBlo N v b d := by
  obtain ⟨⟨a1, a2, σ, hV, hE⟩, hok, hrest⟩ := id h
  rcases no_at hV hok v with ⟨hn, hr⟩ | ⟨k, w, rfl, hk24, hke, hw, hr, _, hvw, hcl⟩
  · rw [cvBlo, hn, oel_n, rmBlo, if_pos hr]
  · rw [cvBlo, hw, oel_s, rmBlo, if_neg hr, hcl]
    by_cases hb : b < 0 ∨ d < 0
    · rw [if_pos hb, if_pos hb]
    · obtain ⟨α, hα, rfl⟩ := nI_of (fun z => hb (Or.inl z))
      obtain ⟨β, hβ, rfl⟩ := nI_of (fun z => hb (Or.inr z))
      rw [if_neg hb, if_neg hb, nI_clamp hα, nI_clamp hβ, nu_ok hvw.1 hα hβ, rmBloK, hvw.1.1]
theorem rd_sha {X : Xs} {N Hs Sl tx : Nat → Nat} {kept fil ty c : Nat} (h : XR X N Hs Sl tx kept fil ty c) (v d : Int32) : cvSha X v d = rmSha N v d := by
  obtain ⟨⟨a1, a2, σ, hV, hE⟩, hok, hrest⟩ := id h
  have hN := hok.1
  rcases no_at hV hok v with ⟨hn, hr⟩ | ⟨k, w, rfl, hk24, hke, hw, hr, _, hvw, hcl⟩
  · rw [cvSha, hn, oel_n, rmSha, if_pos (Or.inl hr)]
  · rw [cvSha, hw, oel_s]
    rcases no_at hV hok d with ⟨hn2, hr2⟩ | ⟨k2, w2, rfl, hk242, hke2, hw2, hr2, _, hvw2, hcl2⟩
    · rw [hn2, oel_n, rmSha, if_pos (Or.inr hr2)]
    · rw [hw2, oel_s, rmSha, if_neg (fun z => z.elim hr hr2), hcl, hcl2]
      refine congrArg nI (sh_ok hvw.1 hN (P := fun z => rHas N k2 z) (Q := fun z => w2.1.2.2.1 z = w.1.2.2.1 z) (fun j n hj hn e hs => ?_))
      rw [has_at hvw2.1 hN hn hj hs, e]
theorem rd_dif {X : Xs} {N Hs Sl tx : Nat → Nat} {kept fil ty c : Nat} (h : XR X N Hs Sl tx kept fil ty c) (v d : Int32) : cvDif X v d = rmDif N v d := by
  obtain ⟨⟨a1, a2, σ, hV, hE⟩, hok, hrest⟩ := id h
  have hN := hok.1
  rcases no_at hV hok v with ⟨hn, hr⟩ | ⟨k, w, rfl, hk24, hke, hw, hr, _, hvw, hcl⟩
  · rw [cvDif, hn, oel_n, rmDif, if_pos (Or.inl hr)]
  · rw [cvDif, hw, oel_s]
    rcases no_at hV hok d with ⟨hn2, hr2⟩ | ⟨k2, w2, rfl, hk242, hke2, hw2, hr2, _, hvw2, hcl2⟩
    · rw [hn2, oel_n, rmDif, if_pos (Or.inr hr2)]
    · rw [hw2, oel_s, rmDif, if_neg (fun z => z.elim hr hr2), hcl, hcl2, ← hvw.2.2.2.2.1, ← hvw2.2.2.2.2.1]
      have hf : ∀ j, j < w.2.2.2 → vwF w j = nI (rVal N k j) := fun j hj => vw_val hvw hj
      have hg : ∀ j, j < w2.2.2.2 → vwF w2 j = nI (rVal N k2 j) := fun j hj => vw_val hvw2 hj
      have hbf : ∀ j, rVal N k j < 2 ^ 31 := fun j => by have := hN (403 * k + 1 + N (10075 + 4 * k + 2) + j); rw [rVal]; omega
      have hbg : ∀ j, rVal N k2 j < 2 ^ 31 := fun j => by have := hN (403 * k2 + 1 + N (10075 + 4 * k2 + 2) + j); rw [rVal]; omega
      generalize vwF w = f at hf ⊢
      generalize vwF w2 = g at hg ⊢
      generalize rVal N k = f2 at hf hbf ⊢
      generalize rVal N k2 = g2 at hg hbg ⊢
      generalize w.2.2.2 = n at hf ⊢
      generalize w2.2.2.2 = m at hg ⊢
      have hmn : (m < n ∧ miN n m = m) ∨ (n ≤ m ∧ miN n m = n) := by
        unfold miN
        by_cases hc : m < n
        · rw [if_pos hc]; exact Or.inl ⟨hc, rfl⟩
        · rw [if_neg hc]; exact Or.inr ⟨by omega, rfl⟩
      obtain ⟨s1, s2, s3, s4⟩ := lst_spec (dfQ f g) (miN n m) 0
      have key : lstN (difP f2 g2 n m) n 0 = lstN (dfQ f g) (miN n m) 0 := by
        refine lst_uni (Nat.zero_le _) (by omega) (fun i _ hi => ?_) (fun hlt => ?_)
        · have e1 := s3 i (Nat.zero_le _) hi
          unfold dfQ at e1
          have e2 : f i = g i := Classical.not_not.mp (of_decide_eq_false e1)
          rw [hf i (by omega), hg i (by omega)] at e2
          have e3 := (nI_eq (hbf i) (hbg i)).mp e2
          unfold difP
          rw [decide_eq_true (show i < n by omega), decide_eq_true (show i < m by omega), decide_eq_true e3]
          rfl
        · unfold difP
          by_cases hm : lstN (dfQ f g) (miN n m) 0 < miN n m
          · have e1 := s4 (by omega)
            unfold dfQ at e1
            have e2 := of_decide_eq_true e1
            have e3 : ¬ f2 (lstN (dfQ f g) (miN n m) 0) = g2 (lstN (dfQ f g) (miN n m) 0) := fun z => e2 (by
              have q1 := hf (lstN (dfQ f g) (miN n m) 0) (by omega)
              have q2 := hg (lstN (dfQ f g) (miN n m) 0) (by omega)
              unfold dfQ at q1 q2 z
              rw [q1, q2, z])
            rw [decide_eq_false e3]
            simp
          · rw [decide_eq_false (show ¬ lstN (dfQ f g) (miN n m) 0 < m by omega)]
            simp
      rw [dfI, difR, key]
      generalize lstN (dfQ f g) (miN n m) 0 = a at s1 s2
      by_cases ha : a < miN n m
      · rw [if_pos ha, if_neg (by omega)]
      · rw [if_neg ha]
        by_cases hnm : n = m
        · rw [if_pos hnm, if_pos (by omega)]
        · rw [if_neg hnm, if_neg (by omega), show miN n m = a by omega]
theorem rd_fnd {X : Xs} {N Hs Sl tx : Nat → Nat} {kept fil ty c : Nat} (h : XR X N Hs Sl tx kept fil ty c) (v x a : Int32) : cvFnd X v x a = rmFnd N v x a := by
  obtain ⟨⟨a1, a2, σ, hV, hE⟩, hok, hrest⟩ := id h
  rcases no_at hV hok v with ⟨hn, hr⟩ | ⟨k, w, rfl, hk24, hke, hw, hr, _, hvw, hcl⟩
  · rw [cvFnd, hn, oel_n, rmFnd, if_pos hr]
  · rw [cvFnd, hw, oel_s, rmFnd, if_neg hr, hcl, ← hvw.2.2.2.2.1]
    refine ite_congr rfl (fun _ => rfl) (fun ha => ?_)
    rw [fnI, fndR, lst_cg (P := fnQ (vwF w) x) (Q := fndP (rVal N k) x) (fun i h1 h2 => by unfold fnQ fndP; rw [vw_val hvw (by omega)])]
/-! what would be made -/
theorem rPl_cnt {N : Nat → Nat} {v l : Nat} (hv : v < 24) (hl : l ≤ 73) : ∀ K, K ≤ 4 → rPl N v l K 10172 = N 10172 + (K + 1)
  | 0, _ => (rMk_go (N := N) (r := v) (k := 0) (q := l) (w := 0) (by omega) (by omega) (by have := wd_dv (k := 0) (by omega) hl; simpa using this) (fun z => absurd z.1 (by omega))).2.1
  | K + 1, hK => by
    have e := (rMk_go (N := rPl N v l K) (r := v) (k := K + 1) (q := l / 4 ^ (K + 1)) (w := if l / 4 ^ (K + 1) < rBl l (K + 1) then 1 else 0) (by omega) (by omega) (wd_dv (by omega) hl) (fun z => absurd z.1 (by omega))).2.1
    have e2 := rPl_cnt (N := N) hv hl K (by omega)
    show rMk (rPl N v l K) v (K + 1) (l / 4 ^ (K + 1)) _ 10172 = _
    rw [e, e2]; omega
theorem rSl_cnt {N : Nat → Nat} {v l : Nat} (hv : v < 24) (hl : l ≤ 73) : ∀ K, K ≤ 5 → rSl N v l K 10172 = N 10172 + K
  | 0, _ => rfl
  | K + 1, hK => by
    have e := (rMk_go (N := rSl N v l K) (r := v) (k := K) (q := l / 4 ^ K) (w := 1) (by omega) (by omega) (wd_dv (by omega) hl) (fun z => absurd z.1 (by omega))).2.1
    have e2 := rSl_cnt (N := N) hv hl K (by omega)
    show rMk (rSl N v l K) v K (l / 4 ^ K) 1 10172 = _
    rw [e, e2]; omega
theorem rOl_cnt {N : Nat → Nat} {v t : Nat} (hv : v < 24) (ht : t ≤ 73) : ∀ K, K ≤ 4 → rOl N v t K 10172 = N 10172 + sumN (rWo t 0) K
  | 0, _ => rfl
  | K + 1, hK => by
    have e2 := rOl_cnt (N := N) hv ht K (by omega)
    show rOl N v t (K + 1) 10172 = N 10172 + (sumN (rWo t 0) K + rWo t 0 K)
    by_cases hc : t / 4 ^ (K + 1) < rBl t (K + 1)
    · have e := (rMk_go (N := rOl N v t K) (r := v) (k := K + 1) (q := t / 4 ^ (K + 1)) (w := 1) (by omega) (by omega) (wd_dv (by omega) ht) (fun z => absurd z.1 (by omega))).2.1
      have e3 : rOl N v t (K + 1) = rMk (rOl N v t K) v (K + 1) (t / 4 ^ (K + 1)) 1 := if_pos hc
      have e4 : rWo t 0 K = 1 := if_pos hc
      rw [e3, e, e2, e4]; omega
    · have e3 : rOl N v t (K + 1) = rOl N v t K := if_neg hc
      have e4 : rWo t 0 K = 0 := if_neg hc
      rw [e3, e2, e4]; omega
theorem rPu_cnt {N : Nat → Nat} {v y n : Nat} (hv : v < 24) (hn : N (403 * v) = n) (hl : n < 300) : rPu N v y 10172 = N 10172 + (if 0 < n ∧ n % 4 = 0 then 1 + rRt (rLv n + 1) else 0) := by
  have h1 := rLv_c n
  unfold rPu
  rw [updN_n (by omega), updN_n (by omega), hn]
  by_cases hc : 0 < n ∧ n % 4 = 0
  · rw [if_pos hc, if_pos hc, rPl_cnt hv (by omega) _ (rRt_le _)]; omega
  · rw [if_neg hc, if_neg hc]; rfl
theorem rSe_cnt {N : Nat → Nat} {v y n : Nat} (hv : v < 24) (hn : N (403 * v) = n) (hl : n ≤ 300) : rSe N v 0 y 10172 = N 10172 + (if rLv n = 0 then 0 else 1 + rRt (rLv n)) := by
  have h2 := rRt_le (rLv n)
  unfold rSe
  rw [updN_n (by omega), hn]
  by_cases hc : rLv n = 0
  · rw [if_neg (by omega), if_pos hc]; rfl
  · rw [if_pos (by omega), if_neg hc, rSl_cnt hv (by omega) _ (by omega)]; omega
theorem rPo_cnt {N : Nat → Nat} {v n : Nat} (hv : v < 24) (hn : N (403 * v) = n) (hl : n ≤ 300) (h1 : 1 ≤ n) : rPo N v 10172 = N 10172 + (if rLv (n - 1) < rLv n then sumN (rWo (rLv (n - 1)) 0) (rCt (rLv (n - 1))) else 0) := by
  have h3 := rLv_c (n - 1)
  have h4 := rLv_le hl
  unfold rPo
  rw [updN_n (by omega), hn, show n - 1 + 1 = n by omega]
  by_cases hc : rLv (n - 1) < rLv n
  · rw [if_pos hc, if_pos hc, rOl_cnt hv (by omega) _ (rCt_le _)]
  · rw [if_neg hc, if_neg hc]; rfl
theorem rd_wou {X : Xs} {N Hs Sl tx : Nat → Nat} {kept fil ty c : Nat} (h : XR X N Hs Sl tx kept fil ty c) (hc : c < 2 ^ 20) (v b : Int32) : cvWou X v b = rmWou N v b := by
  obtain ⟨⟨a1, a2, σ, hV, hE⟩, hok, hrest⟩ := id h
  have hM := hok.2.2.2.2.2
  rcases no_at hV hok v with ⟨hn, hr⟩ | ⟨k, w, rfl, hk24, hke, hw, hr, _, hvw, hcl⟩
  · rw [cvWou, hn, oel_n, rmWou, if_pos hr]
  · have hrow := hvw.1
    have hrl : N (403 * k) = w.1.2.2.2 := hrow.1
    have hl := row_len hrow
    rw [cvWou, hw, oel_s, rmWou, if_neg hr, hcl]
    by_cases hb : b < 0 ∨ nI 2 < b
    · rw [if_pos hb, if_pos (fun z => hb.elim (fun y => absurd (show (0 : Int32) ≤ b from z.1) (Int32.not_le.mpr y)) (fun y => absurd z.2 (Int32.not_le.mpr y)))]
    · have hnb : ¬ ¬ (nI 0 ≤ b ∧ b ≤ nI 2) := fun z => z ⟨(Int32.not_lt.mp (fun y => hb (Or.inl y)) : (0 : Int32) ≤ b), Int32.not_lt.mp (fun y => hb (Or.inr y))⟩
      rw [if_neg hb, if_neg hnb, rmWouK, hrl, ← hvw.2.1]
      have hw2 := hvw.2.2.1
      have hiff : (w.2.1 ≠ 0 ∨ (if b = 0 then 300 ≤ w.1.2.2.2 else w.1.2.2.2 = 0)) ↔ (w.2.1 = 1 ∨ (if b = 0 then w.1.2.2.2 = 300 else w.1.2.2.2 = 0)) := by
        by_cases h0 : b = 0
        · rw [if_pos h0, if_pos h0]; omega
        · rw [if_neg h0, if_neg h0]; omega
      by_cases hcc : w.2.1 ≠ 0 ∨ (if b = 0 then 300 ≤ w.1.2.2.2 else w.1.2.2.2 = 0)
      · rw [if_pos hcc, if_pos (hiff.mp hcc)]
      · rw [if_neg hcc, if_neg (fun z => hcc (hiff.mpr z)), cvWouK, a2]
        by_cases h0 : b = 0
        · rw [if_pos h0] at hcc
          have hlt : w.1.2.2.2 < 300 := by omega
          obtain ⟨σ2, g1, g2, g3, g4, g5, g6⟩ := row_pu (y := 0) (hrow.cp 1) (ow_new hk24 _ _) (by omega) hlt (cap1 hlt) (by omega)
          rw [rPu_cnt hk24 hrl hlt] at g3
          have e : rwWrC (rwCp w.1 1) w.1.2.2.2 (N 10172) cNO = (if 0 < w.1.2.2.2 ∧ w.1.2.2.2 % 4 = 0 then 1 + rRt (rLv w.1.2.2.2 + 1) else 0) := (Nat.add_left_cancel g3).symm
          rw [if_pos h0, if_pos h0, e]
          by_cases hq : 0 < w.1.2.2.2 ∧ w.1.2.2.2 % 4 = 0
          · rw [if_pos hq, if_pos hq]
          · rw [if_neg hq, if_neg hq]; exact nI_0
        · rw [if_neg h0] at hcc
          have hpos : 1 ≤ w.1.2.2.2 := by omega
          obtain ⟨j, hj, rfl⟩ := nI_of (fun z => hb (Or.inl z))
          have hj2 : j ≤ 2 := Nat.not_lt.mp (fun z => hb (Or.inr ((nI_ltI (by omega) hj).mpr z)))
          have hj0 : j ≠ 0 := fun z => h0 (by rw [z]; exact nI_0)
          rw [if_neg h0, if_neg h0]
          rcases (show j = 1 ∨ j = 2 by omega) with rfl | rfl
          · obtain ⟨σ2, g1, g2, g3, g4, g5, g6⟩ := row_po (hrow.cp 1) (ow_new hk24 _ _) (by omega) (show 1 ≤ w.1.2.2.2 from hpos) (by omega)
            rw [rPo_cnt hk24 hrl hl.1 hpos] at g3
            rw [if_pos (show nI 1 = 1 from rfl), if_neg (by decide), ← Nat.add_left_cancel g3]
          · obtain ⟨σ2, g1, g2, g3, g4, g5, g6⟩ := row_se (q := 0) (y := 0) (hrow.cp 1) (ow_new hk24 _ _) (by omega) (show 0 < w.1.2.2.2 by omega) (by omega)
            rw [rSe_cnt hk24 hrl hl.1] at g3
            rw [if_neg (by decide), if_pos rfl, ← Nat.add_left_cancel g3]
            by_cases hq : rLv w.1.2.2.2 = 0
            · rw [if_pos hq, if_pos hq]; exact nI_0
            · rw [if_neg hq, if_neg hq]
