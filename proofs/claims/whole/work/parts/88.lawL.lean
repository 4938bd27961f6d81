/-! ===== the law's loop ===== -/
theorem lwI.up {G : xG} {t5 n0 nv sn sv hi ha s0 v0 s1 v1 s2 v2 s3 v3 tx tc tr tw tn m0 aN aH aS aT i : Nat} {X : Xs} {M : RM} {H : Heap} (h : lwI G t5 n0 nv sn sv hi ha s0 v0 s1 v1 s2 v2 s3 v3 tx tc tr tw tn m0 aN aH aS aT i X M H) : lwI G t5 n0 nv sn sv hi ha s0 v0 s1 v1 s2 v2 s3 v3 tx tc tr tw tn m0 aN aH aS aT (i + 1) X M H := by
  obtain ⟨h1, h2, h3, h4, c, h5, h6⟩ := h
  exact ⟨h1, h2, h3, h4, c, by omega, h6⟩
set_option maxHeartbeats 4000000 in
set_option maxRecDepth 100000 in
theorem law_loop {p : Program} {e : Env} {s : State} {m : MethodId} {below : List Frame} {meth : Method} {c : Code} (l : Launch) {b L : Nat} {xs : Nat → Int32} {G : xG} (C : lwC p s m c G b L xs) (hr : meth.sig.returnType = ret) (hlocks : meth.locks = false) {t5 n0 nv sn sv hi ha s0 v0 s1 v1 s2 v2 s3 v3 tx tc tr tw tn m0 aN aH aS aT : Nat} : ∀ (n i : Nat) (X : Xs) (M : RM) (H : Heap) (locs : List Loc) (ls : Array Slot), L < 4 * i + 4 * n → 4 * i ≤ L → lv_has ls 4 [(0, .ref b), (1, .ref t5), (2, .ref m0), (3, .int (nI (4 * i)))] → va_S (fun q => s.heap.size ≤ q) s.heap H locs → lwI G t5 n0 nv sn sv hi ha s0 v0 s1 v1 s2 v2 s3 v3 tx tc tr tw tn m0 aN aH aS aT i X M H → W p l e room_1 s m #[Value.ref b] below meth c H locs (29 + 4 * i) (62785 + 465 * i) (lw_Z below #[Value.ref b] s) (F0 m 18 ls []) := by
  obtain ⟨hE, hB0, S, hX, hbl, hL⟩ := id C
  obtain ⟨hx, hb, hml, hown, hts⟩ := id S
  have hbA : ¬ (fun q : Nat => s.heap.size ≤ q) b := Nat.not_le.mpr hbl
  intro n
  induction n with
  | zero => intro i X M H locs ls h1 h2; omega
  | succ n ih =>
    intro i X M H locs ls h1 h2 hl hS hI
    refine lv_iload_n hx hb dL_law_18 rfl (lv_at hl 3 rfl) ?_
    refine lv_aload_n hx hb dL_law_19 rfl (lv_at hl 0 rfl) ?_
    refine va_slen hx hb hX hbl hbA hS dL_law_20 ?_
    refine lv_iconst (v := nI 4) hx hb dL_law_21 rfl ?_
    refine lv_isub hx hb dL_law_22 ?_
    refine lv_icmp_gt (tgt := 828) hx hb dL_law_23 (by decide) (fun hc => ?_) (fun hc => ?_)
    · refine lv_iconst (v := 1) hx hb dL_law_828 rfl ?_
      refine va_forget (fun q hq => hS.2.2 q hq) ?_
      refine W.widen (k := 600000) (n := 7302250) (by omega) (by omega) ?_
      exact lw_ret hx hb hr hlocks dL_law_829
    · have hc : ¬ nI L - nI 4 < nI (4 * i) := hc
      have h4 : 4 * i + 4 ≤ L := by
        have e1 := pk_sub_toInt (a := L) (b := 4) (by omega) (by omega)
        rw [Int32.lt_iff_toInt_lt, nI_toInt (by omega), e1] at hc
        omega
      have K : ∀ (X1 : Xs) (M1 : RM) (H1 : Heap) (locs1 : List Loc), va_S (fun q => s.heap.size ≤ q) s.heap H1 locs1 → lwI G t5 n0 nv sn sv hi ha s0 v0 s1 v1 s2 v2 s3 v3 tx tc tr tw tn m0 aN aH aS aT (i + 1) X1 M1 H1 → W p l e room_1 s m #[Value.ref b] below meth c H1 locs1 (29 + 4 * (i + 1)) (62785 + 465 * (i + 1)) (lw_Z below #[Value.ref b] s) (F0 m 822 ls []) := fun X1 M1 H1 locs1 hS1 hI1 => by
        refine lv_iinc (v := nI (4 * (i + 1))) (lv' := [(3, .int (nI (4 * (i + 1)))), (0, .ref b), (1, .ref t5), (2, .ref m0)]) hx hb dL_law_822 hl (k := 3) rfl ?_ (by decide) rfl (fun ls hl => ?_)
        · rw [show Int32.ofInt 4 = nI 4 from rfl, nI_add]; congr 1
        refine lv_goto (tgt := 18) hx hb dL_law_825 (by decide) ?_
        exact ih (i + 1) X1 M1 H1 locs1 ls (by omega) (by omega) (lv_sub hl [1, 2, 3, 0] rfl) hS1 hI1
      refine lv_aload_n hx hb dL_law_26 rfl (lv_at hl 0 rfl) ?_
      refine lv_iload_n hx hb dL_law_27 rfl (lv_at hl 3 rfl) ?_
      refine va_sld hx hb hX hbl hbA hS (vp_in_nI (show 4 * i < L by omega) (by omega)) dL_law_28 ?_
      refine lv_bipush (v := nI 31) hx hb dL_law_29 (by decide) ?_
      refine lv_iand hx hb dL_law_31 ?_
      obtain ⟨j, hj, ej⟩ := pk_andE (xs (nI (4 * i)).toNatClampNeg) (m := nI 31) 5 rfl
      rw [ej]
      by_cases h25 : j ≤ 25
      · rcases (show j = 0 ∨ j = 1 ∨ j = 2 ∨ j = 3 ∨ j = 4 ∨ j = 5 ∨ j = 6 ∨ j = 7 ∨ j = 8 ∨ j = 9 ∨ j = 10 ∨ j = 11 ∨ j = 12 ∨ j = 13 ∨ j = 14 ∨ j = 15 ∨ j = 16 ∨ j = 17 ∨ j = 18 ∨ j = 19 ∨ j = 20 ∨ j = 21 ∨ j = 22 ∨ j = 23 ∨ j = 24 ∨ j = 25 by omega) with rfl | rfl | rfl | rfl | rfl | rfl | rfl | rfl | rfl | rfl | rfl | rfl | rfl | rfl | rfl | rfl | rfl | rfl | rfl | rfl | rfl | rfl | rfl | rfl | rfl | rfl
        · refine lv_tableIn (off := 120) (tgt := 152) hx hb dL_law_32 (by decide) (by decide) rfl (by decide) ?_
          exact lw_c0 l C h4 hl hS hI K
        · refine lv_tableIn (off := 153) (tgt := 185) hx hb dL_law_32 (by decide) (by decide) rfl (by decide) ?_
          exact lw_c1 l C h4 hl hS hI K
        · refine lv_tableIn (off := 196) (tgt := 228) hx hb dL_law_32 (by decide) (by decide) rfl (by decide) ?_
          exact lw_c2 l C h4 hl hS hI K
        · refine lv_tableIn (off := 219) (tgt := 251) hx hb dL_law_32 (by decide) (by decide) rfl (by decide) ?_
          exact lw_c3 l C h4 hl hS hI K
        · refine lv_tableIn (off := 262) (tgt := 294) hx hb dL_law_32 (by decide) (by decide) rfl (by decide) ?_
          exact lw_c4 l C h4 hl hS hI K
        · refine lv_tableIn (off := 285) (tgt := 317) hx hb dL_law_32 (by decide) (by decide) rfl (by decide) ?_
          exact lw_c5 l C h4 hl hS hI K
        · refine lv_tableIn (off := 308) (tgt := 340) hx hb dL_law_32 (by decide) (by decide) rfl (by decide) ?_
          exact lw_c6 l C h4 hl hS hI K
        · refine lv_tableIn (off := 331) (tgt := 363) hx hb dL_law_32 (by decide) (by decide) rfl (by decide) ?_
          exact lw_c7 l C h4 hl hS hI K
        · refine lv_tableIn (off := 364) (tgt := 396) hx hb dL_law_32 (by decide) (by decide) rfl (by decide) ?_
          exact lw_c8 l C h4 hl hS hI K
        · refine lv_tableIn (off := 377) (tgt := 409) hx hb dL_law_32 (by decide) (by decide) rfl (by decide) ?_
          exact lw_c9 l C h4 hl hS hI K
        · refine lv_tableIn (off := 390) (tgt := 422) hx hb dL_law_32 (by decide) (by decide) rfl (by decide) ?_
          exact lw_c10 l C h4 hl hS hI K
        · refine lv_tableIn (off := 403) (tgt := 435) hx hb dL_law_32 (by decide) (by decide) rfl (by decide) ?_
          exact lw_c11 l C h4 hl hS hI K
        · refine lv_tableIn (off := 416) (tgt := 448) hx hb dL_law_32 (by decide) (by decide) rfl (by decide) ?_
          exact lw_c12 l C h4 hl hS hI K
        · refine lv_tableIn (off := 441) (tgt := 473) hx hb dL_law_32 (by decide) (by decide) rfl (by decide) ?_
          exact lw_c13 l C h4 hl hS hI K
        · refine lv_tableIn (off := 454) (tgt := 486) hx hb dL_law_32 (by decide) (by decide) rfl (by decide) ?_
          exact lw_c14 l C h4 hl hS hI K
        · refine lv_tableIn (off := 467) (tgt := 499) hx hb dL_law_32 (by decide) (by decide) rfl (by decide) ?_
          exact lw_c15 l C h4 hl hS hI K
        · refine lv_tableIn (off := 480) (tgt := 512) hx hb dL_law_32 (by decide) (by decide) rfl (by decide) ?_
          exact lw_c16 l C h4 hl hS hI K
        · refine lv_tableIn (off := 493) (tgt := 525) hx hb dL_law_32 (by decide) (by decide) rfl (by decide) ?_
          exact lw_c17 l C h4 hl hS hI K
        · refine lv_tableIn (off := 526) (tgt := 558) hx hb dL_law_32 (by decide) (by decide) rfl (by decide) ?_
          exact lw_c18 l C h4 hl hS hI K
        · refine lv_tableIn (off := 559) (tgt := 591) hx hb dL_law_32 (by decide) (by decide) rfl (by decide) ?_
          exact lw_c19 l C h4 hl hS hI K
        · refine lv_tableIn (off := 602) (tgt := 634) hx hb dL_law_32 (by decide) (by decide) rfl (by decide) ?_
          exact lw_c20 l C h4 hl hS hI K
        · refine lv_tableIn (off := 635) (tgt := 667) hx hb dL_law_32 (by decide) (by decide) rfl (by decide) ?_
          exact lw_c21 l C h4 hl hS hI K
        · refine lv_tableIn (off := 668) (tgt := 700) hx hb dL_law_32 (by decide) (by decide) rfl (by decide) ?_
          exact lw_c22 l C h4 hl hS hI K
        · refine lv_tableIn (off := 711) (tgt := 743) hx hb dL_law_32 (by decide) (by decide) rfl (by decide) ?_
          exact lw_c23 l C h4 hl hS hI K
        · refine lv_tableIn (off := 744) (tgt := 776) hx hb dL_law_32 (by decide) (by decide) rfl (by decide) ?_
          exact lw_c24 l C h4 hl hS hI K
        · refine lv_tableIn (off := 767) (tgt := 799) hx hb dL_law_32 (by decide) (by decide) rfl (by decide) ?_
          exact lw_c25 l C h4 hl hS hI K
      · refine lv_tableOut (tgt := 822) hx hb dL_law_32 (Or.inr ?_) (by decide) ?_
        · rw [nI_toInt (by omega)]; omega
        · refine W.widen (k := 29 + 4 * (i + 1)) (n := 62785 + 465 * (i + 1)) (by omega) (by omega) ?_
          exact K X M H locs hS hI.up
