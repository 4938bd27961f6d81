/-! ===== the law, case by case: shared, differ, find, wouldMake, edit, count ===== -/
set_option maxHeartbeats 4000000 in
set_option maxRecDepth 100000 in
theorem lw_c20 {p : Program} {e : Env} {s : State} {m : MethodId} {below : List Frame} {meth : Method} {c : Code} (l : Launch) {b L : Nat} {xs : Nat → Int32} {G : xG} (C : lwC p s m c G b L xs) {Q : State → Prop} {i : Nat} (hiL : 4 * i + 4 ≤ L) {t5 n0 nv sn sv hi ha s0 v0 s1 v1 s2 v2 s3 v3 tx tc tr tw tn m0 aN aH aS aT : Nat} {X : Xs} {M : RM} {H : Heap} {locs : List Loc} {ls : Array Slot} (hl : lv_has ls 4 [(0, .ref b), (1, .ref t5), (2, .ref m0), (3, .int (nI (4 * i)))]) (hS : va_S (fun q => s.heap.size ≤ q) s.heap H locs) (hI : lwI G t5 n0 nv sn sv hi ha s0 v0 s1 v1 s2 v2 s3 v3 tx tc tr tw tn m0 aN aH aS aT i X M H) (K : ∀ (X1 : Xs) (M1 : RM) (H1 : Heap) (locs1 : List Loc), va_S (fun q => s.heap.size ≤ q) s.heap H1 locs1 → lwI G t5 n0 nv sn sv hi ha s0 v0 s1 v1 s2 v2 s3 v3 tx tc tr tw tn m0 aN aH aS aT (i + 1) X1 M1 H1 → W p l e room_1 s m #[Value.ref b] below meth c H1 locs1 (29 + 4 * (i + 1)) (62785 + 465 * (i + 1)) Q (F0 m 822 ls [])) : W p l e room_1 s m #[Value.ref b] below meth c H locs (29 + 4 * i) (62785 + 465 * i) Q (F0 m 634 ls []) := by
  obtain ⟨hE, hB0, S, hX, hbl, hL⟩ := id C
  obtain ⟨hx, hb, hml, hown, hts⟩ := id S
  obtain ⟨hT, hMd, hdis, hlt, cc_, hcc, hXM⟩ := id hI
  obtain ⟨N, Hs, Sl, txm, kept, fil, ty, at_, nu⟩ := M
  have hXR : XR X N Hs Sl txm kept fil ty cc_ := hXM
  have hc20 : cc_ < 2 ^ 20 := by omega
  obtain ⟨pN, pev, pev2, prows, pwin, pM, pk4, ptx, pty, pfil⟩ := lw_prm hXR hc20
  have hok := hXR.okX
  have hA : ∀ q, (fun q : Nat => s.heap.size ≤ q) q → xB0 G ≤ q := fun q h => by rw [hB0]; exact h
  have hsz0 : xB0 G ≤ H.size := by rw [hB0]; exact hS.1
  have d17 : xDis (xB0 G) [t5, n0, nv, sn, sv, hi, ha, s0, v0, s1, v1, s2, v2, s3, v3, tx, tc, tr, tw, tn] := xDis_sub hdis [0, 1, 2, 3, 4, 5, 6, 7, 8, 9, 10, 11, 12, 13, 14, 15, 16, 17, 18, 19] (by decide) rfl
  have d5 : xDis (xB0 G) [m0, aN, aH, aS, aT] := xDis_sub hdis [20, 21, 22, 23, 24] (by decide) rfl
  have hLB : ∀ q ∈ [t5, n0, nv, sn, sv, hi, ha, s0, v0, s1, v1, s2, v2, s3, v3, tx, tc, tr, tw, tn], q ∈ [t5, n0, nv, sn, sv, hi, ha, s0, v0, s1, v1, s2, v2, s3, v3, tx, tc, tr, tw, tn, m0, aN, aH, aS, aT] := L_sub [0, 1, 2, 3, 4, 5, 6, 7, 8, 9, 10, 11, 12, 13, 14, 15, 16, 17, 18, 19] rfl
  have hA1 : ∀ q, (q ∈ [t5, n0, nv, sn, sv, hi, ha, s0, v0, s1, v1, s2, v2, s3, v3, tx, tc, tr, tw, tn] ∨ H.size ≤ q) → s.heap.size ≤ q := fun q h => h.elim (fun z => by rw [← hB0]; exact d17.2 q z) (fun z => Nat.le_trans hS.1 z)
  have hA2 : ∀ q, q ∈ [m0, aN, aH, aS, aT] → s.heap.size ≤ q := fun q z => by rw [← hB0]; exact d5.2 q z
  obtain ⟨vf, er, vfs, ers, hcs, r, tfv, tfn, tfl, hPt, -⟩ := id hT
  refine lv_aload_n hx hb dL_law_634 rfl (lv_at hl 1 rfl) ?_
  refine lw_arg C hS 1 (by omega) hl rfl rfl dL_law_635 dL_law_636 dL_law_637 (by decide) dL_law_638 dL_law_639 ?_
  refine lw_arg C hS 2 (by omega) hl rfl rfl dL_law_640 dL_law_641 dL_law_642 (by decide) dL_law_643 dL_law_644 ?_
  refine xrd (xrunV (As := [.int (xs (4 * i + 1)), .int (xs (4 * i + 2))]) (rest := []) S (c_X5_shared l G [t5, n0, nv, sn, sv, hi, ha, s0, v0, s1, v1, s2, v2, s3, v3, tx, tc, tr, tw, tn, m0, aN, aH, aS, aT] t5 n0 nv sn sv hi ha s0 v0 s1 v1 s2 v2 s3 v3 tx tc tr tw tn X (xs (4 * i + 1)) (xs (4 * i + 2)) hok) (cwV 2 hts gL_law_X5_shared rfl rfl rfl (by decide +kernel) ⟨Nat.le_of_ble_eq_true rfl, Nat.le_of_ble_eq_true rfl⟩) hE hS hA 0 5 hPt rfl rfl rfl hT rfl rfl hl.1 (Nat.le_of_ble_eq_true rfl) dL_law_645 ⟨show _ ≤ 600000 by omega, show _ ≤ 7302250 by omega⟩) ?_
  have hMd1 := hMd
  have hS1 := hS
  have hT1 := hT
  have hz1 : H.size ≤ H.size := Nat.le_refl _
  refine lv_aload_n hx hb dL_law_648 rfl (lv_at hl 2 rfl) ?_
  refine lw_arg C hS1 1 (by omega) hl rfl rfl dL_law_649 dL_law_650 dL_law_651 (by decide) dL_law_652 dL_law_653 ?_
  refine lw_arg C hS1 2 (by omega) hl rfl rfl dL_law_654 dL_law_655 dL_law_656 (by decide) dL_law_657 dL_law_658 ?_
  refine xrd (xrunV (As := [.int (xs (4 * i + 1)), .int (xs (4 * i + 2))]) (rest := [.int (cvSha X (xs (4 * i + 1)) (xs (4 * i + 2)))]) S (c_X6_shared l G m0 aN aH aS aT N Hs Sl txm kept fil ty at_ nu (xs (4 * i + 1)) (xs (4 * i + 2)) pN pev pev2 prows pwin) (cwV 2 hts gL_law_X6_shared rfl rfl rfl (by decide +kernel) ⟨Nat.le_of_ble_eq_true rfl, Nat.le_of_ble_eq_true rfl⟩) hE hS1 hA 0 6 hMd1 rfl rfl rfl hMd1 rfl rfl hl.1 (Nat.le_of_ble_eq_true rfl) dL_law_659 ⟨show _ ≤ 600000 by omega, show _ ≤ 7302250 by omega⟩) ?_
  have hans := rd_sha hXR (xs (4 * i + 1)) (xs (4 * i + 2))
  refine lv_icmp_eq (tgt := 822) hx hb dL_law_662 (by decide) (fun _ => ?_) (fun z => absurd hans z)
  refine W.widen (k := 29 + 4 * (i + 1)) (n := 62785 + 465 * (i + 1)) (by omega) (by omega) ?_
  exact K _ _ H locs hS1 ⟨hT1, hMd1, hdis, fun q hq => Nat.lt_of_lt_of_le (hlt q hq) hz1, cc_, by omega, hXM⟩
set_option maxHeartbeats 4000000 in
set_option maxRecDepth 100000 in
theorem lw_c21 {p : Program} {e : Env} {s : State} {m : MethodId} {below : List Frame} {meth : Method} {c : Code} (l : Launch) {b L : Nat} {xs : Nat → Int32} {G : xG} (C : lwC p s m c G b L xs) {Q : State → Prop} {i : Nat} (hiL : 4 * i + 4 ≤ L) {t5 n0 nv sn sv hi ha s0 v0 s1 v1 s2 v2 s3 v3 tx tc tr tw tn m0 aN aH aS aT : Nat} {X : Xs} {M : RM} {H : Heap} {locs : List Loc} {ls : Array Slot} (hl : lv_has ls 4 [(0, .ref b), (1, .ref t5), (2, .ref m0), (3, .int (nI (4 * i)))]) (hS : va_S (fun q => s.heap.size ≤ q) s.heap H locs) (hI : lwI G t5 n0 nv sn sv hi ha s0 v0 s1 v1 s2 v2 s3 v3 tx tc tr tw tn m0 aN aH aS aT i X M H) (K : ∀ (X1 : Xs) (M1 : RM) (H1 : Heap) (locs1 : List Loc), va_S (fun q => s.heap.size ≤ q) s.heap H1 locs1 → lwI G t5 n0 nv sn sv hi ha s0 v0 s1 v1 s2 v2 s3 v3 tx tc tr tw tn m0 aN aH aS aT (i + 1) X1 M1 H1 → W p l e room_1 s m #[Value.ref b] below meth c H1 locs1 (29 + 4 * (i + 1)) (62785 + 465 * (i + 1)) Q (F0 m 822 ls [])) : W p l e room_1 s m #[Value.ref b] below meth c H locs (29 + 4 * i) (62785 + 465 * i) Q (F0 m 667 ls []) := by
  obtain ⟨hE, hB0, S, hX, hbl, hL⟩ := id C
  obtain ⟨hx, hb, hml, hown, hts⟩ := id S
  obtain ⟨hT, hMd, hdis, hlt, cc_, hcc, hXM⟩ := id hI
  obtain ⟨N, Hs, Sl, txm, kept, fil, ty, at_, nu⟩ := M
  have hXR : XR X N Hs Sl txm kept fil ty cc_ := hXM
  have hc20 : cc_ < 2 ^ 20 := by omega
  obtain ⟨pN, pev, pev2, prows, pwin, pM, pk4, ptx, pty, pfil⟩ := lw_prm hXR hc20
  have hok := hXR.okX
  have hA : ∀ q, (fun q : Nat => s.heap.size ≤ q) q → xB0 G ≤ q := fun q h => by rw [hB0]; exact h
  have hsz0 : xB0 G ≤ H.size := by rw [hB0]; exact hS.1
  have d17 : xDis (xB0 G) [t5, n0, nv, sn, sv, hi, ha, s0, v0, s1, v1, s2, v2, s3, v3, tx, tc, tr, tw, tn] := xDis_sub hdis [0, 1, 2, 3, 4, 5, 6, 7, 8, 9, 10, 11, 12, 13, 14, 15, 16, 17, 18, 19] (by decide) rfl
  have d5 : xDis (xB0 G) [m0, aN, aH, aS, aT] := xDis_sub hdis [20, 21, 22, 23, 24] (by decide) rfl
  have hLB : ∀ q ∈ [t5, n0, nv, sn, sv, hi, ha, s0, v0, s1, v1, s2, v2, s3, v3, tx, tc, tr, tw, tn], q ∈ [t5, n0, nv, sn, sv, hi, ha, s0, v0, s1, v1, s2, v2, s3, v3, tx, tc, tr, tw, tn, m0, aN, aH, aS, aT] := L_sub [0, 1, 2, 3, 4, 5, 6, 7, 8, 9, 10, 11, 12, 13, 14, 15, 16, 17, 18, 19] rfl
  have hA1 : ∀ q, (q ∈ [t5, n0, nv, sn, sv, hi, ha, s0, v0, s1, v1, s2, v2, s3, v3, tx, tc, tr, tw, tn] ∨ H.size ≤ q) → s.heap.size ≤ q := fun q h => h.elim (fun z => by rw [← hB0]; exact d17.2 q z) (fun z => Nat.le_trans hS.1 z)
  have hA2 : ∀ q, q ∈ [m0, aN, aH, aS, aT] → s.heap.size ≤ q := fun q z => by rw [← hB0]; exact d5.2 q z
  obtain ⟨vf, er, vfs, ers, hcs, r, tfv, tfn, tfl, hPt, -⟩ := id hT
  refine lv_aload_n hx hb dL_law_667 rfl (lv_at hl 1 rfl) ?_
  refine lw_arg C hS 1 (by omega) hl rfl rfl dL_law_668 dL_law_669 dL_law_670 (by decide) dL_law_671 dL_law_672 ?_
  refine lw_arg C hS 2 (by omega) hl rfl rfl dL_law_673 dL_law_674 dL_law_675 (by decide) dL_law_676 dL_law_677 ?_
  refine xrd (xrunV (As := [.int (xs (4 * i + 1)), .int (xs (4 * i + 2))]) (rest := []) S (c_X5_differ l G [t5, n0, nv, sn, sv, hi, ha, s0, v0, s1, v1, s2, v2, s3, v3, tx, tc, tr, tw, tn, m0, aN, aH, aS, aT] t5 n0 nv sn sv hi ha s0 v0 s1 v1 s2 v2 s3 v3 tx tc tr tw tn X (xs (4 * i + 1)) (xs (4 * i + 2)) hok) (cwV 2 hts gL_law_X5_differ rfl rfl rfl (by decide +kernel) ⟨Nat.le_of_ble_eq_true rfl, Nat.le_of_ble_eq_true rfl⟩) hE hS hA 0 5 hPt rfl rfl rfl hT rfl rfl hl.1 (Nat.le_of_ble_eq_true rfl) dL_law_678 ⟨show _ ≤ 600000 by omega, show _ ≤ 7302250 by omega⟩) ?_
  have hMd1 := hMd
  have hS1 := hS
  have hT1 := hT
  have hz1 : H.size ≤ H.size := Nat.le_refl _
  refine lv_aload_n hx hb dL_law_681 rfl (lv_at hl 2 rfl) ?_
  refine lw_arg C hS1 1 (by omega) hl rfl rfl dL_law_682 dL_law_683 dL_law_684 (by decide) dL_law_685 dL_law_686 ?_
  refine lw_arg C hS1 2 (by omega) hl rfl rfl dL_law_687 dL_law_688 dL_law_689 (by decide) dL_law_690 dL_law_691 ?_
  refine xrd (xrunV (As := [.int (xs (4 * i + 1)), .int (xs (4 * i + 2))]) (rest := [.int (cvDif X (xs (4 * i + 1)) (xs (4 * i + 2)))]) S (c_X6_differ l G m0 aN aH aS aT N Hs Sl txm kept fil ty at_ nu (xs (4 * i + 1)) (xs (4 * i + 2)) pN pev pev2 prows pwin) (cwV 2 hts gL_law_X6_differ rfl rfl rfl (by decide +kernel) ⟨Nat.le_of_ble_eq_true rfl, Nat.le_of_ble_eq_true rfl⟩) hE hS1 hA 0 6 hMd1 rfl rfl rfl hMd1 rfl rfl hl.1 (Nat.le_of_ble_eq_true rfl) dL_law_692 ⟨show _ ≤ 600000 by omega, show _ ≤ 7302250 by omega⟩) ?_
  have hans := rd_dif hXR (xs (4 * i + 1)) (xs (4 * i + 2))
  refine lv_icmp_eq (tgt := 822) hx hb dL_law_695 (by decide) (fun _ => ?_) (fun z => absurd hans z)
  refine W.widen (k := 29 + 4 * (i + 1)) (n := 62785 + 465 * (i + 1)) (by omega) (by omega) ?_
  exact K _ _ H locs hS1 ⟨hT1, hMd1, hdis, fun q hq => Nat.lt_of_lt_of_le (hlt q hq) hz1, cc_, by omega, hXM⟩
set_option maxHeartbeats 4000000 in
set_option maxRecDepth 100000 in
theorem lw_c22 {p : Program} {e : Env} {s : State} {m : MethodId} {below : List Frame} {meth : Method} {c : Code} (l : Launch) {b L : Nat} {xs : Nat → Int32} {G : xG} (C : lwC p s m c G b L xs) {Q : State → Prop} {i : Nat} (hiL : 4 * i + 4 ≤ L) {t5 n0 nv sn sv hi ha s0 v0 s1 v1 s2 v2 s3 v3 tx tc tr tw tn m0 aN aH aS aT : Nat} {X : Xs} {M : RM} {H : Heap} {locs : List Loc} {ls : Array Slot} (hl : lv_has ls 4 [(0, .ref b), (1, .ref t5), (2, .ref m0), (3, .int (nI (4 * i)))]) (hS : va_S (fun q => s.heap.size ≤ q) s.heap H locs) (hI : lwI G t5 n0 nv sn sv hi ha s0 v0 s1 v1 s2 v2 s3 v3 tx tc tr tw tn m0 aN aH aS aT i X M H) (K : ∀ (X1 : Xs) (M1 : RM) (H1 : Heap) (locs1 : List Loc), va_S (fun q => s.heap.size ≤ q) s.heap H1 locs1 → lwI G t5 n0 nv sn sv hi ha s0 v0 s1 v1 s2 v2 s3 v3 tx tc tr tw tn m0 aN aH aS aT (i + 1) X1 M1 H1 → W p l e room_1 s m #[Value.ref b] below meth c H1 locs1 (29 + 4 * (i + 1)) (62785 + 465 * (i + 1)) Q (F0 m 822 ls [])) : W p l e room_1 s m #[Value.ref b] below meth c H locs (29 + 4 * i) (62785 + 465 * i) Q (F0 m 700 ls []) := by
  obtain ⟨hE, hB0, S, hX, hbl, hL⟩ := id C
  obtain ⟨hx, hb, hml, hown, hts⟩ := id S
  obtain ⟨hT, hMd, hdis, hlt, cc_, hcc, hXM⟩ := id hI
  obtain ⟨N, Hs, Sl, txm, kept, fil, ty, at_, nu⟩ := M
  have hXR : XR X N Hs Sl txm kept fil ty cc_ := hXM
  have hc20 : cc_ < 2 ^ 20 := by omega
  obtain ⟨pN, pev, pev2, prows, pwin, pM, pk4, ptx, pty, pfil⟩ := lw_prm hXR hc20
  have hok := hXR.okX
  have hA : ∀ q, (fun q : Nat => s.heap.size ≤ q) q → xB0 G ≤ q := fun q h => by rw [hB0]; exact h
  have hsz0 : xB0 G ≤ H.size := by rw [hB0]; exact hS.1
  have d17 : xDis (xB0 G) [t5, n0, nv, sn, sv, hi, ha, s0, v0, s1, v1, s2, v2, s3, v3, tx, tc, tr, tw, tn] := xDis_sub hdis [0, 1, 2, 3, 4, 5, 6, 7, 8, 9, 10, 11, 12, 13, 14, 15, 16, 17, 18, 19] (by decide) rfl
  have d5 : xDis (xB0 G) [m0, aN, aH, aS, aT] := xDis_sub hdis [20, 21, 22, 23, 24] (by decide) rfl
  have hLB : ∀ q ∈ [t5, n0, nv, sn, sv, hi, ha, s0, v0, s1, v1, s2, v2, s3, v3, tx, tc, tr, tw, tn], q ∈ [t5, n0, nv, sn, sv, hi, ha, s0, v0, s1, v1, s2, v2, s3, v3, tx, tc, tr, tw, tn, m0, aN, aH, aS, aT] := L_sub [0, 1, 2, 3, 4, 5, 6, 7, 8, 9, 10, 11, 12, 13, 14, 15, 16, 17, 18, 19] rfl
  have hA1 : ∀ q, (q ∈ [t5, n0, nv, sn, sv, hi, ha, s0, v0, s1, v1, s2, v2, s3, v3, tx, tc, tr, tw, tn] ∨ H.size ≤ q) → s.heap.size ≤ q := fun q h => h.elim (fun z => by rw [← hB0]; exact d17.2 q z) (fun z => Nat.le_trans hS.1 z)
  have hA2 : ∀ q, q ∈ [m0, aN, aH, aS, aT] → s.heap.size ≤ q := fun q z => by rw [← hB0]; exact d5.2 q z
  obtain ⟨vf, er, vfs, ers, hcs, r, tfv, tfn, tfl, hPt, -⟩ := id hT
  refine lv_aload_n hx hb dL_law_700 rfl (lv_at hl 1 rfl) ?_
  refine lw_arg C hS 1 (by omega) hl rfl rfl dL_law_701 dL_law_702 dL_law_703 (by decide) dL_law_704 dL_law_705 ?_
  refine lw_arg C hS 2 (by omega) hl rfl rfl dL_law_706 dL_law_707 dL_law_708 (by decide) dL_law_709 dL_law_710 ?_
  refine lw_arg C hS 3 (by omega) hl rfl rfl dL_law_711 dL_law_712 dL_law_713 (by decide) dL_law_714 dL_law_715 ?_
  refine xrd (xrunV (As := [.int (xs (4 * i + 1)), .int (xs (4 * i + 2)), .int (xs (4 * i + 3))]) (rest := []) S (c_X5_find l G [t5, n0, nv, sn, sv, hi, ha, s0, v0, s1, v1, s2, v2, s3, v3, tx, tc, tr, tw, tn, m0, aN, aH, aS, aT] t5 n0 nv sn sv hi ha s0 v0 s1 v1 s2 v2 s3 v3 tx tc tr tw tn X (xs (4 * i + 1)) (xs (4 * i + 2)) (xs (4 * i + 3)) hok) (cwV 3 hts gL_law_X5_find rfl rfl rfl (by decide +kernel) ⟨Nat.le_of_ble_eq_true rfl, Nat.le_of_ble_eq_true rfl⟩) hE hS hA 0 5 hPt rfl rfl rfl hT rfl rfl hl.1 (Nat.le_of_ble_eq_true rfl) dL_law_716 ⟨show _ ≤ 600000 by omega, show _ ≤ 7302250 by omega⟩) ?_
  have hMd1 := hMd
  have hS1 := hS
  have hT1 := hT
  have hz1 : H.size ≤ H.size := Nat.le_refl _
  refine lv_aload_n hx hb dL_law_719 rfl (lv_at hl 2 rfl) ?_
  refine lw_arg C hS1 1 (by omega) hl rfl rfl dL_law_720 dL_law_721 dL_law_722 (by decide) dL_law_723 dL_law_724 ?_
  refine lw_arg C hS1 2 (by omega) hl rfl rfl dL_law_725 dL_law_726 dL_law_727 (by decide) dL_law_728 dL_law_729 ?_
  refine lw_arg C hS1 3 (by omega) hl rfl rfl dL_law_730 dL_law_731 dL_law_732 (by decide) dL_law_733 dL_law_734 ?_
  refine xrd (xrunV (As := [.int (xs (4 * i + 1)), .int (xs (4 * i + 2)), .int (xs (4 * i + 3))]) (rest := [.int (cvFnd X (xs (4 * i + 1)) (xs (4 * i + 2)) (xs (4 * i + 3)))]) S (c_X6_find l G m0 aN aH aS aT N Hs Sl txm kept fil ty at_ nu (xs (4 * i + 1)) (xs (4 * i + 2)) (xs (4 * i + 3)) pN pev pev2 prows pwin) (cwV 3 hts gL_law_X6_find rfl rfl rfl (by decide +kernel) ⟨Nat.le_of_ble_eq_true rfl, Nat.le_of_ble_eq_true rfl⟩) hE hS1 hA 0 6 hMd1 rfl rfl rfl hMd1 rfl rfl hl.1 (Nat.le_of_ble_eq_true rfl) dL_law_735 ⟨show _ ≤ 600000 by omega, show _ ≤ 7302250 by omega⟩) ?_
  have hans := rd_fnd hXR (xs (4 * i + 1)) (xs (4 * i + 2)) (xs (4 * i + 3))
  refine lv_icmp_eq (tgt := 822) hx hb dL_law_738 (by decide) (fun _ => ?_) (fun z => absurd hans z)
  refine W.widen (k := 29 + 4 * (i + 1)) (n := 62785 + 465 * (i + 1)) (by omega) (by omega) ?_
  exact K _ _ H locs hS1 ⟨hT1, hMd1, hdis, fun q hq => Nat.lt_of_lt_of_le (hlt q hq) hz1, cc_, by omega, hXM⟩
set_option maxHeartbeats 4000000 in
set_option maxRecDepth 100000 in
theorem lw_c23 {p : Program} {e : Env} {s : State} {m : MethodId} {below : List Frame} {meth : Method} {c : Code} (l : Launch) {b L : Nat} {xs : Nat → Int32} {G : xG} (C : lwC p s m c G b L xs) {Q : State → Prop} {i : Nat} (hiL : 4 * i + 4 ≤ L) {t5 n0 nv sn sv hi ha s0 v0 s1 v1 s2 v2 s3 v3 tx tc tr tw tn m0 aN aH aS aT : Nat} {X : Xs} {M : RM} {H : Heap} {locs : List Loc} {ls : Array Slot} (hl : lv_has ls 4 [(0, .ref b), (1, .ref t5), (2, .ref m0), (3, .int (nI (4 * i)))]) (hS : va_S (fun q => s.heap.size ≤ q) s.heap H locs) (hI : lwI G t5 n0 nv sn sv hi ha s0 v0 s1 v1 s2 v2 s3 v3 tx tc tr tw tn m0 aN aH aS aT i X M H) (K : ∀ (X1 : Xs) (M1 : RM) (H1 : Heap) (locs1 : List Loc), va_S (fun q => s.heap.size ≤ q) s.heap H1 locs1 → lwI G t5 n0 nv sn sv hi ha s0 v0 s1 v1 s2 v2 s3 v3 tx tc tr tw tn m0 aN aH aS aT (i + 1) X1 M1 H1 → W p l e room_1 s m #[Value.ref b] below meth c H1 locs1 (29 + 4 * (i + 1)) (62785 + 465 * (i + 1)) Q (F0 m 822 ls [])) : W p l e room_1 s m #[Value.ref b] below meth c H locs (29 + 4 * i) (62785 + 465 * i) Q (F0 m 743 ls []) := by
  obtain ⟨hE, hB0, S, hX, hbl, hL⟩ := id C
  obtain ⟨hx, hb, hml, hown, hts⟩ := id S
  obtain ⟨hT, hMd, hdis, hlt, cc_, hcc, hXM⟩ := id hI
  obtain ⟨N, Hs, Sl, txm, kept, fil, ty, at_, nu⟩ := M
  have hXR : XR X N Hs Sl txm kept fil ty cc_ := hXM
  have hc20 : cc_ < 2 ^ 20 := by omega
  obtain ⟨pN, pev, pev2, prows, pwin, pM, pk4, ptx, pty, pfil⟩ := lw_prm hXR hc20
  have hok := hXR.okX
  have hA : ∀ q, (fun q : Nat => s.heap.size ≤ q) q → xB0 G ≤ q := fun q h => by rw [hB0]; exact h
  have hsz0 : xB0 G ≤ H.size := by rw [hB0]; exact hS.1
  have d17 : xDis (xB0 G) [t5, n0, nv, sn, sv, hi, ha, s0, v0, s1, v1, s2, v2, s3, v3, tx, tc, tr, tw, tn] := xDis_sub hdis [0, 1, 2, 3, 4, 5, 6, 7, 8, 9, 10, 11, 12, 13, 14, 15, 16, 17, 18, 19] (by decide) rfl
  have d5 : xDis (xB0 G) [m0, aN, aH, aS, aT] := xDis_sub hdis [20, 21, 22, 23, 24] (by decide) rfl
  have hLB : ∀ q ∈ [t5, n0, nv, sn, sv, hi, ha, s0, v0, s1, v1, s2, v2, s3, v3, tx, tc, tr, tw, tn], q ∈ [t5, n0, nv, sn, sv, hi, ha, s0, v0, s1, v1, s2, v2, s3, v3, tx, tc, tr, tw, tn, m0, aN, aH, aS, aT] := L_sub [0, 1, 2, 3, 4, 5, 6, 7, 8, 9, 10, 11, 12, 13, 14, 15, 16, 17, 18, 19] rfl
  have hA1 : ∀ q, (q ∈ [t5, n0, nv, sn, sv, hi, ha, s0, v0, s1, v1, s2, v2, s3, v3, tx, tc, tr, tw, tn] ∨ H.size ≤ q) → s.heap.size ≤ q := fun q h => h.elim (fun z => by rw [← hB0]; exact d17.2 q z) (fun z => Nat.le_trans hS.1 z)
  have hA2 : ∀ q, q ∈ [m0, aN, aH, aS, aT] → s.heap.size ≤ q := fun q z => by rw [← hB0]; exact d5.2 q z
  obtain ⟨vf, er, vfs, ers, hcs, r, tfv, tfn, tfl, hPt, -⟩ := id hT
  refine lv_aload_n hx hb dL_law_743 rfl (lv_at hl 1 rfl) ?_
  refine lw_arg C hS 1 (by omega) hl rfl rfl dL_law_744 dL_law_745 dL_law_746 (by decide) dL_law_747 dL_law_748 ?_
  refine lw_arg C hS 2 (by omega) hl rfl rfl dL_law_749 dL_law_750 dL_law_751 (by decide) dL_law_752 dL_law_753 ?_
  refine xwr (xrunV (As := [.int (xs (4 * i + 1)), .int (xs (4 * i + 2))]) (rest := []) S (c_X5_wouldMake l G [t5, n0, nv, sn, sv, hi, ha, s0, v0, s1, v1, s2, v2, s3, v3, tx, tc, tr, tw, tn, m0, aN, aH, aS, aT] t5 n0 nv sn sv hi ha s0 v0 s1 v1 s2 v2 s3 v3 tx tc tr tw tn X H.size (xs (4 * i + 1)) (xs (4 * i + 2)) d17 hLB hlt hsz0 hok) (cwV 2 hts gL_law_X5_wouldMake rfl rfl rfl (by decide +kernel) ⟨Nat.le_of_ble_eq_true rfl, Nat.le_of_ble_eq_true rfl⟩) hE hS hA 0 5 hPt rfl rfl rfl ⟨rfl, hT⟩ rfl rfl hl.1 (Nat.le_of_ble_eq_true rfl) dL_law_754 ⟨show _ ≤ 600000 by omega, show _ ≤ 7302250 by omega⟩) hS hA1 hA1 (fun uw1 H1 locs1 hT1 hz1 hk1 hS1 => ?_)
  have hMd1 := lw_k1 hdis hMd hk1
  refine lv_aload_n hx hb dL_law_757 rfl (lv_at hl 2 rfl) ?_
  refine lw_arg C hS1 1 (by omega) hl rfl rfl dL_law_758 dL_law_759 dL_law_760 (by decide) dL_law_761 dL_law_762 ?_
  refine lw_arg C hS1 2 (by omega) hl rfl rfl dL_law_763 dL_law_764 dL_law_765 (by decide) dL_law_766 dL_law_767 ?_
  refine xrd (xrunV (As := [.int (xs (4 * i + 1)), .int (xs (4 * i + 2))]) (rest := [.int (cvWou X (xs (4 * i + 1)) (xs (4 * i + 2)))]) S (c_X6_wouldMake l G m0 aN aH aS aT N Hs Sl txm kept fil ty at_ nu (xs (4 * i + 1)) (xs (4 * i + 2)) pN pev pev2 prows pwin) (cwV 2 hts gL_law_X6_wouldMake rfl rfl rfl (by decide +kernel) ⟨Nat.le_of_ble_eq_true rfl, Nat.le_of_ble_eq_true rfl⟩) hE hS1 hA 0 6 hMd1 rfl rfl rfl hMd1 rfl rfl hl.1 (Nat.le_of_ble_eq_true rfl) dL_law_768 ⟨show _ ≤ 600000 by omega, show _ ≤ 7302250 by omega⟩) ?_
  have hans := rd_wou hXR hc20 (xs (4 * i + 1)) (xs (4 * i + 2))
  refine lv_icmp_eq (tgt := 822) hx hb dL_law_771 (by decide) (fun _ => ?_) (fun z => absurd hans z)
  refine W.widen (k := 29 + 4 * (i + 1)) (n := 62785 + 465 * (i + 1)) (by omega) (by omega) ?_
  exact K _ _ H1 locs1 hS1 ⟨hT1, hMd1, hdis, fun q hq => Nat.lt_of_lt_of_le (hlt q hq) hz1, cc_, by omega, hXM⟩
set_option maxHeartbeats 4000000 in
set_option maxRecDepth 100000 in
theorem lw_c24 {p : Program} {e : Env} {s : State} {m : MethodId} {below : List Frame} {meth : Method} {c : Code} (l : Launch) {b L : Nat} {xs : Nat → Int32} {G : xG} (C : lwC p s m c G b L xs) {Q : State → Prop} {i : Nat} (hiL : 4 * i + 4 ≤ L) {t5 n0 nv sn sv hi ha s0 v0 s1 v1 s2 v2 s3 v3 tx tc tr tw tn m0 aN aH aS aT : Nat} {X : Xs} {M : RM} {H : Heap} {locs : List Loc} {ls : Array Slot} (hl : lv_has ls 4 [(0, .ref b), (1, .ref t5), (2, .ref m0), (3, .int (nI (4 * i)))]) (hS : va_S (fun q => s.heap.size ≤ q) s.heap H locs) (hI : lwI G t5 n0 nv sn sv hi ha s0 v0 s1 v1 s2 v2 s3 v3 tx tc tr tw tn m0 aN aH aS aT i X M H) (K : ∀ (X1 : Xs) (M1 : RM) (H1 : Heap) (locs1 : List Loc), va_S (fun q => s.heap.size ≤ q) s.heap H1 locs1 → lwI G t5 n0 nv sn sv hi ha s0 v0 s1 v1 s2 v2 s3 v3 tx tc tr tw tn m0 aN aH aS aT (i + 1) X1 M1 H1 → W p l e room_1 s m #[Value.ref b] below meth c H1 locs1 (29 + 4 * (i + 1)) (62785 + 465 * (i + 1)) Q (F0 m 822 ls [])) : W p l e room_1 s m #[Value.ref b] below meth c H locs (29 + 4 * i) (62785 + 465 * i) Q (F0 m 776 ls []) := by
  obtain ⟨hE, hB0, S, hX, hbl, hL⟩ := id C
  obtain ⟨hx, hb, hml, hown, hts⟩ := id S
  obtain ⟨hT, hMd, hdis, hlt, cc_, hcc, hXM⟩ := id hI
  obtain ⟨N, Hs, Sl, txm, kept, fil, ty, at_, nu⟩ := M
  have hXR : XR X N Hs Sl txm kept fil ty cc_ := hXM
  have hc20 : cc_ < 2 ^ 20 := by omega
  obtain ⟨pN, pev, pev2, prows, pwin, pM, pk4, ptx, pty, pfil⟩ := lw_prm hXR hc20
  have hok := hXR.okX
  have hA : ∀ q, (fun q : Nat => s.heap.size ≤ q) q → xB0 G ≤ q := fun q h => by rw [hB0]; exact h
  have hsz0 : xB0 G ≤ H.size := by rw [hB0]; exact hS.1
  have d17 : xDis (xB0 G) [t5, n0, nv, sn, sv, hi, ha, s0, v0, s1, v1, s2, v2, s3, v3, tx, tc, tr, tw, tn] := xDis_sub hdis [0, 1, 2, 3, 4, 5, 6, 7, 8, 9, 10, 11, 12, 13, 14, 15, 16, 17, 18, 19] (by decide) rfl
  have d5 : xDis (xB0 G) [m0, aN, aH, aS, aT] := xDis_sub hdis [20, 21, 22, 23, 24] (by decide) rfl
  have hLB : ∀ q ∈ [t5, n0, nv, sn, sv, hi, ha, s0, v0, s1, v1, s2, v2, s3, v3, tx, tc, tr, tw, tn], q ∈ [t5, n0, nv, sn, sv, hi, ha, s0, v0, s1, v1, s2, v2, s3, v3, tx, tc, tr, tw, tn, m0, aN, aH, aS, aT] := L_sub [0, 1, 2, 3, 4, 5, 6, 7, 8, 9, 10, 11, 12, 13, 14, 15, 16, 17, 18, 19] rfl
  have hA1 : ∀ q, (q ∈ [t5, n0, nv, sn, sv, hi, ha, s0, v0, s1, v1, s2, v2, s3, v3, tx, tc, tr, tw, tn] ∨ H.size ≤ q) → s.heap.size ≤ q := fun q h => h.elim (fun z => by rw [← hB0]; exact d17.2 q z) (fun z => Nat.le_trans hS.1 z)
  have hA2 : ∀ q, q ∈ [m0, aN, aH, aS, aT] → s.heap.size ≤ q := fun q z => by rw [← hB0]; exact d5.2 q z
  obtain ⟨vf, er, vfs, ers, hcs, r, tfv, tfn, tfl, hPt, -⟩ := id hT
  refine lv_aload_n hx hb dL_law_776 rfl (lv_at hl 1 rfl) ?_
  refine lw_arg C hS 1 (by omega) hl rfl rfl dL_law_777 dL_law_778 dL_law_779 (by decide) dL_law_780 dL_law_781 ?_
  refine xrd (xrunV (As := [.int (xs (4 * i + 1))]) (rest := []) S (c_X5_edit l G [t5, n0, nv, sn, sv, hi, ha, s0, v0, s1, v1, s2, v2, s3, v3, tx, tc, tr, tw, tn, m0, aN, aH, aS, aT] t5 n0 nv sn sv hi ha s0 v0 s1 v1 s2 v2 s3 v3 tx tc tr tw tn X (xs (4 * i + 1)) hok) (cwV 1 hts gL_law_X5_edit rfl rfl rfl (by decide +kernel) ⟨Nat.le_of_ble_eq_true rfl, Nat.le_of_ble_eq_true rfl⟩) hE hS hA 0 5 hPt rfl rfl rfl hT rfl rfl hl.1 (Nat.le_of_ble_eq_true rfl) dL_law_782 ⟨show _ ≤ 600000 by omega, show _ ≤ 7302250 by omega⟩) ?_
  have hMd1 := hMd
  have hS1 := hS
  have hT1 := hT
  have hz1 : H.size ≤ H.size := Nat.le_refl _
  refine lv_aload_n hx hb dL_law_785 rfl (lv_at hl 2 rfl) ?_
  refine lw_arg C hS1 1 (by omega) hl rfl rfl dL_law_786 dL_law_787 dL_law_788 (by decide) dL_law_789 dL_law_790 ?_
  refine xrd (xrunV (As := [.int (xs (4 * i + 1))]) (rest := [.int (cvEdi X (xs (4 * i + 1)))]) S (c_X6_edit l G m0 aN aH aS aT N Hs Sl txm kept fil ty at_ nu (xs (4 * i + 1)) pN pev pev2 prows pwin) (cwV 1 hts gL_law_X6_edit rfl rfl rfl (by decide +kernel) ⟨Nat.le_of_ble_eq_true rfl, Nat.le_of_ble_eq_true rfl⟩) hE hS1 hA 0 6 hMd1 rfl rfl rfl hMd1 rfl rfl hl.1 (Nat.le_of_ble_eq_true rfl) dL_law_791 ⟨show _ ≤ 600000 by omega, show _ ≤ 7302250 by omega⟩) ?_
  have hans := rd_edi hXR (xs (4 * i + 1))
  refine lv_icmp_eq (tgt := 822) hx hb dL_law_794 (by decide) (fun _ => ?_) (fun z => absurd hans z)
  refine W.widen (k := 29 + 4 * (i + 1)) (n := 62785 + 465 * (i + 1)) (by omega) (by omega) ?_
  exact K _ _ H locs hS1 ⟨hT1, hMd1, hdis, fun q hq => Nat.lt_of_lt_of_le (hlt q hq) hz1, cc_, by omega, hXM⟩
set_option maxHeartbeats 4000000 in
set_option maxRecDepth 100000 in
theorem lw_c25 {p : Program} {e : Env} {s : State} {m : MethodId} {below : List Frame} {meth : Method} {c : Code} (l : Launch) {b L : Nat} {xs : Nat → Int32} {G : xG} (C : lwC p s m c G b L xs) {Q : State → Prop} {i : Nat} (hiL : 4 * i + 4 ≤ L) {t5 n0 nv sn sv hi ha s0 v0 s1 v1 s2 v2 s3 v3 tx tc tr tw tn m0 aN aH aS aT : Nat} {X : Xs} {M : RM} {H : Heap} {locs : List Loc} {ls : Array Slot} (hl : lv_has ls 4 [(0, .ref b), (1, .ref t5), (2, .ref m0), (3, .int (nI (4 * i)))]) (hS : va_S (fun q => s.heap.size ≤ q) s.heap H locs) (hI : lwI G t5 n0 nv sn sv hi ha s0 v0 s1 v1 s2 v2 s3 v3 tx tc tr tw tn m0 aN aH aS aT i X M H) (K : ∀ (X1 : Xs) (M1 : RM) (H1 : Heap) (locs1 : List Loc), va_S (fun q => s.heap.size ≤ q) s.heap H1 locs1 → lwI G t5 n0 nv sn sv hi ha s0 v0 s1 v1 s2 v2 s3 v3 tx tc tr tw tn m0 aN aH aS aT (i + 1) X1 M1 H1 → W p l e room_1 s m #[Value.ref b] below meth c H1 locs1 (29 + 4 * (i + 1)) (62785 + 465 * (i + 1)) Q (F0 m 822 ls [])) : W p l e room_1 s m #[Value.ref b] below meth c H locs (29 + 4 * i) (62785 + 465 * i) Q (F0 m 799 ls []) := by
  obtain ⟨hE, hB0, S, hX, hbl, hL⟩ := id C
  obtain ⟨hx, hb, hml, hown, hts⟩ := id S
  obtain ⟨hT, hMd, hdis, hlt, cc_, hcc, hXM⟩ := id hI
  obtain ⟨N, Hs, Sl, txm, kept, fil, ty, at_, nu⟩ := M
  have hXR : XR X N Hs Sl txm kept fil ty cc_ := hXM
  have hc20 : cc_ < 2 ^ 20 := by omega
  obtain ⟨pN, pev, pev2, prows, pwin, pM, pk4, ptx, pty, pfil⟩ := lw_prm hXR hc20
  have hok := hXR.okX
  have hA : ∀ q, (fun q : Nat => s.heap.size ≤ q) q → xB0 G ≤ q := fun q h => by rw [hB0]; exact h
  have hsz0 : xB0 G ≤ H.size := by rw [hB0]; exact hS.1
  have d17 : xDis (xB0 G) [t5, n0, nv, sn, sv, hi, ha, s0, v0, s1, v1, s2, v2, s3, v3, tx, tc, tr, tw, tn] := xDis_sub hdis [0, 1, 2, 3, 4, 5, 6, 7, 8, 9, 10, 11, 12, 13, 14, 15, 16, 17, 18, 19] (by decide) rfl
  have d5 : xDis (xB0 G) [m0, aN, aH, aS, aT] := xDis_sub hdis [20, 21, 22, 23, 24] (by decide) rfl
  have hLB : ∀ q ∈ [t5, n0, nv, sn, sv, hi, ha, s0, v0, s1, v1, s2, v2, s3, v3, tx, tc, tr, tw, tn], q ∈ [t5, n0, nv, sn, sv, hi, ha, s0, v0, s1, v1, s2, v2, s3, v3, tx, tc, tr, tw, tn, m0, aN, aH, aS, aT] := L_sub [0, 1, 2, 3, 4, 5, 6, 7, 8, 9, 10, 11, 12, 13, 14, 15, 16, 17, 18, 19] rfl
  have hA1 : ∀ q, (q ∈ [t5, n0, nv, sn, sv, hi, ha, s0, v0, s1, v1, s2, v2, s3, v3, tx, tc, tr, tw, tn] ∨ H.size ≤ q) → s.heap.size ≤ q := fun q h => h.elim (fun z => by rw [← hB0]; exact d17.2 q z) (fun z => Nat.le_trans hS.1 z)
  have hA2 : ∀ q, q ∈ [m0, aN, aH, aS, aT] → s.heap.size ≤ q := fun q z => by rw [← hB0]; exact d5.2 q z
  obtain ⟨vf, er, vfs, ers, hcs, r, tfv, tfn, tfl, hPt, -⟩ := id hT
  refine lv_aload_n hx hb dL_law_799 rfl (lv_at hl 1 rfl) ?_
  refine lw_arg C hS 1 (by omega) hl rfl rfl dL_law_800 dL_law_801 dL_law_802 (by decide) dL_law_803 dL_law_804 ?_
  refine xrd (xrunV (As := [.int (xs (4 * i + 1))]) (rest := []) S (c_X5_count l G [t5, n0, nv, sn, sv, hi, ha, s0, v0, s1, v1, s2, v2, s3, v3, tx, tc, tr, tw, tn, m0, aN, aH, aS, aT] t5 n0 nv sn sv hi ha s0 v0 s1 v1 s2 v2 s3 v3 tx tc tr tw tn X (xs (4 * i + 1)) hok) (cwV 1 hts gL_law_X5_count rfl rfl rfl (by decide +kernel) ⟨Nat.le_of_ble_eq_true rfl, Nat.le_of_ble_eq_true rfl⟩) hE hS hA 0 5 hPt rfl rfl rfl hT rfl rfl hl.1 (Nat.le_of_ble_eq_true rfl) dL_law_805 ⟨show _ ≤ 600000 by omega, show _ ≤ 7302250 by omega⟩) ?_
  have hMd1 := hMd
  have hS1 := hS
  have hT1 := hT
  have hz1 : H.size ≤ H.size := Nat.le_refl _
  refine lv_aload_n hx hb dL_law_808 rfl (lv_at hl 2 rfl) ?_
  refine lw_arg C hS1 1 (by omega) hl rfl rfl dL_law_809 dL_law_810 dL_law_811 (by decide) dL_law_812 dL_law_813 ?_
  refine xrd (xrunV (As := [.int (xs (4 * i + 1))]) (rest := [.int (cvCou X (xs (4 * i + 1)))]) S (c_X6_count l G m0 aN aH aS aT N Hs Sl txm kept fil ty at_ nu (xs (4 * i + 1)) pN pev pev2 prows pwin) (cwV 1 hts gL_law_X6_count rfl rfl rfl (by decide +kernel) ⟨Nat.le_of_ble_eq_true rfl, Nat.le_of_ble_eq_true rfl⟩) hE hS1 hA 0 6 hMd1 rfl rfl rfl hMd1 rfl rfl hl.1 (Nat.le_of_ble_eq_true rfl) dL_law_814 ⟨show _ ≤ 600000 by omega, show _ ≤ 7302250 by omega⟩) ?_
  have hans := rd_cou hXR (xs (4 * i + 1))
  refine lv_icmp_eq (tgt := 822) hx hb dL_law_817 (by decide) (fun _ => ?_) (fun z => absurd hans z)
  refine W.widen (k := 29 + 4 * (i + 1)) (n := 62785 + 465 * (i + 1)) (by omega) (by omega) ?_
  exact K _ _ H locs hS1 ⟨hT1, hMd1, hdis, fun q hq => Nat.lt_of_lt_of_le (hlt q hq) hz1, cc_, by omega, hXM⟩
