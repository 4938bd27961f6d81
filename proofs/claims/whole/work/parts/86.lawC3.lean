/-! ===== the law, case by case: undo, keep, restore, get, vector, block ===== -/
set_option maxHeartbeats 4000000 in
set_option maxRecDepth 100000 in
theorem lw_c14 {p : Program} {e : Env} {s : State} {m : MethodId} {below : List Frame} {meth : Method} {c : Code} (l : Launch) {b L : Nat} {xs : Nat → Int32} {G : xG} (C : lwC p s m c G b L xs) {Q : State → Prop} {i : Nat} (hiL : 4 * i + 4 ≤ L) {t5 n0 nv sn sv hi ha s0 v0 s1 v1 s2 v2 s3 v3 tx tc tr tw tn m0 aN aH aS aT : Nat} {X : Xs} {M : RM} {H : Heap} {locs : List Loc} {ls : Array Slot} (hl : lv_has ls 4 [(0, .ref b), (1, .ref t5), (2, .ref m0), (3, .int (nI (4 * i)))]) (hS : va_S (fun q => s.heap.size ≤ q) s.heap H locs) (hI : lwI G t5 n0 nv sn sv hi ha s0 v0 s1 v1 s2 v2 s3 v3 tx tc tr tw tn m0 aN aH aS aT i X M H) (K : ∀ (X1 : Xs) (M1 : RM) (H1 : Heap) (locs1 : List Loc), va_S (fun q => s.heap.size ≤ q) s.heap H1 locs1 → lwI G t5 n0 nv sn sv hi ha s0 v0 s1 v1 s2 v2 s3 v3 tx tc tr tw tn m0 aN aH aS aT (i + 1) X1 M1 H1 → W p l e room_1 s m #[Value.ref b] below meth c H1 locs1 (29 + 4 * (i + 1)) (62785 + 465 * (i + 1)) Q (F0 m 822 ls [])) : W p l e room_1 s m #[Value.ref b] below meth c H locs (29 + 4 * i) (62785 + 465 * i) Q (F0 m 486 ls []) := by
  obtain ⟨hE, hB0, S, hX, hbl, hL⟩ := id C
  obtain ⟨hx, hb, hml, hown, hts⟩ := id S
  obtain ⟨hT, hMd, hdis, hlt, cc_, hcc, hXM⟩ := id hI
  obtain ⟨N, Hs, Sl, txm, kept, fil, ty, at_, nu⟩ := M
  have hXR : XR X N Hs Sl txm kept fil ty cc_ := hXM
  have hc20 : cc_ < 2 ^ 20 := by omega
  obtain ⟨pN, pev, pev2, prows, pwin, pM, pk4, ptx, pty, pfil⟩ := lw_prm hXR hc20
  have hok := hXR.okX
  have hA : ∀ q, (fun q : Nat => s.heap.size ≤ q) q → xB0 G ≤ q := fun q h => by rw [hB0]; exact h
  have hsz0 : xB0 G ≤ H.size := by rw [hB0]; exact hS.1
  have d17 : xDis (xB0 G) [t5, n0, nv, sn, sv, hi, ha, s0, v0, s1, v1, s2, v2, s3, v3, tx, tc, tr, tw, tn] := xDis_sub hdis [0, 1, 2, 3, 4, 5, 6, 7, 8, 9, 10, 11, 12, 13, 14, 15, 16, 17, 18, 19] (by decide) rfl
  have d5 : xDis (xB0 G) [m0, aN, aH, aS, aT] := xDis_sub hdis [20, 21, 22, 23, 24] (by decide) rfl
  have hLB : ∀ q ∈ [t5, n0, nv, sn, sv, hi, ha, s0, v0, s1, v1, s2, v2, s3, v3, tx, tc, tr, tw, tn], q ∈ [t5, n0, nv, sn, sv, hi, ha, s0, v0, s1, v1, s2, v2, s3, v3, tx, tc, tr, tw, tn, m0, aN, aH, aS, aT] := L_sub [0, 1, 2, 3, 4, 5, 6, 7, 8, 9, 10, 11, 12, 13, 14, 15, 16, 17, 18, 19] rfl
  have hA1 : ∀ q, (q ∈ [t5, n0, nv, sn, sv, hi, ha, s0, v0, s1, v1, s2, v2, s3, v3, tx, tc, tr, tw, tn] ∨ H.size ≤ q) → s.heap.size ≤ q := fun q h => h.elim (fun z => by rw [← hB0]; exact d17.2 q z) (fun z => Nat.le_trans hS.1 z)
  have hA2 : ∀ q, q ∈ [m0, aN, aH, aS, aT] → s.heap.size ≤ q := fun q z => by rw [← hB0]; exact d5.2 q z
  obtain ⟨vf, er, vfs, ers, hcs, r, tfv, tfn, tfl, hPt, -⟩ := id hT
  refine lv_aload_n hx hb dL_law_486 rfl (lv_at hl 1 rfl) ?_
  refine xwr (xrunV (As := []) (rest := []) S (c_X5_undo l G [t5, n0, nv, sn, sv, hi, ha, s0, v0, s1, v1, s2, v2, s3, v3, tx, tc, tr, tw, tn, m0, aN, aH, aS, aT] t5 n0 nv sn sv hi ha s0 v0 s1 v1 s2 v2 s3 v3 tx tc tr tw tn X H.size d17 hLB hlt hsz0 hok) (cwV 0 hts gL_law_X5_undo rfl rfl rfl (by decide +kernel) ⟨Nat.le_of_ble_eq_true rfl, Nat.le_of_ble_eq_true rfl⟩) hE hS hA 0 5 hPt rfl rfl rfl ⟨rfl, hT⟩ rfl rfl hl.1 (Nat.le_of_ble_eq_true rfl) dL_law_487 ⟨show _ ≤ 600000 by omega, show _ ≤ 7302250 by omega⟩) hS hA1 hA1 (fun uw1 H1 locs1 hT1 hz1 hk1 hS1 => ?_)
  have hMd1 := lw_k1 hdis hMd hk1
  refine lv_aload_n hx hb dL_law_490 rfl (lv_at hl 2 rfl) ?_
  refine xwr (xrunV (As := []) (rest := [.int (cvUnd X).1]) S (c_X6_undo l G m0 aN aH aS aT N Hs Sl txm kept fil ty at_ nu pN d5 pev pev2 prows pwin (Nat.lt_trans pM (by decide)) pk4 ptx pty pfil) (cwV 0 hts gL_law_X6_undo rfl rfl rfl (by decide +kernel) ⟨Nat.le_of_ble_eq_true rfl, Nat.le_of_ble_eq_true rfl⟩) hE hS1 hA 0 6 hMd1 rfl rfl rfl hMd1 rfl rfl hl.1 (Nat.le_of_ble_eq_true rfl) dL_law_491 ⟨show _ ≤ 600000 by omega, show _ ≤ 7302250 by omega⟩) hS1 hA2 hA2 (fun uw2 H2 locs2 hM2 hz2 hk2 hS2 => ?_)
  obtain ⟨hans, hXM2⟩ := ac_und (at_ := at_) (nu := nu) hXR
  refine lv_icmp_eq (tgt := 822) hx hb dL_law_494 (by decide) (fun _ => ?_) (fun z => absurd hans z)
  refine W.widen (k := 29 + 4 * (i + 1)) (n := 62785 + 465 * (i + 1)) (by omega) (by omega) ?_
  exact K _ _ H2 locs2 hS2 ⟨lw_k2 hdis hT1 hk2, hM2, hdis, fun q hq => Nat.lt_of_lt_of_le (hlt q hq) (Nat.le_trans hz1 hz2), cc_ + 200, by omega, hXM2⟩
set_option maxHeartbeats 4000000 in
set_option maxRecDepth 100000 in
theorem lw_c15 {p : Program} {e : Env} {s : State} {m : MethodId} {below : List Frame} {meth : Method} {c : Code} (l : Launch) {b L : Nat} {xs : Nat → Int32} {G : xG} (C : lwC p s m c G b L xs) {Q : State → Prop} {i : Nat} (hiL : 4 * i + 4 ≤ L) {t5 n0 nv sn sv hi ha s0 v0 s1 v1 s2 v2 s3 v3 tx tc tr tw tn m0 aN aH aS aT : Nat} {X : Xs} {M : RM} {H : Heap} {locs : List Loc} {ls : Array Slot} (hl : lv_has ls 4 [(0, .ref b), (1, .ref t5), (2, .ref m0), (3, .int (nI (4 * i)))]) (hS : va_S (fun q => s.heap.size ≤ q) s.heap H locs) (hI : lwI G t5 n0 nv sn sv hi ha s0 v0 s1 v1 s2 v2 s3 v3 tx tc tr tw tn m0 aN aH aS aT i X M H) (K : ∀ (X1 : Xs) (M1 : RM) (H1 : Heap) (locs1 : List Loc), va_S (fun q => s.heap.size ≤ q) s.heap H1 locs1 → lwI G t5 n0 nv sn sv hi ha s0 v0 s1 v1 s2 v2 s3 v3 tx tc tr tw tn m0 aN aH aS aT (i + 1) X1 M1 H1 → W p l e room_1 s m #[Value.ref b] below meth c H1 locs1 (29 + 4 * (i + 1)) (62785 + 465 * (i + 1)) Q (F0 m 822 ls [])) : W p l e room_1 s m #[Value.ref b] below meth c H locs (29 + 4 * i) (62785 + 465 * i) Q (F0 m 499 ls []) := by
  obtain ⟨hE, hB0, S, hX, hbl, hL⟩ := id C
  obtain ⟨hx, hb, hml, hown, hts⟩ := id S
  obtain ⟨hT, hMd, hdis, hlt, cc_, hcc, hXM⟩ := id hI
  obtain ⟨N, Hs, Sl, txm, kept, fil, ty, at_, nu⟩ := M
  have hXR : XR X N Hs Sl txm kept fil ty cc_ := hXM
  have hc20 : cc_ < 2 ^ 20 := by omega
  obtain ⟨pN, pev, pev2, prows, pwin, pM, pk4, ptx, pty, pfil⟩ := lw_prm hXR hc20
  have hok := hXR.okX
  have hA : ∀ q, (fun q : Nat => s.heap.size ≤ q) q → xB0 G ≤ q := fun q h => by rw [hB0]; exact h
  have hsz0 : xB0 G ≤ H.size := by rw [hB0]; exact hS.1
  have d17 : xDis (xB0 G) [t5, n0, nv, sn, sv, hi, ha, s0, v0, s1, v1, s2, v2, s3, v3, tx, tc, tr, tw, tn] := xDis_sub hdis [0, 1, 2, 3, 4, 5, 6, 7, 8, 9, 10, 11, 12, 13, 14, 15, 16, 17, 18, 19] (by decide) rfl
  have d5 : xDis (xB0 G) [m0, aN, aH, aS, aT] := xDis_sub hdis [20, 21, 22, 23, 24] (by decide) rfl
  have hLB : ∀ q ∈ [t5, n0, nv, sn, sv, hi, ha, s0, v0, s1, v1, s2, v2, s3, v3, tx, tc, tr, tw, tn], q ∈ [t5, n0, nv, sn, sv, hi, ha, s0, v0, s1, v1, s2, v2, s3, v3, tx, tc, tr, tw, tn, m0, aN, aH, aS, aT] := L_sub [0, 1, 2, 3, 4, 5, 6, 7, 8, 9, 10, 11, 12, 13, 14, 15, 16, 17, 18, 19] rfl
  have hA1 : ∀ q, (q ∈ [t5, n0, nv, sn, sv, hi, ha, s0, v0, s1, v1, s2, v2, s3, v3, tx, tc, tr, tw, tn] ∨ H.size ≤ q) → s.heap.size ≤ q := fun q h => h.elim (fun z => by rw [← hB0]; exact d17.2 q z) (fun z => Nat.le_trans hS.1 z)
  have hA2 : ∀ q, q ∈ [m0, aN, aH, aS, aT] → s.heap.size ≤ q := fun q z => by rw [← hB0]; exact d5.2 q z
  obtain ⟨vf, er, vfs, ers, hcs, r, tfv, tfn, tfl, hPt, -⟩ := id hT
  refine lv_aload_n hx hb dL_law_499 rfl (lv_at hl 1 rfl) ?_
  refine xwr (xrunV (As := []) (rest := []) S (c_X5_keep l G [t5, n0, nv, sn, sv, hi, ha, s0, v0, s1, v1, s2, v2, s3, v3, tx, tc, tr, tw, tn, m0, aN, aH, aS, aT] t5 n0 nv sn sv hi ha s0 v0 s1 v1 s2 v2 s3 v3 tx tc tr tw tn X H.size d17 hLB hlt hsz0 hok) (cwV 0 hts gL_law_X5_keep rfl rfl rfl (by decide +kernel) ⟨Nat.le_of_ble_eq_true rfl, Nat.le_of_ble_eq_true rfl⟩) hE hS hA 0 5 hPt rfl rfl rfl ⟨rfl, hT⟩ rfl rfl hl.1 (Nat.le_of_ble_eq_true rfl) dL_law_500 ⟨show _ ≤ 600000 by omega, show _ ≤ 7302250 by omega⟩) hS hA1 hA1 (fun uw1 H1 locs1 hT1 hz1 hk1 hS1 => ?_)
  have hMd1 := lw_k1 hdis hMd hk1
  refine lv_aload_n hx hb dL_law_503 rfl (lv_at hl 2 rfl) ?_
  refine xwr (xrunV (As := []) (rest := [.int (cvKee X).1]) S (c_X6_keep l G m0 aN aH aS aT N Hs Sl txm kept fil ty at_ nu pN d5 pev pev2 prows pwin (Nat.lt_trans pM (by decide)) pk4 ptx pty pfil) (cwV 0 hts gL_law_X6_keep rfl rfl rfl (by decide +kernel) ⟨Nat.le_of_ble_eq_true rfl, Nat.le_of_ble_eq_true rfl⟩) hE hS1 hA 0 6 hMd1 rfl rfl rfl hMd1 rfl rfl hl.1 (Nat.le_of_ble_eq_true rfl) dL_law_504 ⟨show _ ≤ 600000 by omega, show _ ≤ 7302250 by omega⟩) hS1 hA2 hA2 (fun uw2 H2 locs2 hM2 hz2 hk2 hS2 => ?_)
  obtain ⟨hans, hXM2⟩ := ac_kee (at_ := at_) (nu := nu) hXR
  refine lv_icmp_eq (tgt := 822) hx hb dL_law_507 (by decide) (fun _ => ?_) (fun z => absurd hans z)
  refine W.widen (k := 29 + 4 * (i + 1)) (n := 62785 + 465 * (i + 1)) (by omega) (by omega) ?_
  exact K _ _ H2 locs2 hS2 ⟨lw_k2 hdis hT1 hk2, hM2, hdis, fun q hq => Nat.lt_of_lt_of_le (hlt q hq) (Nat.le_trans hz1 hz2), cc_ + 200, by omega, hXM2⟩
set_option maxHeartbeats 4000000 in
set_option maxRecDepth 100000 in
theorem lw_c16 {p : Program} {e : Env} {s : State} {m : MethodId} {below : List Frame} {meth : Method} {c : Code} (l : Launch) {b L : Nat} {xs : Nat → Int32} {G : xG} (C : lwC p s m c G b L xs) {Q : State → Prop} {i : Nat} (hiL : 4 * i + 4 ≤ L) {t5 n0 nv sn sv hi ha s0 v0 s1 v1 s2 v2 s3 v3 tx tc tr tw tn m0 aN aH aS aT : Nat} {X : Xs} {M : RM} {H : Heap} {locs : List Loc} {ls : Array Slot} (hl : lv_has ls 4 [(0, .ref b), (1, .ref t5), (2, .ref m0), (3, .int (nI (4 * i)))]) (hS : va_S (fun q => s.heap.size ≤ q) s.heap H locs) (hI : lwI G t5 n0 nv sn sv hi ha s0 v0 s1 v1 s2 v2 s3 v3 tx tc tr tw tn m0 aN aH aS aT i X M H) (K : ∀ (X1 : Xs) (M1 : RM) (H1 : Heap) (locs1 : List Loc), va_S (fun q => s.heap.size ≤ q) s.heap H1 locs1 → lwI G t5 n0 nv sn sv hi ha s0 v0 s1 v1 s2 v2 s3 v3 tx tc tr tw tn m0 aN aH aS aT (i + 1) X1 M1 H1 → W p l e room_1 s m #[Value.ref b] below meth c H1 locs1 (29 + 4 * (i + 1)) (62785 + 465 * (i + 1)) Q (F0 m 822 ls [])) : W p l e room_1 s m #[Value.ref b] below meth c H locs (29 + 4 * i) (62785 + 465 * i) Q (F0 m 512 ls []) := by
  obtain ⟨hE, hB0, S, hX, hbl, hL⟩ := id C
  obtain ⟨hx, hb, hml, hown, hts⟩ := id S
  obtain ⟨hT, hMd, hdis, hlt, cc_, hcc, hXM⟩ := id hI
  obtain ⟨N, Hs, Sl, txm, kept, fil, ty, at_, nu⟩ := M
  have hXR : XR X N Hs Sl txm kept fil ty cc_ := hXM
  have hc20 : cc_ < 2 ^ 20 := by omega
  obtain ⟨pN, pev, pev2, prows, pwin, pM, pk4, ptx, pty, pfil⟩ := lw_prm hXR hc20
  have hok := hXR.okX
  have hA : ∀ q, (fun q : Nat => s.heap.size ≤ q) q → xB0 G ≤ q := fun q h => by rw [hB0]; exact h
  have hsz0 : xB0 G ≤ H.size := by rw [hB0]; exact hS.1
  have d17 : xDis (xB0 G) [t5, n0, nv, sn, sv, hi, ha, s0, v0, s1, v1, s2, v2, s3, v3, tx, tc, tr, tw, tn] := xDis_sub hdis [0, 1, 2, 3, 4, 5, 6, 7, 8, 9, 10, 11, 12, 13, 14, 15, 16, 17, 18, 19] (by decide) rfl
  have d5 : xDis (xB0 G) [m0, aN, aH, aS, aT] := xDis_sub hdis [20, 21, 22, 23, 24] (by decide) rfl
  have hLB : ∀ q ∈ [t5, n0, nv, sn, sv, hi, ha, s0, v0, s1, v1, s2, v2, s3, v3, tx, tc, tr, tw, tn], q ∈ [t5, n0, nv, sn, sv, hi, ha, s0, v0, s1, v1, s2, v2, s3, v3, tx, tc, tr, tw, tn, m0, aN, aH, aS, aT] := L_sub [0, 1, 2, 3, 4, 5, 6, 7, 8, 9, 10, 11, 12, 13, 14, 15, 16, 17, 18, 19] rfl
  have hA1 : ∀ q, (q ∈ [t5, n0, nv, sn, sv, hi, ha, s0, v0, s1, v1, s2, v2, s3, v3, tx, tc, tr, tw, tn] ∨ H.size ≤ q) → s.heap.size ≤ q := fun q h => h.elim (fun z => by rw [← hB0]; exact d17.2 q z) (fun z => Nat.le_trans hS.1 z)
  have hA2 : ∀ q, q ∈ [m0, aN, aH, aS, aT] → s.heap.size ≤ q := fun q z => by rw [← hB0]; exact d5.2 q z
  obtain ⟨vf, er, vfs, ers, hcs, r, tfv, tfn, tfl, hPt, -⟩ := id hT
  refine lv_aload_n hx hb dL_law_512 rfl (lv_at hl 1 rfl) ?_
  refine xwr (xrunV (As := []) (rest := []) S (c_X5_restore l G [t5, n0, nv, sn, sv, hi, ha, s0, v0, s1, v1, s2, v2, s3, v3, tx, tc, tr, tw, tn, m0, aN, aH, aS, aT] t5 n0 nv sn sv hi ha s0 v0 s1 v1 s2 v2 s3 v3 tx tc tr tw tn X H.size d17 hLB hlt hsz0 hok) (cwV 0 hts gL_law_X5_restore rfl rfl rfl (by decide +kernel) ⟨Nat.le_of_ble_eq_true rfl, Nat.le_of_ble_eq_true rfl⟩) hE hS hA 0 5 hPt rfl rfl rfl ⟨rfl, hT⟩ rfl rfl hl.1 (Nat.le_of_ble_eq_true rfl) dL_law_513 ⟨show _ ≤ 600000 by omega, show _ ≤ 7302250 by omega⟩) hS hA1 hA1 (fun uw1 H1 locs1 hT1 hz1 hk1 hS1 => ?_)
  have hMd1 := lw_k1 hdis hMd hk1
  refine lv_aload_n hx hb dL_law_516 rfl (lv_at hl 2 rfl) ?_
  refine xwr (xrunV (As := []) (rest := [.int (cvRes X).1]) S (c_X6_restore l G m0 aN aH aS aT N Hs Sl txm kept fil ty at_ nu pN d5 pev pev2 prows pwin (Nat.lt_trans pM (by decide)) pk4 ptx pty pfil) (cwV 0 hts gL_law_X6_restore rfl rfl rfl (by decide +kernel) ⟨Nat.le_of_ble_eq_true rfl, Nat.le_of_ble_eq_true rfl⟩) hE hS1 hA 0 6 hMd1 rfl rfl rfl hMd1 rfl rfl hl.1 (Nat.le_of_ble_eq_true rfl) dL_law_517 ⟨show _ ≤ 600000 by omega, show _ ≤ 7302250 by omega⟩) hS1 hA2 hA2 (fun uw2 H2 locs2 hM2 hz2 hk2 hS2 => ?_)
  obtain ⟨hans, hXM2⟩ := ac_res (at_ := at_) (nu := nu) hXR
  refine lv_icmp_eq (tgt := 822) hx hb dL_law_520 (by decide) (fun _ => ?_) (fun z => absurd hans z)
  refine W.widen (k := 29 + 4 * (i + 1)) (n := 62785 + 465 * (i + 1)) (by omega) (by omega) ?_
  exact K _ _ H2 locs2 hS2 ⟨lw_k2 hdis hT1 hk2, hM2, hdis, fun q hq => Nat.lt_of_lt_of_le (hlt q hq) (Nat.le_trans hz1 hz2), cc_ + 200, by omega, hXM2⟩
set_option maxHeartbeats 4000000 in
set_option maxRecDepth 100000 in
theorem lw_c17 {p : Program} {e : Env} {s : State} {m : MethodId} {below : List Frame} {meth : Method} {c : Code} (l : Launch) {b L : Nat} {xs : Nat → Int32} {G : xG} (C : lwC p s m c G b L xs) {Q : State → Prop} {i : Nat} (hiL : 4 * i + 4 ≤ L) {t5 n0 nv sn sv hi ha s0 v0 s1 v1 s2 v2 s3 v3 tx tc tr tw tn m0 aN aH aS aT : Nat} {X : Xs} {M : RM} {H : Heap} {locs : List Loc} {ls : Array Slot} (hl : lv_has ls 4 [(0, .ref b), (1, .ref t5), (2, .ref m0), (3, .int (nI (4 * i)))]) (hS : va_S (fun q => s.heap.size ≤ q) s.heap H locs) (hI : lwI G t5 n0 nv sn sv hi ha s0 v0 s1 v1 s2 v2 s3 v3 tx tc tr tw tn m0 aN aH aS aT i X M H) (K : ∀ (X1 : Xs) (M1 : RM) (H1 : Heap) (locs1 : List Loc), va_S (fun q => s.heap.size ≤ q) s.heap H1 locs1 → lwI G t5 n0 nv sn sv hi ha s0 v0 s1 v1 s2 v2 s3 v3 tx tc tr tw tn m0 aN aH aS aT (i + 1) X1 M1 H1 → W p l e room_1 s m #[Value.ref b] below meth c H1 locs1 (29 + 4 * (i + 1)) (62785 + 465 * (i + 1)) Q (F0 m 822 ls [])) : W p l e room_1 s m #[Value.ref b] below meth c H locs (29 + 4 * i) (62785 + 465 * i) Q (F0 m 525 ls []) := by
  obtain ⟨hE, hB0, S, hX, hbl, hL⟩ := id C
  obtain ⟨hx, hb, hml, hown, hts⟩ := id S
  obtain ⟨hT, hMd, hdis, hlt, cc_, hcc, hXM⟩ := id hI
  obtain ⟨N, Hs, Sl, txm, kept, fil, ty, at_, nu⟩ := M
  have hXR : XR X N Hs Sl txm kept fil ty cc_ := hXM
  have hc20 : cc_ < 2 ^ 20 := by omega
  obtain ⟨pN, pev, pev2, prows, pwin, pM, pk4, ptx, pty, pfil⟩ := lw_prm hXR hc20
  have hok := hXR.okX
  have hA : ∀ q, (fun q : Nat => s.heap.size ≤ q) q → xB0 G ≤ q := fun q h => by rw [hB0]; exact h
  have hsz0 : xB0 G ≤ H.size := by rw [hB0]; exact hS.1
  have d17 : xDis (xB0 G) [t5, n0, nv, sn, sv, hi, ha, s0, v0, s1, v1, s2, v2, s3, v3, tx, tc, tr, tw, tn] := xDis_sub hdis [0, 1, 2, 3, 4, 5, 6, 7, 8, 9, 10, 11, 12, 13, 14, 15, 16, 17, 18, 19] (by decide) rfl
  have d5 : xDis (xB0 G) [m0, aN, aH, aS, aT] := xDis_sub hdis [20, 21, 22, 23, 24] (by decide) rfl
  have hLB : ∀ q ∈ [t5, n0, nv, sn, sv, hi, ha, s0, v0, s1, v1, s2, v2, s3, v3, tx, tc, tr, tw, tn], q ∈ [t5, n0, nv, sn, sv, hi, ha, s0, v0, s1, v1, s2, v2, s3, v3, tx, tc, tr, tw, tn, m0, aN, aH, aS, aT] := L_sub [0, 1, 2, 3, 4, 5, 6, 7, 8, 9, 10, 11, 12, 13, 14, 15, 16, 17, 18, 19] rfl
  have hA1 : ∀ q, (q ∈ [t5, n0, nv, sn, sv, hi, ha, s0, v0, s1, v1, s2, v2, s3, v3, tx, tc, tr, tw, tn] ∨ H.size ≤ q) → s.heap.size ≤ q := fun q h => h.elim (fun z => by rw [← hB0]; exact d17.2 q z) (fun z => Nat.le_trans hS.1 z)
  have hA2 : ∀ q, q ∈ [m0, aN, aH, aS, aT] → s.heap.size ≤ q := fun q z => by rw [← hB0]; exact d5.2 q z
  obtain ⟨vf, er, vfs, ers, hcs, r, tfv, tfn, tfl, hPt, -⟩ := id hT
  refine lv_aload_n hx hb dL_law_525 rfl (lv_at hl 1 rfl) ?_
  refine lw_arg C hS 1 (by omega) hl rfl rfl dL_law_526 dL_law_527 dL_law_528 (by decide) dL_law_529 dL_law_530 ?_
  refine lw_arg C hS 2 (by omega) hl rfl rfl dL_law_531 dL_law_532 dL_law_533 (by decide) dL_law_534 dL_law_535 ?_
  refine xrd (xrunV (As := [.int (xs (4 * i + 1)), .int (xs (4 * i + 2))]) (rest := []) S (c_X5_get l G [t5, n0, nv, sn, sv, hi, ha, s0, v0, s1, v1, s2, v2, s3, v3, tx, tc, tr, tw, tn, m0, aN, aH, aS, aT] t5 n0 nv sn sv hi ha s0 v0 s1 v1 s2 v2 s3 v3 tx tc tr tw tn X (xs (4 * i + 1)) (xs (4 * i + 2)) hok) (cwV 2 hts gL_law_X5_get rfl rfl rfl (by decide +kernel) ⟨Nat.le_of_ble_eq_true rfl, Nat.le_of_ble_eq_true rfl⟩) hE hS hA 0 5 hPt rfl rfl rfl hT rfl rfl hl.1 (Nat.le_of_ble_eq_true rfl) dL_law_536 ⟨show _ ≤ 600000 by omega, show _ ≤ 7302250 by omega⟩) ?_
  have hMd1 := hMd
  have hS1 := hS
  have hT1 := hT
  have hz1 : H.size ≤ H.size := Nat.le_refl _
  refine lv_aload_n hx hb dL_law_539 rfl (lv_at hl 2 rfl) ?_
  refine lw_arg C hS1 1 (by omega) hl rfl rfl dL_law_540 dL_law_541 dL_law_542 (by decide) dL_law_543 dL_law_544 ?_
  refine lw_arg C hS1 2 (by omega) hl rfl rfl dL_law_545 dL_law_546 dL_law_547 (by decide) dL_law_548 dL_law_549 ?_
  refine xrd (xrunV (As := [.int (xs (4 * i + 1)), .int (xs (4 * i + 2))]) (rest := [.int (cvGet X (xs (4 * i + 1)) (xs (4 * i + 2)))]) S (c_X6_get l G m0 aN aH aS aT N Hs Sl txm kept fil ty at_ nu (xs (4 * i + 1)) (xs (4 * i + 2)) pN pev pev2 prows pwin) (cwV 2 hts gL_law_X6_get rfl rfl rfl (by decide +kernel) ⟨Nat.le_of_ble_eq_true rfl, Nat.le_of_ble_eq_true rfl⟩) hE hS1 hA 0 6 hMd1 rfl rfl rfl hMd1 rfl rfl hl.1 (Nat.le_of_ble_eq_true rfl) dL_law_550 ⟨show _ ≤ 600000 by omega, show _ ≤ 7302250 by omega⟩) ?_
  have hans := rd_get hXR (xs (4 * i + 1)) (xs (4 * i + 2))
  refine lv_icmp_eq (tgt := 822) hx hb dL_law_553 (by decide) (fun _ => ?_) (fun z => absurd hans z)
  refine W.widen (k := 29 + 4 * (i + 1)) (n := 62785 + 465 * (i + 1)) (by omega) (by omega) ?_
  exact K _ _ H locs hS1 ⟨hT1, hMd1, hdis, fun q hq => Nat.lt_of_lt_of_le (hlt q hq) hz1, cc_, by omega, hXM⟩
set_option maxHeartbeats 4000000 in
set_option maxRecDepth 100000 in
theorem lw_c18 {p : Program} {e : Env} {s : State} {m : MethodId} {below : List Frame} {meth : Method} {c : Code} (l : Launch) {b L : Nat} {xs : Nat → Int32} {G : xG} (C : lwC p s m c G b L xs) {Q : State → Prop} {i : Nat} (hiL : 4 * i + 4 ≤ L) {t5 n0 nv sn sv hi ha s0 v0 s1 v1 s2 v2 s3 v3 tx tc tr tw tn m0 aN aH aS aT : Nat} {X : Xs} {M : RM} {H : Heap} {locs : List Loc} {ls : Array Slot} (hl : lv_has ls 4 [(0, .ref b), (1, .ref t5), (2, .ref m0), (3, .int (nI (4 * i)))]) (hS : va_S (fun q => s.heap.size ≤ q) s.heap H locs) (hI : lwI G t5 n0 nv sn sv hi ha s0 v0 s1 v1 s2 v2 s3 v3 tx tc tr tw tn m0 aN aH aS aT i X M H) (K : ∀ (X1 : Xs) (M1 : RM) (H1 : Heap) (locs1 : List Loc), va_S (fun q => s.heap.size ≤ q) s.heap H1 locs1 → lwI G t5 n0 nv sn sv hi ha s0 v0 s1 v1 s2 v2 s3 v3 tx tc tr tw tn m0 aN aH aS aT (i + 1) X1 M1 H1 → W p l e room_1 s m #[Value.ref b] below meth c H1 locs1 (29 + 4 * (i + 1)) (62785 + 465 * (i + 1)) Q (F0 m 822 ls [])) : W p l e room_1 s m #[Value.ref b] below meth c H locs (29 + 4 * i) (62785 + 465 * i) Q (F0 m 558 ls []) := by
  obtain ⟨hE, hB0, S, hX, hbl, hL⟩ := id C
  obtain ⟨hx, hb, hml, hown, hts⟩ := id S
  obtain ⟨hT, hMd, hdis, hlt, cc_, hcc, hXM⟩ := id hI
  obtain ⟨N, Hs, Sl, txm, kept, fil, ty, at_, nu⟩ := M
  have hXR : XR X N Hs Sl txm kept fil ty cc_ := hXM
  have hc20 : cc_ < 2 ^ 20 := by omega
  obtain ⟨pN, pev, pev2, prows, pwin, pM, pk4, ptx, pty, pfil⟩ := lw_prm hXR hc20
  have hok := hXR.okX
  have hA : ∀ q, (fun q : Nat => s.heap.size ≤ q) q → xB0 G ≤ q := fun q h => by rw [hB0]; exact h
  have hsz0 : xB0 G ≤ H.size := by rw [hB0]; exact hS.1
  have d17 : xDis (xB0 G) [t5, n0, nv, sn, sv, hi, ha, s0, v0, s1, v1, s2, v2, s3, v3, tx, tc, tr, tw, tn] := xDis_sub hdis [0, 1, 2, 3, 4, 5, 6, 7, 8, 9, 10, 11, 12, 13, 14, 15, 16, 17, 18, 19] (by decide) rfl
  have d5 : xDis (xB0 G) [m0, aN, aH, aS, aT] := xDis_sub hdis [20, 21, 22, 23, 24] (by decide) rfl
  have hLB : ∀ q ∈ [t5, n0, nv, sn, sv, hi, ha, s0, v0, s1, v1, s2, v2, s3, v3, tx, tc, tr, tw, tn], q ∈ [t5, n0, nv, sn, sv, hi, ha, s0, v0, s1, v1, s2, v2, s3, v3, tx, tc, tr, tw, tn, m0, aN, aH, aS, aT] := L_sub [0, 1, 2, 3, 4, 5, 6, 7, 8, 9, 10, 11, 12, 13, 14, 15, 16, 17, 18, 19] rfl
  have hA1 : ∀ q, (q ∈ [t5, n0, nv, sn, sv, hi, ha, s0, v0, s1, v1, s2, v2, s3, v3, tx, tc, tr, tw, tn] ∨ H.size ≤ q) → s.heap.size ≤ q := fun q h => h.elim (fun z => by rw [← hB0]; exact d17.2 q z) (fun z => Nat.le_trans hS.1 z)
  have hA2 : ∀ q, q ∈ [m0, aN, aH, aS, aT] → s.heap.size ≤ q := fun q z => by rw [← hB0]; exact d5.2 q z
  obtain ⟨vf, er, vfs, ers, hcs, r, tfv, tfn, tfl, hPt, -⟩ := id hT
  refine lv_aload_n hx hb dL_law_558 rfl (lv_at hl 1 rfl) ?_
  refine lw_arg C hS 1 (by omega) hl rfl rfl dL_law_559 dL_law_560 dL_law_561 (by decide) dL_law_562 dL_law_563 ?_
  refine lw_arg C hS 2 (by omega) hl rfl rfl dL_law_564 dL_law_565 dL_law_566 (by decide) dL_law_567 dL_law_568 ?_
  refine xrd (xrunV (As := [.int (xs (4 * i + 1)), .int (xs (4 * i + 2))]) (rest := []) S (c_X5_vector l G [t5, n0, nv, sn, sv, hi, ha, s0, v0, s1, v1, s2, v2, s3, v3, tx, tc, tr, tw, tn, m0, aN, aH, aS, aT] t5 n0 nv sn sv hi ha s0 v0 s1 v1 s2 v2 s3 v3 tx tc tr tw tn X (xs (4 * i + 1)) (xs (4 * i + 2)) hok) (cwV 2 hts gL_law_X5_vector rfl rfl rfl (by decide +kernel) ⟨Nat.le_of_ble_eq_true rfl, Nat.le_of_ble_eq_true rfl⟩) hE hS hA 0 5 hPt rfl rfl rfl hT rfl rfl hl.1 (Nat.le_of_ble_eq_true rfl) dL_law_569 ⟨show _ ≤ 600000 by omega, show _ ≤ 7302250 by omega⟩) ?_
  have hMd1 := hMd
  have hS1 := hS
  have hT1 := hT
  have hz1 : H.size ≤ H.size := Nat.le_refl _
  refine lv_aload_n hx hb dL_law_572 rfl (lv_at hl 2 rfl) ?_
  refine lw_arg C hS1 1 (by omega) hl rfl rfl dL_law_573 dL_law_574 dL_law_575 (by decide) dL_law_576 dL_law_577 ?_
  refine lw_arg C hS1 2 (by omega) hl rfl rfl dL_law_578 dL_law_579 dL_law_580 (by decide) dL_law_581 dL_law_582 ?_
  refine xrd (xrunV (As := [.int (xs (4 * i + 1)), .int (xs (4 * i + 2))]) (rest := [.int (cvVec X (xs (4 * i + 1)) (xs (4 * i + 2)))]) S (c_X6_vector l G m0 aN aH aS aT N Hs Sl txm kept fil ty at_ nu (xs (4 * i + 1)) (xs (4 * i + 2)) pN pev pev2 prows pwin) (cwV 2 hts gL_law_X6_vector rfl rfl rfl (by decide +kernel) ⟨Nat.le_of_ble_eq_true rfl, Nat.le_of_ble_eq_true rfl⟩) hE hS1 hA 0 6 hMd1 rfl rfl rfl hMd1 rfl rfl hl.1 (Nat.le_of_ble_eq_true rfl) dL_law_583 ⟨show _ ≤ 600000 by omega, show _ ≤ 7302250 by omega⟩) ?_
  have hans := rd_vec hXR (xs (4 * i + 1)) (xs (4 * i + 2))
  refine lv_icmp_eq (tgt := 822) hx hb dL_law_586 (by decide) (fun _ => ?_) (fun z => absurd hans z)
  refine W.widen (k := 29 + 4 * (i + 1)) (n := 62785 + 465 * (i + 1)) (by omega) (by omega) ?_
  exact K _ _ H locs hS1 ⟨hT1, hMd1, hdis, fun q hq => Nat.lt_of_lt_of_le (hlt q hq) hz1, cc_, by omega, hXM⟩
set_option maxHeartbeats 4000000 in
set_option maxRecDepth 100000 in
theorem lw_c19 {p : Program} {e : Env} {s : State} {m : MethodId} {below : List Frame} {meth : Method} {c : Code} (l : Launch) {b L : Nat} {xs : Nat → Int32} {G : xG} (C : lwC p s m c G b L xs) {Q : State → Prop} {i : Nat} (hiL : 4 * i + 4 ≤ L) {t5 n0 nv sn sv hi ha s0 v0 s1 v1 s2 v2 s3 v3 tx tc tr tw tn m0 aN aH aS aT : Nat} {X : Xs} {M : RM} {H : Heap} {locs : List Loc} {ls : Array Slot} (hl : lv_has ls 4 [(0, .ref b), (1, .ref t5), (2, .ref m0), (3, .int (nI (4 * i)))]) (hS : va_S (fun q => s.heap.size ≤ q) s.heap H locs) (hI : lwI G t5 n0 nv sn sv hi ha s0 v0 s1 v1 s2 v2 s3 v3 tx tc tr tw tn m0 aN aH aS aT i X M H) (K : ∀ (X1 : Xs) (M1 : RM) (H1 : Heap) (locs1 : List Loc), va_S (fun q => s.heap.size ≤ q) s.heap H1 locs1 → lwI G t5 n0 nv sn sv hi ha s0 v0 s1 v1 s2 v2 s3 v3 tx tc tr tw tn m0 aN aH aS aT (i + 1) X1 M1 H1 → W p l e room_1 s m #[Value.ref b] below meth c H1 locs1 (29 + 4 * (i + 1)) (62785 + 465 * (i + 1)) Q (F0 m 822 ls [])) : W p l e room_1 s m #[Value.ref b] below meth c H locs (29 + 4 * i) (62785 + 465 * i) Q (F0 m 591 ls []) := by
  obtain ⟨hE, hB0, S, hX, hbl, hL⟩ := id C
  obtain ⟨hx, hb, hml, hown, hts⟩ := id S
  obtain ⟨hT, hMd, hdis, hlt, cc_, hcc, hXM⟩ := id hI
  obtain ⟨N, Hs, Sl, txm, kept, fil, ty, at_, nu⟩ := M
  have hXR : XR X N Hs Sl txm kept fil ty cc_ := hXM
  have hc20 : cc_ < 2 ^ 20 := by omega
  obtain ⟨pN, pev, pev2, prows, pwin, pM, pk4, ptx, pty, pfil⟩ := lw_prm hXR hc20
  have hok := hXR.okX
  have hA : ∀ q, (fun q : Nat => s.heap.size ≤ q) q → xB0 G ≤ q := fun q h => by rw [hB0]; exact h
  have hsz0 : xB0 G ≤ H.size := by rw [hB0]; exact hS.1
  have d17 : xDis (xB0 G) [t5, n0, nv, sn, sv, hi, ha, s0, v0, s1, v1, s2, v2, s3, v3, tx, tc, tr, tw, tn] := xDis_sub hdis [0, 1, 2, 3, 4, 5, 6, 7, 8, 9, 10, 11, 12, 13, 14, 15, 16, 17, 18, 19] (by decide) rfl
  have d5 : xDis (xB0 G) [m0, aN, aH, aS, aT] := xDis_sub hdis [20, 21, 22, 23, 24] (by decide) rfl
  have hLB : ∀ q ∈ [t5, n0, nv, sn, sv, hi, ha, s0, v0, s1, v1, s2, v2, s3, v3, tx, tc, tr, tw, tn], q ∈ [t5, n0, nv, sn, sv, hi, ha, s0, v0, s1, v1, s2, v2, s3, v3, tx, tc, tr, tw, tn, m0, aN, aH, aS, aT] := L_sub [0, 1, 2, 3, 4, 5, 6, 7, 8, 9, 10, 11, 12, 13, 14, 15, 16, 17, 18, 19] rfl
  have hA1 : ∀ q, (q ∈ [t5, n0, nv, sn, sv, hi, ha, s0, v0, s1, v1, s2, v2, s3, v3, tx, tc, tr, tw, tn] ∨ H.size ≤ q) → s.heap.size ≤ q := fun q h => h.elim (fun z => by rw [← hB0]; exact d17.2 q z) (fun z => Nat.le_trans hS.1 z)
  have hA2 : ∀ q, q ∈ [m0, aN, aH, aS, aT] → s.heap.size ≤ q := fun q z => by rw [← hB0]; exact d5.2 q z
  obtain ⟨vf, er, vfs, ers, hcs, r, tfv, tfn, tfl, hPt, -⟩ := id hT
  refine lv_aload_n hx hb dL_law_591 rfl (lv_at hl 1 rfl) ?_
  refine lw_arg C hS 1 (by omega) hl rfl rfl dL_law_592 dL_law_593 dL_law_594 (by decide) dL_law_595 dL_law_596 ?_
  refine lw_arg C hS 2 (by omega) hl rfl rfl dL_law_597 dL_law_598 dL_law_599 (by decide) dL_law_600 dL_law_601 ?_
  refine lw_arg C hS 3 (by omega) hl rfl rfl dL_law_602 dL_law_603 dL_law_604 (by decide) dL_law_605 dL_law_606 ?_
  refine xrd (xrunV (As := [.int (xs (4 * i + 1)), .int (xs (4 * i + 2)), .int (xs (4 * i + 3))]) (rest := []) S (c_X5_block l G [t5, n0, nv, sn, sv, hi, ha, s0, v0, s1, v1, s2, v2, s3, v3, tx, tc, tr, tw, tn, m0, aN, aH, aS, aT] t5 n0 nv sn sv hi ha s0 v0 s1 v1 s2 v2 s3 v3 tx tc tr tw tn X (xs (4 * i + 1)) (xs (4 * i + 2)) (xs (4 * i + 3)) hok) (cwV 3 hts gL_law_X5_block rfl rfl rfl (by decide +kernel) ⟨Nat.le_of_ble_eq_true rfl, Nat.le_of_ble_eq_true rfl⟩) hE hS hA 0 5 hPt rfl rfl rfl hT rfl rfl hl.1 (Nat.le_of_ble_eq_true rfl) dL_law_607 ⟨show _ ≤ 600000 by omega, show _ ≤ 7302250 by omega⟩) ?_
  have hMd1 := hMd
  have hS1 := hS
  have hT1 := hT
  have hz1 : H.size ≤ H.size := Nat.le_refl _
  refine lv_aload_n hx hb dL_law_610 rfl (lv_at hl 2 rfl) ?_
  refine lw_arg C hS1 1 (by omega) hl rfl rfl dL_law_611 dL_law_612 dL_law_613 (by decide) dL_law_614 dL_law_615 ?_
  refine lw_arg C hS1 2 (by omega) hl rfl rfl dL_law_616 dL_law_617 dL_law_618 (by decide) dL_law_619 dL_law_620 ?_
  refine lw_arg C hS1 3 (by omega) hl rfl rfl dL_law_621 dL_law_622 dL_law_623 (by decide) dL_law_624 dL_law_625 ?_
  refine xrd (xrunV (As := [.int (xs (4 * i + 1)), .int (xs (4 * i + 2)), .int (xs (4 * i + 3))]) (rest := [.int (cvBlo X (xs (4 * i + 1)) (xs (4 * i + 2)) (xs (4 * i + 3)))]) S (c_X6_block l G m0 aN aH aS aT N Hs Sl txm kept fil ty at_ nu (xs (4 * i + 1)) (xs (4 * i + 2)) (xs (4 * i + 3)) pN pev pev2 prows pwin) (cwV 3 hts gL_law_X6_block rfl rfl rfl (by decide +kernel) ⟨Nat.le_of_ble_eq_true rfl, Nat.le_of_ble_eq_true rfl⟩) hE hS1 hA 0 6 hMd1 rfl rfl rfl hMd1 rfl rfl hl.1 (Nat.le_of_ble_eq_true rfl) dL_law_626 ⟨show _ ≤ 600000 by omega, show _ ≤ 7302250 by omega⟩) ?_
  have hans := rd_blo hXR (xs (4 * i + 1)) (xs (4 * i + 2)) (xs (4 * i + 3))
  refine lv_icmp_eq (tgt := 822) hx hb dL_law_629 (by decide) (fun _ => ?_) (fun z => absurd hans z)
  refine W.widen (k := 29 + 4 * (i + 1)) (n := 62785 + 465 * (i + 1)) (by omega) (by omega) ?_
  exact K _ _ H locs hS1 ⟨hT1, hMd1, hdis, fun q hq => Nat.lt_of_lt_of_le (hlt q hq) hz1, cc_, by omega, hXM⟩
