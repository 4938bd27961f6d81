/-! ===== the law, case by case: editSet, editPop, editRead, finish, abandon, type, clearText ===== -/
set_option maxHeartbeats 4000000 in
set_option maxRecDepth 100000 in
theorem lw_c7 {p : Program} {e : Env} {s : State} {m : MethodId} {below : List Frame} {meth : Method} {c : Code} (l : Launch) {b L : Nat} {xs : Nat → Int32} {G : xG} (C : lwC p s m c G b L xs) {Q : State → Prop} {i : Nat} (hiL : 4 * i + 4 ≤ L) {t5 n0 nv sn sv hi ha s0 v0 s1 v1 s2 v2 s3 v3 tx tc tr tw tn m0 aN aH aS aT : Nat} {X : Xs} {M : RM} {H : Heap} {locs : List Loc} {ls : Array Slot} (hl : lv_has ls 4 [(0, .ref b), (1, .ref t5), (2, .ref m0), (3, .int (nI (4 * i)))]) (hS : va_S (fun q => s.heap.size ≤ q) s.heap H locs) (hI : lwI G t5 n0 nv sn sv hi ha s0 v0 s1 v1 s2 v2 s3 v3 tx tc tr tw tn m0 aN aH aS aT i X M H) (K : ∀ (X1 : Xs) (M1 : RM) (H1 : Heap) (locs1 : List Loc), va_S (fun q => s.heap.size ≤ q) s.heap H1 locs1 → lwI G t5 n0 nv sn sv hi ha s0 v0 s1 v1 s2 v2 s3 v3 tx tc tr tw tn m0 aN aH aS aT (i + 1) X1 M1 H1 → W p l e room_1 s m #[Value.ref b] below meth c H1 locs1 (29 + 4 * (i + 1)) (62785 + 465 * (i + 1)) Q (F0 m 822 ls [])) : W p l e room_1 s m #[Value.ref b] below meth c H locs (29 + 4 * i) (62785 + 465 * i) Q (F0 m 363 ls []) := by
  obtain ⟨hE, hB0, S, hX, hbl, hL⟩ := id C
  obtain ⟨hx, hb, hml, hown, hts⟩ := id S
  obtain ⟨hT, hMd, hdis, hlt, cc_, hcc, hXM⟩ := id hI
  obtain ⟨N, Hs, Sl, txm, kept, fil, ty, at_, nu⟩ := M
  have hXR : XR X N Hs Sl txm kept fil ty cc_ := hXM
  have hc20 : cc_ < 2 ^ 20 := by omega
  obtain ⟨pN, pev, pev2, prows, pwin, pM, pk4, ptx, pty, pfil⟩ := lw_prm hXR hc20
  have hok := hXR.okX
  have hA : ∀ q, (fun q : Nat => s.heap.size ≤ q) q → xB0 G ≤ q := fun q h => by rw [hB0]; exact h
  have hsz0 : xB0 G ≤ H.size := by rw [hB0]; exact hS.1
  have d17 : xDis (xB0 G) [t5, n0, nv, sn, sv, hi, ha, s0, v0, s1, v1, s2, v2, s3, v3, tx, tc, tr, tw, tn] := xDis_sub hdis [0, 1, 2, 3, 4, 5, 6, 7, 8, 9, 10, 11, 12, 13, 14, 15, 16, 17, 18, 19] (by decide) rfl
  have d5 : xDis (xB0 G) [m0, aN, aH, aS, aT] := xDis_sub hdis [20, 21, 22, 23, 24] (by decide) rfl
  have hLB : ∀ q ∈ [t5, n0, nv, sn, sv, hi, ha, s0, v0, s1, v1, s2, v2, s3, v3, tx, tc, tr, tw, tn], q ∈ [t5, n0, nv, sn, sv, hi, ha, s0, v0, s1, v1, s2, v2, s3, v3, tx, tc, tr, tw, tn, m0, aN, aH, aS, aT] := L_sub [0, 1, 2, 3, 4, 5, 6, 7, 8, 9, 10, 11, 12, 13, 14, 15, 16, 17, 18, 19] rfl
  have hA1 : ∀ q, (q ∈ [t5, n0, nv, sn, sv, hi, ha, s0, v0, s1, v1, s2, v2, s3, v3, tx, tc, tr, tw, tn] ∨ H.size ≤ q) → s.heap.size ≤ q := fun q h => h.elim (fun z => by rw [← hB0]; exact d17.2 q z) (fun z => Nat.le_trans hS.1 z)
  have hA2 : ∀ q, q ∈ [m0, aN, aH, aS, aT] → s.heap.size ≤ q := fun q z => by rw [← hB0]; exact d5.2 q z
  obtain ⟨vf, er, vfs, ers, hcs, r, tfv, tfn, tfl, hPt, -⟩ := id hT
  refine lv_aload_n hx hb dL_law_363 rfl (lv_at hl 1 rfl) ?_
  refine lw_arg C hS 1 (by omega) hl rfl rfl dL_law_364 dL_law_365 dL_law_366 (by decide) dL_law_367 dL_law_368 ?_
  refine lw_arg C hS 2 (by omega) hl rfl rfl dL_law_369 dL_law_370 dL_law_371 (by decide) dL_law_372 dL_law_373 ?_
  refine xwr (xrunV (As := [.int (xs (4 * i + 1)), .int (xs (4 * i + 2))]) (rest := []) S (c_X5_editSet l G [t5, n0, nv, sn, sv, hi, ha, s0, v0, s1, v1, s2, v2, s3, v3, tx, tc, tr, tw, tn, m0, aN, aH, aS, aT] t5 n0 nv sn sv hi ha s0 v0 s1 v1 s2 v2 s3 v3 tx tc tr tw tn X H.size (xs (4 * i + 1)) (xs (4 * i + 2)) d17 hLB hlt hsz0 hok) (cwV 2 hts gL_law_X5_editSet rfl rfl rfl (by decide +kernel) ⟨Nat.le_of_ble_eq_true rfl, Nat.le_of_ble_eq_true rfl⟩) hE hS hA 0 5 hPt rfl rfl rfl ⟨rfl, hT⟩ rfl rfl hl.1 (Nat.le_of_ble_eq_true rfl) dL_law_374 ⟨show _ ≤ 600000 by omega, show _ ≤ 7302250 by omega⟩) hS hA1 hA1 (fun uw1 H1 locs1 hT1 hz1 hk1 hS1 => ?_)
  have hMd1 := lw_k1 hdis hMd hk1
  refine lv_aload_n hx hb dL_law_377 rfl (lv_at hl 2 rfl) ?_
  refine lw_arg C hS1 1 (by omega) hl rfl rfl dL_law_378 dL_law_379 dL_law_380 (by decide) dL_law_381 dL_law_382 ?_
  refine lw_arg C hS1 2 (by omega) hl rfl rfl dL_law_383 dL_law_384 dL_law_385 (by decide) dL_law_386 dL_law_387 ?_
  refine xwr (xrunV (As := [.int (xs (4 * i + 1)), .int (xs (4 * i + 2))]) (rest := [.int (cvESe X (xs (4 * i + 1)) (xs (4 * i + 2))).1]) S (c_X6_editSet l G m0 aN aH aS aT N Hs Sl txm kept fil ty at_ nu (xs (4 * i + 1)) (xs (4 * i + 2)) pN d5 pev pev2 prows pwin (Nat.lt_trans pM (by decide)) pk4 ptx pty pfil) (cwV 2 hts gL_law_X6_editSet rfl rfl rfl (by decide +kernel) ⟨Nat.le_of_ble_eq_true rfl, Nat.le_of_ble_eq_true rfl⟩) hE hS1 hA 0 6 hMd1 rfl rfl rfl hMd1 rfl rfl hl.1 (Nat.le_of_ble_eq_true rfl) dL_law_388 ⟨show _ ≤ 600000 by omega, show _ ≤ 7302250 by omega⟩) hS1 hA2 hA2 (fun uw2 H2 locs2 hM2 hz2 hk2 hS2 => ?_)
  obtain ⟨hans, hXM2⟩ := ac_ese (at_ := at_) (nu := nu) hXR hc20 (xs (4 * i + 1)) (xs (4 * i + 2))
  refine lv_icmp_eq (tgt := 822) hx hb dL_law_391 (by decide) (fun _ => ?_) (fun z => absurd hans z)
  refine W.widen (k := 29 + 4 * (i + 1)) (n := 62785 + 465 * (i + 1)) (by omega) (by omega) ?_
  exact K _ _ H2 locs2 hS2 ⟨lw_k2 hdis hT1 hk2, hM2, hdis, fun q hq => Nat.lt_of_lt_of_le (hlt q hq) (Nat.le_trans hz1 hz2), cc_ + 200, by omega, hXM2⟩
set_option maxHeartbeats 4000000 in
set_option maxRecDepth 100000 in
theorem lw_c8 {p : Program} {e : Env} {s : State} {m : MethodId} {below : List Frame} {meth : Method} {c : Code} (l : Launch) {b L : Nat} {xs : Nat → Int32} {G : xG} (C : lwC p s m c G b L xs) {Q : State → Prop} {i : Nat} (hiL : 4 * i + 4 ≤ L) {t5 n0 nv sn sv hi ha s0 v0 s1 v1 s2 v2 s3 v3 tx tc tr tw tn m0 aN aH aS aT : Nat} {X : Xs} {M : RM} {H : Heap} {locs : List Loc} {ls : Array Slot} (hl : lv_has ls 4 [(0, .ref b), (1, .ref t5), (2, .ref m0), (3, .int (nI (4 * i)))]) (hS : va_S (fun q => s.heap.size ≤ q) s.heap H locs) (hI : lwI G t5 n0 nv sn sv hi ha s0 v0 s1 v1 s2 v2 s3 v3 tx tc tr tw tn m0 aN aH aS aT i X M H) (K : ∀ (X1 : Xs) (M1 : RM) (H1 : Heap) (locs1 : List Loc), va_S (fun q => s.heap.size ≤ q) s.heap H1 locs1 → lwI G t5 n0 nv sn sv hi ha s0 v0 s1 v1 s2 v2 s3 v3 tx tc tr tw tn m0 aN aH aS aT (i + 1) X1 M1 H1 → W p l e room_1 s m #[Value.ref b] below meth c H1 locs1 (29 + 4 * (i + 1)) (62785 + 465 * (i + 1)) Q (F0 m 822 ls [])) : W p l e room_1 s m #[Value.ref b] below meth c H locs (29 + 4 * i) (62785 + 465 * i) Q (F0 m 396 ls []) := by
  obtain ⟨hE, hB0, S, hX, hbl, hL⟩ := id C
  obtain ⟨hx, hb, hml, hown, hts⟩ := id S
  obtain ⟨hT, hMd, hdis, hlt, cc_, hcc, hXM⟩ := id hI
  obtain ⟨N, Hs, Sl, txm, kept, fil, ty, at_, nu⟩ := M
  have hXR : XR X N Hs Sl txm kept fil ty cc_ := hXM
  have hc20 : cc_ < 2 ^ 20 := by omega
  obtain ⟨pN, pev, pev2, prows, pwin, pM, pk4, ptx, pty, pfil⟩ := lw_prm hXR hc20
  have hok := hXR.okX
  have hA : ∀ q, (fun q : Nat => s.heap.size ≤ q) q → xB0 G ≤ q := fun q h => by rw [hB0]; exact h
  have hsz0 : xB0 G ≤ H.size := by rw [hB0]; exact hS.1
  have d17 : xDis (xB0 G) [t5, n0, nv, sn, sv, hi, ha, s0, v0, s1, v1, s2, v2, s3, v3, tx, tc, tr, tw, tn] := xDis_sub hdis [0, 1, 2, 3, 4, 5, 6, 7, 8, 9, 10, 11, 12, 13, 14, 15, 16, 17, 18, 19] (by decide) rfl
  have d5 : xDis (xB0 G) [m0, aN, aH, aS, aT] := xDis_sub hdis [20, 21, 22, 23, 24] (by decide) rfl
  have hLB : ∀ q ∈ [t5, n0, nv, sn, sv, hi, ha, s0, v0, s1, v1, s2, v2, s3, v3, tx, tc, tr, tw, tn], q ∈ [t5, n0, nv, sn, sv, hi, ha, s0, v0, s1, v1, s2, v2, s3, v3, tx, tc, tr, tw, tn, m0, aN, aH, aS, aT] := L_sub [0, 1, 2, 3, 4, 5, 6, 7, 8, 9, 10, 11, 12, 13, 14, 15, 16, 17, 18, 19] rfl
  have hA1 : ∀ q, (q ∈ [t5, n0, nv, sn, sv, hi, ha, s0, v0, s1, v1, s2, v2, s3, v3, tx, tc, tr, tw, tn] ∨ H.size ≤ q) → s.heap.size ≤ q := fun q h => h.elim (fun z => by rw [← hB0]; exact d17.2 q z) (fun z => Nat.le_trans hS.1 z)
  have hA2 : ∀ q, q ∈ [m0, aN, aH, aS, aT] → s.heap.size ≤ q := fun q z => by rw [← hB0]; exact d5.2 q z
  obtain ⟨vf, er, vfs, ers, hcs, r, tfv, tfn, tfl, hPt, -⟩ := id hT
  refine lv_aload_n hx hb dL_law_396 rfl (lv_at hl 1 rfl) ?_
  refine xwr (xrunV (As := []) (rest := []) S (c_X5_editPop l G [t5, n0, nv, sn, sv, hi, ha, s0, v0, s1, v1, s2, v2, s3, v3, tx, tc, tr, tw, tn, m0, aN, aH, aS, aT] t5 n0 nv sn sv hi ha s0 v0 s1 v1 s2 v2 s3 v3 tx tc tr tw tn X H.size d17 hLB hlt hsz0 hok) (cwV 0 hts gL_law_X5_editPop rfl rfl rfl (by decide +kernel) ⟨Nat.le_of_ble_eq_true rfl, Nat.le_of_ble_eq_true rfl⟩) hE hS hA 0 5 hPt rfl rfl rfl ⟨rfl, hT⟩ rfl rfl hl.1 (Nat.le_of_ble_eq_true rfl) dL_law_397 ⟨show _ ≤ 600000 by omega, show _ ≤ 7302250 by omega⟩) hS hA1 hA1 (fun uw1 H1 locs1 hT1 hz1 hk1 hS1 => ?_)
  have hMd1 := lw_k1 hdis hMd hk1
  refine lv_aload_n hx hb dL_law_400 rfl (lv_at hl 2 rfl) ?_
  refine xwr (xrunV (As := []) (rest := [.int (cvEPo X).1]) S (c_X6_editPop l G m0 aN aH aS aT N Hs Sl txm kept fil ty at_ nu pN d5 pev pev2 prows pwin (Nat.lt_trans pM (by decide)) pk4 ptx pty pfil) (cwV 0 hts gL_law_X6_editPop rfl rfl rfl (by decide +kernel) ⟨Nat.le_of_ble_eq_true rfl, Nat.le_of_ble_eq_true rfl⟩) hE hS1 hA 0 6 hMd1 rfl rfl rfl hMd1 rfl rfl hl.1 (Nat.le_of_ble_eq_true rfl) dL_law_401 ⟨show _ ≤ 600000 by omega, show _ ≤ 7302250 by omega⟩) hS1 hA2 hA2 (fun uw2 H2 locs2 hM2 hz2 hk2 hS2 => ?_)
  obtain ⟨hans, hXM2⟩ := ac_epo (at_ := at_) (nu := nu) hXR hc20
  refine lv_icmp_eq (tgt := 822) hx hb dL_law_404 (by decide) (fun _ => ?_) (fun z => absurd hans z)
  refine W.widen (k := 29 + 4 * (i + 1)) (n := 62785 + 465 * (i + 1)) (by omega) (by omega) ?_
  exact K _ _ H2 locs2 hS2 ⟨lw_k2 hdis hT1 hk2, hM2, hdis, fun q hq => Nat.lt_of_lt_of_le (hlt q hq) (Nat.le_trans hz1 hz2), cc_ + 200, by omega, hXM2⟩
set_option maxHeartbeats 4000000 in
set_option maxRecDepth 100000 in
theorem lw_c9 {p : Program} {e : Env} {s : State} {m : MethodId} {below : List Frame} {meth : Method} {c : Code} (l : Launch) {b L : Nat} {xs : Nat → Int32} {G : xG} (C : lwC p s m c G b L xs) {Q : State → Prop} {i : Nat} (hiL : 4 * i + 4 ≤ L) {t5 n0 nv sn sv hi ha s0 v0 s1 v1 s2 v2 s3 v3 tx tc tr tw tn m0 aN aH aS aT : Nat} {X : Xs} {M : RM} {H : Heap} {locs : List Loc} {ls : Array Slot} (hl : lv_has ls 4 [(0, .ref b), (1, .ref t5), (2, .ref m0), (3, .int (nI (4 * i)))]) (hS : va_S (fun q => s.heap.size ≤ q) s.heap H locs) (hI : lwI G t5 n0 nv sn sv hi ha s0 v0 s1 v1 s2 v2 s3 v3 tx tc tr tw tn m0 aN aH aS aT i X M H) (K : ∀ (X1 : Xs) (M1 : RM) (H1 : Heap) (locs1 : List Loc), va_S (fun q => s.heap.size ≤ q) s.heap H1 locs1 → lwI G t5 n0 nv sn sv hi ha s0 v0 s1 v1 s2 v2 s3 v3 tx tc tr tw tn m0 aN aH aS aT (i + 1) X1 M1 H1 → W p l e room_1 s m #[Value.ref b] below meth c H1 locs1 (29 + 4 * (i + 1)) (62785 + 465 * (i + 1)) Q (F0 m 822 ls [])) : W p l e room_1 s m #[Value.ref b] below meth c H locs (29 + 4 * i) (62785 + 465 * i) Q (F0 m 409 ls []) := by
  obtain ⟨hE, hB0, S, hX, hbl, hL⟩ := id C
  obtain ⟨hx, hb, hml, hown, hts⟩ := id S
  obtain ⟨hT, hMd, hdis, hlt, cc_, hcc, hXM⟩ := id hI
  obtain ⟨N, Hs, Sl, txm, kept, fil, ty, at_, nu⟩ := M
  have hXR : XR X N Hs Sl txm kept fil ty cc_ := hXM
  have hc20 : cc_ < 2 ^ 20 := by omega
  obtain ⟨pN, pev, pev2, prows, pwin, pM, pk4, ptx, pty, pfil⟩ := lw_prm hXR hc20
  have hok := hXR.okX
  have hA : ∀ q, (fun q : Nat => s.heap.size ≤ q) q → xB0 G ≤ q := fun q h => by rw [hB0]; exact h
  have hsz0 : xB0 G ≤ H.size := by rw [hB0]; exact hS.1
  have d17 : xDis (xB0 G) [t5, n0, nv, sn, sv, hi, ha, s0, v0, s1, v1, s2, v2, s3, v3, tx, tc, tr, tw, tn] := xDis_sub hdis [0, 1, 2, 3, 4, 5, 6, 7, 8, 9, 10, 11, 12, 13, 14, 15, 16, 17, 18, 19] (by decide) rfl
  have d5 : xDis (xB0 G) [m0, aN, aH, aS, aT] := xDis_sub hdis [20, 21, 22, 23, 24] (by decide) rfl
  have hLB : ∀ q ∈ [t5, n0, nv, sn, sv, hi, ha, s0, v0, s1, v1, s2, v2, s3, v3, tx, tc, tr, tw, tn], q ∈ [t5, n0, nv, sn, sv, hi, ha, s0, v0, s1, v1, s2, v2, s3, v3, tx, tc, tr, tw, tn, m0, aN, aH, aS, aT] := L_sub [0, 1, 2, 3, 4, 5, 6, 7, 8, 9, 10, 11, 12, 13, 14, 15, 16, 17, 18, 19] rfl
  have hA1 : ∀ q, (q ∈ [t5, n0, nv, sn, sv, hi, ha, s0, v0, s1, v1, s2, v2, s3, v3, tx, tc, tr, tw, tn] ∨ H.size ≤ q) → s.heap.size ≤ q := fun q h => h.elim (fun z => by rw [← hB0]; exact d17.2 q z) (fun z => Nat.le_trans hS.1 z)
  have hA2 : ∀ q, q ∈ [m0, aN, aH, aS, aT] → s.heap.size ≤ q := fun q z => by rw [← hB0]; exact d5.2 q z
  obtain ⟨vf, er, vfs, ers, hcs, r, tfv, tfn, tfl, hPt, -⟩ := id hT
  refine lv_aload_n hx hb dL_law_409 rfl (lv_at hl 1 rfl) ?_
  refine xwr (xrunV (As := []) (rest := []) S (c_X5_editRead l G [t5, n0, nv, sn, sv, hi, ha, s0, v0, s1, v1, s2, v2, s3, v3, tx, tc, tr, tw, tn, m0, aN, aH, aS, aT] t5 n0 nv sn sv hi ha s0 v0 s1 v1 s2 v2 s3 v3 tx tc tr tw tn X H.size d17 hLB hlt hsz0 hok) (cwV 0 hts gL_law_X5_editRead rfl rfl rfl (by decide +kernel) ⟨Nat.le_of_ble_eq_true rfl, Nat.le_of_ble_eq_true rfl⟩) hE hS hA 0 5 hPt rfl rfl rfl ⟨rfl, hT⟩ rfl rfl hl.1 (Nat.le_of_ble_eq_true rfl) dL_law_410 ⟨show _ ≤ 600000 by omega, show _ ≤ 7302250 by omega⟩) hS hA1 hA1 (fun uw1 H1 locs1 hT1 hz1 hk1 hS1 => ?_)
  have hMd1 := lw_k1 hdis hMd hk1
  refine lv_aload_n hx hb dL_law_413 rfl (lv_at hl 2 rfl) ?_
  refine xwr (xrunV (As := []) (rest := [.int (cvERe X).1]) S (c_X6_editRead l G m0 aN aH aS aT N Hs Sl txm kept fil ty at_ nu pN d5 pev pev2 prows pwin (Nat.lt_trans pM (by decide)) pk4 ptx pty pfil pM) (cwV 0 hts gL_law_X6_editRead rfl rfl rfl (by decide +kernel) ⟨Nat.le_of_ble_eq_true rfl, Nat.le_of_ble_eq_true rfl⟩) hE hS1 hA 0 6 hMd1 rfl rfl rfl hMd1 rfl rfl hl.1 (Nat.le_of_ble_eq_true rfl) dL_law_414 ⟨show _ ≤ 600000 by omega, show _ ≤ 7302250 by omega⟩) hS1 hA2 hA2 (fun uw2 H2 locs2 hM2 hz2 hk2 hS2 => ?_)
  obtain ⟨hans, hXM2⟩ := ac_rea (at_ := at_) (nu := nu) hXR hc20
  refine lv_icmp_eq (tgt := 822) hx hb dL_law_417 (by decide) (fun _ => ?_) (fun z => absurd hans z)
  refine W.widen (k := 29 + 4 * (i + 1)) (n := 62785 + 465 * (i + 1)) (by omega) (by omega) ?_
  exact K _ _ H2 locs2 hS2 ⟨lw_k2 hdis hT1 hk2, hM2, hdis, fun q hq => Nat.lt_of_lt_of_le (hlt q hq) (Nat.le_trans hz1 hz2), cc_ + 200, by omega, hXM2⟩
set_option maxHeartbeats 4000000 in
set_option maxRecDepth 100000 in
theorem lw_c10 {p : Program} {e : Env} {s : State} {m : MethodId} {below : List Frame} {meth : Method} {c : Code} (l : Launch) {b L : Nat} {xs : Nat → Int32} {G : xG} (C : lwC p s m c G b L xs) {Q : State → Prop} {i : Nat} (hiL : 4 * i + 4 ≤ L) {t5 n0 nv sn sv hi ha s0 v0 s1 v1 s2 v2 s3 v3 tx tc tr tw tn m0 aN aH aS aT : Nat} {X : Xs} {M : RM} {H : Heap} {locs : List Loc} {ls : Array Slot} (hl : lv_has ls 4 [(0, .ref b), (1, .ref t5), (2, .ref m0), (3, .int (nI (4 * i)))]) (hS : va_S (fun q => s.heap.size ≤ q) s.heap H locs) (hI : lwI G t5 n0 nv sn sv hi ha s0 v0 s1 v1 s2 v2 s3 v3 tx tc tr tw tn m0 aN aH aS aT i X M H) (K : ∀ (X1 : Xs) (M1 : RM) (H1 : Heap) (locs1 : List Loc), va_S (fun q => s.heap.size ≤ q) s.heap H1 locs1 → lwI G t5 n0 nv sn sv hi ha s0 v0 s1 v1 s2 v2 s3 v3 tx tc tr tw tn m0 aN aH aS aT (i + 1) X1 M1 H1 → W p l e room_1 s m #[Value.ref b] below meth c H1 locs1 (29 + 4 * (i + 1)) (62785 + 465 * (i + 1)) Q (F0 m 822 ls [])) : W p l e room_1 s m #[Value.ref b] below meth c H locs (29 + 4 * i) (62785 + 465 * i) Q (F0 m 422 ls []) := by
  obtain ⟨hE, hB0, S, hX, hbl, hL⟩ := id C
  obtain ⟨hx, hb, hml, hown, hts⟩ := id S
  obtain ⟨hT, hMd, hdis, hlt, cc_, hcc, hXM⟩ := id hI
  obtain ⟨N, Hs, Sl, txm, kept, fil, ty, at_, nu⟩ := M
  have hXR : XR X N Hs Sl txm kept fil ty cc_ := hXM
  have hc20 : cc_ < 2 ^ 20 := by omega
  obtain ⟨pN, pev, pev2, prows, pwin, pM, pk4, ptx, pty, pfil⟩ := lw_prm hXR hc20
  have hok := hXR.okX
  have hA : ∀ q, (fun q : Nat => s.heap.size ≤ q) q → xB0 G ≤ q := fun q h => by rw [hB0]; exact h
  have hsz0 : xB0 G ≤ H.size := by rw [hB0]; exact hS.1
  have d17 : xDis (xB0 G) [t5, n0, nv, sn, sv, hi, ha, s0, v0, s1, v1, s2, v2, s3, v3, tx, tc, tr, tw, tn] := xDis_sub hdis [0, 1, 2, 3, 4, 5, 6, 7, 8, 9, 10, 11, 12, 13, 14, 15, 16, 17, 18, 19] (by decide) rfl
  have d5 : xDis (xB0 G) [m0, aN, aH, aS, aT] := xDis_sub hdis [20, 21, 22, 23, 24] (by decide) rfl
  have hLB : ∀ q ∈ [t5, n0, nv, sn, sv, hi, ha, s0, v0, s1, v1, s2, v2, s3, v3, tx, tc, tr, tw, tn], q ∈ [t5, n0, nv, sn, sv, hi, ha, s0, v0, s1, v1, s2, v2, s3, v3, tx, tc, tr, tw, tn, m0, aN, aH, aS, aT] := L_sub [0, 1, 2, 3, 4, 5, 6, 7, 8, 9, 10, 11, 12, 13, 14, 15, 16, 17, 18, 19] rfl
  have hA1 : ∀ q, (q ∈ [t5, n0, nv, sn, sv, hi, ha, s0, v0, s1, v1, s2, v2, s3, v3, tx, tc, tr, tw, tn] ∨ H.size ≤ q) → s.heap.size ≤ q := fun q h => h.elim (fun z => by rw [← hB0]; exact d17.2 q z) (fun z => Nat.le_trans hS.1 z)
  have hA2 : ∀ q, q ∈ [m0, aN, aH, aS, aT] → s.heap.size ≤ q := fun q z => by rw [← hB0]; exact d5.2 q z
  obtain ⟨vf, er, vfs, ers, hcs, r, tfv, tfn, tfl, hPt, -⟩ := id hT
  refine lv_aload_n hx hb dL_law_422 rfl (lv_at hl 1 rfl) ?_
  refine xwr (xrunV (As := []) (rest := []) S (c_X5_finish l G [t5, n0, nv, sn, sv, hi, ha, s0, v0, s1, v1, s2, v2, s3, v3, tx, tc, tr, tw, tn, m0, aN, aH, aS, aT] t5 n0 nv sn sv hi ha s0 v0 s1 v1 s2 v2 s3 v3 tx tc tr tw tn X H.size d17 hLB hlt hsz0 hok) (cwV 0 hts gL_law_X5_finish rfl rfl rfl (by decide +kernel) ⟨Nat.le_of_ble_eq_true rfl, Nat.le_of_ble_eq_true rfl⟩) hE hS hA 0 5 hPt rfl rfl rfl ⟨rfl, hT⟩ rfl rfl hl.1 (Nat.le_of_ble_eq_true rfl) dL_law_423 ⟨show _ ≤ 600000 by omega, show _ ≤ 7302250 by omega⟩) hS hA1 hA1 (fun uw1 H1 locs1 hT1 hz1 hk1 hS1 => ?_)
  have hMd1 := lw_k1 hdis hMd hk1
  refine lv_aload_n hx hb dL_law_426 rfl (lv_at hl 2 rfl) ?_
  refine xwr (xrunV (As := []) (rest := [.int (cvFin X).1]) S (c_X6_finish l G m0 aN aH aS aT N Hs Sl txm kept fil ty at_ nu pN d5 pev pev2 prows pwin (Nat.lt_trans pM (by decide)) pk4 ptx pty pfil) (cwV 0 hts gL_law_X6_finish rfl rfl rfl (by decide +kernel) ⟨Nat.le_of_ble_eq_true rfl, Nat.le_of_ble_eq_true rfl⟩) hE hS1 hA 0 6 hMd1 rfl rfl rfl hMd1 rfl rfl hl.1 (Nat.le_of_ble_eq_true rfl) dL_law_427 ⟨show _ ≤ 600000 by omega, show _ ≤ 7302250 by omega⟩) hS1 hA2 hA2 (fun uw2 H2 locs2 hM2 hz2 hk2 hS2 => ?_)
  obtain ⟨hans, hXM2⟩ := ac_fin (at_ := at_) (nu := nu) hXR
  refine lv_icmp_eq (tgt := 822) hx hb dL_law_430 (by decide) (fun _ => ?_) (fun z => absurd hans z)
  refine W.widen (k := 29 + 4 * (i + 1)) (n := 62785 + 465 * (i + 1)) (by omega) (by omega) ?_
  exact K _ _ H2 locs2 hS2 ⟨lw_k2 hdis hT1 hk2, hM2, hdis, fun q hq => Nat.lt_of_lt_of_le (hlt q hq) (Nat.le_trans hz1 hz2), cc_ + 200, by omega, hXM2⟩
set_option maxHeartbeats 4000000 in
set_option maxRecDepth 100000 in
theorem lw_c11 {p : Program} {e : Env} {s : State} {m : MethodId} {below : List Frame} {meth : Method} {c : Code} (l : Launch) {b L : Nat} {xs : Nat → Int32} {G : xG} (C : lwC p s m c G b L xs) {Q : State → Prop} {i : Nat} (hiL : 4 * i + 4 ≤ L) {t5 n0 nv sn sv hi ha s0 v0 s1 v1 s2 v2 s3 v3 tx tc tr tw tn m0 aN aH aS aT : Nat} {X : Xs} {M : RM} {H : Heap} {locs : List Loc} {ls : Array Slot} (hl : lv_has ls 4 [(0, .ref b), (1, .ref t5), (2, .ref m0), (3, .int (nI (4 * i)))]) (hS : va_S (fun q => s.heap.size ≤ q) s.heap H locs) (hI : lwI G t5 n0 nv sn sv hi ha s0 v0 s1 v1 s2 v2 s3 v3 tx tc tr tw tn m0 aN aH aS aT i X M H) (K : ∀ (X1 : Xs) (M1 : RM) (H1 : Heap) (locs1 : List Loc), va_S (fun q => s.heap.size ≤ q) s.heap H1 locs1 → lwI G t5 n0 nv sn sv hi ha s0 v0 s1 v1 s2 v2 s3 v3 tx tc tr tw tn m0 aN aH aS aT (i + 1) X1 M1 H1 → W p l e room_1 s m #[Value.ref b] below meth c H1 locs1 (29 + 4 * (i + 1)) (62785 + 465 * (i + 1)) Q (F0 m 822 ls [])) : W p l e room_1 s m #[Value.ref b] below meth c H locs (29 + 4 * i) (62785 + 465 * i) Q (F0 m 435 ls []) := by
  obtain ⟨hE, hB0, S, hX, hbl, hL⟩ := id C
  obtain ⟨hx, hb, hml, hown, hts⟩ := id S
  obtain ⟨hT, hMd, hdis, hlt, cc_, hcc, hXM⟩ := id hI
  obtain ⟨N, Hs, Sl, txm, kept, fil, ty, at_, nu⟩ := M
  have hXR : XR X N Hs Sl txm kept fil ty cc_ := hXM
  have hc20 : cc_ < 2 ^ 20 := by omega
  obtain ⟨pN, pev, pev2, prows, pwin, pM, pk4, ptx, pty, pfil⟩ := lw_prm hXR hc20
  have hok := hXR.okX
  have hA : ∀ q, (fun q : Nat => s.heap.size ≤ q) q → xB0 G ≤ q := fun q h => by rw [hB0]; exact h
  have hsz0 : xB0 G ≤ H.size := by rw [hB0]; exact hS.1
  have d17 : xDis (xB0 G) [t5, n0, nv, sn, sv, hi, ha, s0, v0, s1, v1, s2, v2, s3, v3, tx, tc, tr, tw, tn] := xDis_sub hdis [0, 1, 2, 3, 4, 5, 6, 7, 8, 9, 10, 11, 12, 13, 14, 15, 16, 17, 18, 19] (by decide) rfl
  have d5 : xDis (xB0 G) [m0, aN, aH, aS, aT] := xDis_sub hdis [20, 21, 22, 23, 24] (by decide) rfl
  have hLB : ∀ q ∈ [t5, n0, nv, sn, sv, hi, ha, s0, v0, s1, v1, s2, v2, s3, v3, tx, tc, tr, tw, tn], q ∈ [t5, n0, nv, sn, sv, hi, ha, s0, v0, s1, v1, s2, v2, s3, v3, tx, tc, tr, tw, tn, m0, aN, aH, aS, aT] := L_sub [0, 1, 2, 3, 4, 5, 6, 7, 8, 9, 10, 11, 12, 13, 14, 15, 16, 17, 18, 19] rfl
  have hA1 : ∀ q, (q ∈ [t5, n0, nv, sn, sv, hi, ha, s0, v0, s1, v1, s2, v2, s3, v3, tx, tc, tr, tw, tn] ∨ H.size ≤ q) → s.heap.size ≤ q := fun q h => h.elim (fun z => by rw [← hB0]; exact d17.2 q z) (fun z => Nat.le_trans hS.1 z)
  have hA2 : ∀ q, q ∈ [m0, aN, aH, aS, aT] → s.heap.size ≤ q := fun q z => by rw [← hB0]; exact d5.2 q z
  obtain ⟨vf, er, vfs, ers, hcs, r, tfv, tfn, tfl, hPt, -⟩ := id hT
  refine lv_aload_n hx hb dL_law_435 rfl (lv_at hl 1 rfl) ?_
  refine xwr (xrunV (As := []) (rest := []) S (c_X5_abandon l G [t5, n0, nv, sn, sv, hi, ha, s0, v0, s1, v1, s2, v2, s3, v3, tx, tc, tr, tw, tn, m0, aN, aH, aS, aT] t5 n0 nv sn sv hi ha s0 v0 s1 v1 s2 v2 s3 v3 tx tc tr tw tn X H.size d17 hLB hlt hsz0 hok) (cwV 0 hts gL_law_X5_abandon rfl rfl rfl (by decide +kernel) ⟨Nat.le_of_ble_eq_true rfl, Nat.le_of_ble_eq_true rfl⟩) hE hS hA 0 5 hPt rfl rfl rfl ⟨rfl, hT⟩ rfl rfl hl.1 (Nat.le_of_ble_eq_true rfl) dL_law_436 ⟨show _ ≤ 600000 by omega, show _ ≤ 7302250 by omega⟩) hS hA1 hA1 (fun uw1 H1 locs1 hT1 hz1 hk1 hS1 => ?_)
  have hMd1 := lw_k1 hdis hMd hk1
  refine lv_aload_n hx hb dL_law_439 rfl (lv_at hl 2 rfl) ?_
  refine xwr (xrunV (As := []) (rest := [.int (cvAba X).1]) S (c_X6_abandon l G m0 aN aH aS aT N Hs Sl txm kept fil ty at_ nu pN d5 pev pev2 prows pwin (Nat.lt_trans pM (by decide)) pk4 ptx pty pfil) (cwV 0 hts gL_law_X6_abandon rfl rfl rfl (by decide +kernel) ⟨Nat.le_of_ble_eq_true rfl, Nat.le_of_ble_eq_true rfl⟩) hE hS1 hA 0 6 hMd1 rfl rfl rfl hMd1 rfl rfl hl.1 (Nat.le_of_ble_eq_true rfl) dL_law_440 ⟨show _ ≤ 600000 by omega, show _ ≤ 7302250 by omega⟩) hS1 hA2 hA2 (fun uw2 H2 locs2 hM2 hz2 hk2 hS2 => ?_)
  obtain ⟨hans, hXM2⟩ := ac_aba (at_ := at_) (nu := nu) hXR
  refine lv_icmp_eq (tgt := 822) hx hb dL_law_443 (by decide) (fun _ => ?_) (fun z => absurd hans z)
  refine W.widen (k := 29 + 4 * (i + 1)) (n := 62785 + 465 * (i + 1)) (by omega) (by omega) ?_
  exact K _ _ H2 locs2 hS2 ⟨lw_k2 hdis hT1 hk2, hM2, hdis, fun q hq => Nat.lt_of_lt_of_le (hlt q hq) (Nat.le_trans hz1 hz2), cc_ + 200, by omega, hXM2⟩
set_option maxHeartbeats 4000000 in
set_option maxRecDepth 100000 in
theorem lw_c12 {p : Program} {e : Env} {s : State} {m : MethodId} {below : List Frame} {meth : Method} {c : Code} (l : Launch) {b L : Nat} {xs : Nat → Int32} {G : xG} (C : lwC p s m c G b L xs) {Q : State → Prop} {i : Nat} (hiL : 4 * i + 4 ≤ L) {t5 n0 nv sn sv hi ha s0 v0 s1 v1 s2 v2 s3 v3 tx tc tr tw tn m0 aN aH aS aT : Nat} {X : Xs} {M : RM} {H : Heap} {locs : List Loc} {ls : Array Slot} (hl : lv_has ls 4 [(0, .ref b), (1, .ref t5), (2, .ref m0), (3, .int (nI (4 * i)))]) (hS : va_S (fun q => s.heap.size ≤ q) s.heap H locs) (hI : lwI G t5 n0 nv sn sv hi ha s0 v0 s1 v1 s2 v2 s3 v3 tx tc tr tw tn m0 aN aH aS aT i X M H) (K : ∀ (X1 : Xs) (M1 : RM) (H1 : Heap) (locs1 : List Loc), va_S (fun q => s.heap.size ≤ q) s.heap H1 locs1 → lwI G t5 n0 nv sn sv hi ha s0 v0 s1 v1 s2 v2 s3 v3 tx tc tr tw tn m0 aN aH aS aT (i + 1) X1 M1 H1 → W p l e room_1 s m #[Value.ref b] below meth c H1 locs1 (29 + 4 * (i + 1)) (62785 + 465 * (i + 1)) Q (F0 m 822 ls [])) : W p l e room_1 s m #[Value.ref b] below meth c H locs (29 + 4 * i) (62785 + 465 * i) Q (F0 m 448 ls []) := by
  obtain ⟨hE, hB0, S, hX, hbl, hL⟩ := id C
  obtain ⟨hx, hb, hml, hown, hts⟩ := id S
  obtain ⟨hT, hMd, hdis, hlt, cc_, hcc, hXM⟩ := id hI
  obtain ⟨N, Hs, Sl, txm, kept, fil, ty, at_, nu⟩ := M
  have hXR : XR X N Hs Sl txm kept fil ty cc_ := hXM
  have hc20 : cc_ < 2 ^ 20 := by omega
  obtain ⟨pN, pev, pev2, prows, pwin, pM, pk4, ptx, pty, pfil⟩ := lw_prm hXR hc20
  have hok := hXR.okX
  have hA : ∀ q, (fun q : Nat => s.heap.size ≤ q) q → xB0 G ≤ q := fun q h => by rw [hB0]; exact h
  have hsz0 : xB0 G ≤ H.size := by rw [hB0]; exact hS.1
  have d17 : xDis (xB0 G) [t5, n0, nv, sn, sv, hi, ha, s0, v0, s1, v1, s2, v2, s3, v3, tx, tc, tr, tw, tn] := xDis_sub hdis [0, 1, 2, 3, 4, 5, 6, 7, 8, 9, 10, 11, 12, 13, 14, 15, 16, 17, 18, 19] (by decide) rfl
  have d5 : xDis (xB0 G) [m0, aN, aH, aS, aT] := xDis_sub hdis [20, 21, 22, 23, 24] (by decide) rfl
  have hLB : ∀ q ∈ [t5, n0, nv, sn, sv, hi, ha, s0, v0, s1, v1, s2, v2, s3, v3, tx, tc, tr, tw, tn], q ∈ [t5, n0, nv, sn, sv, hi, ha, s0, v0, s1, v1, s2, v2, s3, v3, tx, tc, tr, tw, tn, m0, aN, aH, aS, aT] := L_sub [0, 1, 2, 3, 4, 5, 6, 7, 8, 9, 10, 11, 12, 13, 14, 15, 16, 17, 18, 19] rfl
  have hA1 : ∀ q, (q ∈ [t5, n0, nv, sn, sv, hi, ha, s0, v0, s1, v1, s2, v2, s3, v3, tx, tc, tr, tw, tn] ∨ H.size ≤ q) → s.heap.size ≤ q := fun q h => h.elim (fun z => by rw [← hB0]; exact d17.2 q z) (fun z => Nat.le_trans hS.1 z)
  have hA2 : ∀ q, q ∈ [m0, aN, aH, aS, aT] → s.heap.size ≤ q := fun q z => by rw [← hB0]; exact d5.2 q z
  obtain ⟨vf, er, vfs, ers, hcs, r, tfv, tfn, tfl, hPt, -⟩ := id hT
  have hx16 : ((xs (4 * i + 1)).toBitVec.toNat % 65536) < 65536 := Nat.mod_lt _ (by omega)
  refine lv_aload_n hx hb dL_law_448 rfl (lv_at hl 1 rfl) ?_
  refine lw_arg C hS 1 (by omega) hl rfl rfl dL_law_449 dL_law_450 dL_law_451 (by decide) dL_law_452 dL_law_453 ?_
  refine lv_i2c (v := nI ((xs (4 * i + 1)).toBitVec.toNat % 65536)) hx hb dL_law_454 (pk_char _) ?_
  refine xwr (xrunV (As := [.int (nI ((xs (4 * i + 1)).toBitVec.toNat % 65536))]) (rest := []) S (c_X5_type l G [t5, n0, nv, sn, sv, hi, ha, s0, v0, s1, v1, s2, v2, s3, v3, tx, tc, tr, tw, tn, m0, aN, aH, aS, aT] t5 n0 nv sn sv hi ha s0 v0 s1 v1 s2 v2 s3 v3 tx tc tr tw tn X H.size ((xs (4 * i + 1)).toBitVec.toNat % 65536) d17 hLB hlt hsz0 hok hx16) (cwV 1 hts gL_law_X5_type rfl rfl rfl (by decide +kernel) ⟨Nat.le_of_ble_eq_true rfl, Nat.le_of_ble_eq_true rfl⟩) hE hS hA 0 5 hPt rfl rfl rfl ⟨rfl, hT⟩ rfl rfl hl.1 (Nat.le_of_ble_eq_true rfl) dL_law_455 ⟨show _ ≤ 600000 by omega, show _ ≤ 7302250 by omega⟩) hS hA1 hA1 (fun uw1 H1 locs1 hT1 hz1 hk1 hS1 => ?_)
  have hMd1 := lw_k1 hdis hMd hk1
  refine lv_aload_n hx hb dL_law_458 rfl (lv_at hl 2 rfl) ?_
  refine lw_arg C hS1 1 (by omega) hl rfl rfl dL_law_459 dL_law_460 dL_law_461 (by decide) dL_law_462 dL_law_463 ?_
  refine lv_i2c (v := nI ((xs (4 * i + 1)).toBitVec.toNat % 65536)) hx hb dL_law_464 (pk_char _) ?_
  refine xwr (xrunV (As := [.int (nI ((xs (4 * i + 1)).toBitVec.toNat % 65536))]) (rest := [.int (cvTyp X ((xs (4 * i + 1)).toBitVec.toNat % 65536)).1]) S (c_X6_type l G m0 aN aH aS aT N Hs Sl txm kept fil ty at_ nu ((xs (4 * i + 1)).toBitVec.toNat % 65536) pN d5 pev pev2 prows pwin (Nat.lt_trans pM (by decide)) pk4 ptx pty pfil hx16) (cwV 1 hts gL_law_X6_type rfl rfl rfl (by decide +kernel) ⟨Nat.le_of_ble_eq_true rfl, Nat.le_of_ble_eq_true rfl⟩) hE hS1 hA 0 6 hMd1 rfl rfl rfl hMd1 rfl rfl hl.1 (Nat.le_of_ble_eq_true rfl) dL_law_465 ⟨show _ ≤ 600000 by omega, show _ ≤ 7302250 by omega⟩) hS1 hA2 hA2 (fun uw2 H2 locs2 hM2 hz2 hk2 hS2 => ?_)
  obtain ⟨hans, hXM2⟩ := ac_typ (at_ := at_) (nu := nu) hXR ((xs (4 * i + 1)).toBitVec.toNat % 65536) hx16
  refine lv_icmp_eq (tgt := 822) hx hb dL_law_468 (by decide) (fun _ => ?_) (fun z => absurd hans z)
  refine W.widen (k := 29 + 4 * (i + 1)) (n := 62785 + 465 * (i + 1)) (by omega) (by omega) ?_
  exact K _ _ H2 locs2 hS2 ⟨lw_k2 hdis hT1 hk2, hM2, hdis, fun q hq => Nat.lt_of_lt_of_le (hlt q hq) (Nat.le_trans hz1 hz2), cc_ + 200, by omega, hXM2⟩
set_option maxHeartbeats 4000000 in
set_option maxRecDepth 100000 in
theorem lw_c13 {p : Program} {e : Env} {s : State} {m : MethodId} {below : List Frame} {meth : Method} {c : Code} (l : Launch) {b L : Nat} {xs : Nat → Int32} {G : xG} (C : lwC p s m c G b L xs) {Q : State → Prop} {i : Nat} (hiL : 4 * i + 4 ≤ L) {t5 n0 nv sn sv hi ha s0 v0 s1 v1 s2 v2 s3 v3 tx tc tr tw tn m0 aN aH aS aT : Nat} {X : Xs} {M : RM} {H : Heap} {locs : List Loc} {ls : Array Slot} (hl : lv_has ls 4 [(0, .ref b), (1, .ref t5), (2, .ref m0), (3, .int (nI (4 * i)))]) (hS : va_S (fun q => s.heap.size ≤ q) s.heap H locs) (hI : lwI G t5 n0 nv sn sv hi ha s0 v0 s1 v1 s2 v2 s3 v3 tx tc tr tw tn m0 aN aH aS aT i X M H) (K : ∀ (X1 : Xs) (M1 : RM) (H1 : Heap) (locs1 : List Loc), va_S (fun q => s.heap.size ≤ q) s.heap H1 locs1 → lwI G t5 n0 nv sn sv hi ha s0 v0 s1 v1 s2 v2 s3 v3 tx tc tr tw tn m0 aN aH aS aT (i + 1) X1 M1 H1 → W p l e room_1 s m #[Value.ref b] below meth c H1 locs1 (29 + 4 * (i + 1)) (62785 + 465 * (i + 1)) Q (F0 m 822 ls [])) : W p l e room_1 s m #[Value.ref b] below meth c H locs (29 + 4 * i) (62785 + 465 * i) Q (F0 m 473 ls []) := by
  obtain ⟨hE, hB0, S, hX, hbl, hL⟩ := id C
  obtain ⟨hx, hb, hml, hown, hts⟩ := id S
  obtain ⟨hT, hMd, hdis, hlt, cc_, hcc, hXM⟩ := id hI
  obtain ⟨N, Hs, Sl, txm, kept, fil, ty, at_, nu⟩ := M
  have hXR : XR X N Hs Sl txm kept fil ty cc_ := hXM
  have hc20 : cc_ < 2 ^ 20 := by omega
  obtain ⟨pN, pev, pev2, prows, pwin, pM, pk4, ptx, pty, pfil⟩ := lw_prm hXR hc20
  have hok := hXR.okX
  have hA : ∀ q, (fun q : Nat => s.heap.size ≤ q) q → xB0 G ≤ q := fun q h => by rw [hB0]; exact h
  have hsz0 : xB0 G ≤ H.size := by rw [hB0]; exact hS.1
  have d17 : xDis (xB0 G) [t5, n0, nv, sn, sv, hi, ha, s0, v0, s1, v1, s2, v2, s3, v3, tx, tc, tr, tw, tn] := xDis_sub hdis [0, 1, 2, 3, 4, 5, 6, 7, 8, 9, 10, 11, 12, 13, 14, 15, 16, 17, 18, 19] (by decide) rfl
  have d5 : xDis (xB0 G) [m0, aN, aH, aS, aT] := xDis_sub hdis [20, 21, 22, 23, 24] (by decide) rfl
  have hLB : ∀ q ∈ [t5, n0, nv, sn, sv, hi, ha, s0, v0, s1, v1, s2, v2, s3, v3, tx, tc, tr, tw, tn], q ∈ [t5, n0, nv, sn, sv, hi, ha, s0, v0, s1, v1, s2, v2, s3, v3, tx, tc, tr, tw, tn, m0, aN, aH, aS, aT] := L_sub [0, 1, 2, 3, 4, 5, 6, 7, 8, 9, 10, 11, 12, 13, 14, 15, 16, 17, 18, 19] rfl
  have hA1 : ∀ q, (q ∈ [t5, n0, nv, sn, sv, hi, ha, s0, v0, s1, v1, s2, v2, s3, v3, tx, tc, tr, tw, tn] ∨ H.size ≤ q) → s.heap.size ≤ q := fun q h => h.elim (fun z => by rw [← hB0]; exact d17.2 q z) (fun z => Nat.le_trans hS.1 z)
  have hA2 : ∀ q, q ∈ [m0, aN, aH, aS, aT] → s.heap.size ≤ q := fun q z => by rw [← hB0]; exact d5.2 q z
  obtain ⟨vf, er, vfs, ers, hcs, r, tfv, tfn, tfl, hPt, -⟩ := id hT
  refine lv_aload_n hx hb dL_law_473 rfl (lv_at hl 1 rfl) ?_
  refine xwr (xrunV (As := []) (rest := []) S (c_X5_clearText l G [t5, n0, nv, sn, sv, hi, ha, s0, v0, s1, v1, s2, v2, s3, v3, tx, tc, tr, tw, tn, m0, aN, aH, aS, aT] t5 n0 nv sn sv hi ha s0 v0 s1 v1 s2 v2 s3 v3 tx tc tr tw tn X H.size d17 hLB hlt hsz0 hok) (cwV 0 hts gL_law_X5_clearText rfl rfl rfl (by decide +kernel) ⟨Nat.le_of_ble_eq_true rfl, Nat.le_of_ble_eq_true rfl⟩) hE hS hA 0 5 hPt rfl rfl rfl ⟨rfl, hT⟩ rfl rfl hl.1 (Nat.le_of_ble_eq_true rfl) dL_law_474 ⟨show _ ≤ 600000 by omega, show _ ≤ 7302250 by omega⟩) hS hA1 hA1 (fun uw1 H1 locs1 hT1 hz1 hk1 hS1 => ?_)
  have hMd1 := lw_k1 hdis hMd hk1
  refine lv_aload_n hx hb dL_law_477 rfl (lv_at hl 2 rfl) ?_
  refine xwr (xrunV (As := []) (rest := [.int (cvClr X).1]) S (c_X6_clearText l G m0 aN aH aS aT N Hs Sl txm kept fil ty at_ nu pN d5 pev pev2 prows pwin (Nat.lt_trans pM (by decide)) pk4 ptx pty pfil) (cwV 0 hts gL_law_X6_clearText rfl rfl rfl (by decide +kernel) ⟨Nat.le_of_ble_eq_true rfl, Nat.le_of_ble_eq_true rfl⟩) hE hS1 hA 0 6 hMd1 rfl rfl rfl hMd1 rfl rfl hl.1 (Nat.le_of_ble_eq_true rfl) dL_law_478 ⟨show _ ≤ 600000 by omega, show _ ≤ 7302250 by omega⟩) hS1 hA2 hA2 (fun uw2 H2 locs2 hM2 hz2 hk2 hS2 => ?_)
  obtain ⟨hans, hXM2⟩ := ac_clr (at_ := at_) (nu := nu) hXR
  refine lv_icmp_eq (tgt := 822) hx hb dL_law_481 (by decide) (fun _ => ?_) (fun z => absurd hans z)
  refine W.widen (k := 29 + 4 * (i + 1)) (n := 62785 + 465 * (i + 1)) (by omega) (by omega) ?_
  exact K _ _ H2 locs2 hS2 ⟨lw_k2 hdis hT1 hk2, hM2, hdis, fun q hq => Nat.lt_of_lt_of_le (hlt q hq) (Nat.le_trans hz1 hz2), cc_ + 200, by omega, hXM2⟩
