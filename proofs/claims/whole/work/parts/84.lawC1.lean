/-! ===== the law, case by case: push, set, pop, window, drop, begin, editPush ===== -/
set_option maxHeartbeats 4000000 in
set_option maxRecDepth 100000 in
theorem lw_c0 {p : Program} {e : Env} {s : State} {m : MethodId} {below : List Frame} {meth : Method} {c : Code} (l : Launch) {b L : Nat} {xs : Nat → Int32} {G : xG} (C : lwC p s m c G b L xs) {Q : State → Prop} {i : Nat} (hiL : 4 * i + 4 ≤ L) {t5 n0 nv sn sv hi ha s0 v0 s1 v1 s2 v2 s3 v3 tx tc tr tw tn m0 aN aH aS aT : Nat} {X : Xs} {M : RM} {H : Heap} {locs : List Loc} {ls : Array Slot} (hl : lv_has ls 4 [(0, .ref b), (1, .ref t5), (2, .ref m0), (3, .int (nI (4 * i)))]) (hS : va_S (fun q => s.heap.size ≤ q) s.heap H locs) (hI : lwI G t5 n0 nv sn sv hi ha s0 v0 s1 v1 s2 v2 s3 v3 tx tc tr tw tn m0 aN aH aS aT i X M H) (K : ∀ (X1 : Xs) (M1 : RM) (H1 : Heap) (locs1 : List Loc), va_S (fun q => s.heap.size ≤ q) s.heap H1 locs1 → lwI G t5 n0 nv sn sv hi ha s0 v0 s1 v1 s2 v2 s3 v3 tx tc tr tw tn m0 aN aH aS aT (i + 1) X1 M1 H1 → W p l e room_1 s m #[Value.ref b] below meth c H1 locs1 (29 + 4 * (i + 1)) (62785 + 465 * (i + 1)) Q (F0 m 822 ls [])) : W p l e room_1 s m #[Value.ref b] below meth c H locs (29 + 4 * i) (62785 + 465 * i) Q (F0 m 152 ls []) := by
  obtain ⟨hE, hB0, S, hX, hbl, hL⟩ := id C
  obtain ⟨hx, hb, hml, hown, hts⟩ := id S
  obtain ⟨hT, hMd, hdis, hlt, cc_, hcc, hXM⟩ := id hI
  obtain ⟨N, Hs, Sl, txm, kept, fil, ty, at_, nu⟩ := M
  have hXR : XR X N Hs Sl txm kept fil ty cc_ := hXM
  have hc20 : cc_ < 2 ^ 20 := by omega
  obtain ⟨pN, pev, pev2, prows, pwin, pM, pk4, ptx, pty, pfil⟩ := lw_prm hXR hc20
  have hok := hXR.okX
  have hA : ∀ q, (fun q : Nat => s.heap.size ≤ q) q → xB0 G ≤ q := fun q h => by rw [hB0]; exact h
  have hsz0 : xB0 G ≤ H.size := by rw [hB0]; exact hS.1
  have d17 : xDis (xB0 G) [t5, n0, nv, sn, sv, hi, ha, s0, v0, s1, v1, s2, v2, s3, v3, tx, tc, tr, tw, tn] := xDis_sub hdis [0, 1, 2, 3, 4, 5, 6, 7, 8, 9, 10, 11, 12, 13, 14, 15, 16, 17, 18, 19] (by decide) rfl
  have d5 : xDis (xB0 G) [m0, aN, aH, aS, aT] := xDis_sub hdis [20, 21, 22, 23, 24] (by decide) rfl
  have hLB : ∀ q ∈ [t5, n0, nv, sn, sv, hi, ha, s0, v0, s1, v1, s2, v2, s3, v3, tx, tc, tr, tw, tn], q ∈ [t5, n0, nv, sn, sv, hi, ha, s0, v0, s1, v1, s2, v2, s3, v3, tx, tc, tr, tw, tn, m0, aN, aH, aS, aT] := L_sub [0, 1, 2, 3, 4, 5, 6, 7, 8, 9, 10, 11, 12, 13, 14, 15, 16, 17, 18, 19] rfl
  have hA1 : ∀ q, (q ∈ [t5, n0, nv, sn, sv, hi, ha, s0, v0, s1, v1, s2, v2, s3, v3, tx, tc, tr, tw, tn] ∨ H.size ≤ q) → s.heap.size ≤ q := fun q h => h.elim (fun z => by rw [← hB0]; exact d17.2 q z) (fun z => Nat.le_trans hS.1 z)
  have hA2 : ∀ q, q ∈ [m0, aN, aH, aS, aT] → s.heap.size ≤ q := fun q z => by rw [← hB0]; exact d5.2 q z
  obtain ⟨vf, er, vfs, ers, hcs, r, tfv, tfn, tfl, hPt, -⟩ := id hT
  refine lv_aload_n hx hb dL_law_152 rfl (lv_at hl 1 rfl) ?_
  refine lw_arg C hS 1 (by omega) hl rfl rfl dL_law_153 dL_law_154 dL_law_155 (by decide) dL_law_156 dL_law_157 ?_
  refine lw_arg C hS 2 (by omega) hl rfl rfl dL_law_158 dL_law_159 dL_law_160 (by decide) dL_law_161 dL_law_162 ?_
  refine xwr (xrunV (As := [.int (xs (4 * i + 1)), .int (xs (4 * i + 2))]) (rest := []) S (c_X5_push l G [t5, n0, nv, sn, sv, hi, ha, s0, v0, s1, v1, s2, v2, s3, v3, tx, tc, tr, tw, tn, m0, aN, aH, aS, aT] t5 n0 nv sn sv hi ha s0 v0 s1 v1 s2 v2 s3 v3 tx tc tr tw tn X H.size (xs (4 * i + 1)) (xs (4 * i + 2)) d17 hLB hlt hsz0 hok) (cwV 2 hts gL_law_X5_push rfl rfl rfl (by decide +kernel) ⟨Nat.le_of_ble_eq_true rfl, Nat.le_of_ble_eq_true rfl⟩) hE hS hA 0 5 hPt rfl rfl rfl ⟨rfl, hT⟩ rfl rfl hl.1 (Nat.le_of_ble_eq_true rfl) dL_law_163 ⟨show _ ≤ 600000 by omega, show _ ≤ 7302250 by omega⟩) hS hA1 hA1 (fun uw1 H1 locs1 hT1 hz1 hk1 hS1 => ?_)
  have hMd1 := lw_k1 hdis hMd hk1
  refine lv_aload_n hx hb dL_law_166 rfl (lv_at hl 2 rfl) ?_
  refine lw_arg C hS1 1 (by omega) hl rfl rfl dL_law_167 dL_law_168 dL_law_169 (by decide) dL_law_170 dL_law_171 ?_
  refine lw_arg C hS1 2 (by omega) hl rfl rfl dL_law_172 dL_law_173 dL_law_174 (by decide) dL_law_175 dL_law_176 ?_
  refine xwr (xrunV (As := [.int (xs (4 * i + 1)), .int (xs (4 * i + 2))]) (rest := [.int (cvPush X (xs (4 * i + 1)) (xs (4 * i + 2))).1]) S (c_X6_push l G m0 aN aH aS aT N Hs Sl txm kept fil ty at_ nu (xs (4 * i + 1)) (xs (4 * i + 2)) pN d5 pev pev2 prows pwin (Nat.lt_trans pM (by decide)) pk4 ptx pty) (cwV 2 hts gL_law_X6_push rfl rfl rfl (by decide +kernel) ⟨Nat.le_of_ble_eq_true rfl, Nat.le_of_ble_eq_true rfl⟩) hE hS1 hA 0 6 hMd1 rfl rfl rfl hMd1 rfl rfl hl.1 (Nat.le_of_ble_eq_true rfl) dL_law_177 ⟨show _ ≤ 600000 by omega, show _ ≤ 7302250 by omega⟩) hS1 hA2 hA2 (fun uw2 H2 locs2 hM2 hz2 hk2 hS2 => ?_)
  obtain ⟨hans, hXM2⟩ := ac_push (at_ := at_) (nu := nu) hXR hc20 (xs (4 * i + 1)) (xs (4 * i + 2))
  refine lv_icmp_eq (tgt := 822) hx hb dL_law_180 (by decide) (fun _ => ?_) (fun z => absurd hans z)
  refine W.widen (k := 29 + 4 * (i + 1)) (n := 62785 + 465 * (i + 1)) (by omega) (by omega) ?_
  exact K _ _ H2 locs2 hS2 ⟨lw_k2 hdis hT1 hk2, hM2, hdis, fun q hq => Nat.lt_of_lt_of_le (hlt q hq) (Nat.le_trans hz1 hz2), cc_ + 200, by omega, hXM2⟩
set_option maxHeartbeats 4000000 in
set_option maxRecDepth 100000 in
theorem lw_c1 {p : Program} {e : Env} {s : State} {m : MethodId} {below : List Frame} {meth : Method} {c : Code} (l : Launch) {b L : Nat} {xs : Nat → Int32} {G : xG} (C : lwC p s m c G b L xs) {Q : State → Prop} {i : Nat} (hiL : 4 * i + 4 ≤ L) {t5 n0 nv sn sv hi ha s0 v0 s1 v1 s2 v2 s3 v3 tx tc tr tw tn m0 aN aH aS aT : Nat} {X : Xs} {M : RM} {H : Heap} {locs : List Loc} {ls : Array Slot} (hl : lv_has ls 4 [(0, .ref b), (1, .ref t5), (2, .ref m0), (3, .int (nI (4 * i)))]) (hS : va_S (fun q => s.heap.size ≤ q) s.heap H locs) (hI : lwI G t5 n0 nv sn sv hi ha s0 v0 s1 v1 s2 v2 s3 v3 tx tc tr tw tn m0 aN aH aS aT i X M H) (K : ∀ (X1 : Xs) (M1 : RM) (H1 : Heap) (locs1 : List Loc), va_S (fun q => s.heap.size ≤ q) s.heap H1 locs1 → lwI G t5 n0 nv sn sv hi ha s0 v0 s1 v1 s2 v2 s3 v3 tx tc tr tw tn m0 aN aH aS aT (i + 1) X1 M1 H1 → W p l e room_1 s m #[Value.ref b] below meth c H1 locs1 (29 + 4 * (i + 1)) (62785 + 465 * (i + 1)) Q (F0 m 822 ls [])) : W p l e room_1 s m #[Value.ref b] below meth c H locs (29 + 4 * i) (62785 + 465 * i) Q (F0 m 185 ls []) := by
  obtain ⟨hE, hB0, S, hX, hbl, hL⟩ := id C
  obtain ⟨hx, hb, hml, hown, hts⟩ := id S
  obtain ⟨hT, hMd, hdis, hlt, cc_, hcc, hXM⟩ := id hI
  obtain ⟨N, Hs, Sl, txm, kept, fil, ty, at_, nu⟩ := M
  have hXR : XR X N Hs Sl txm kept fil ty cc_ := hXM
  have hc20 : cc_ < 2 ^ 20 := by omega
  obtain ⟨pN, pev, pev2, prows, pwin, pM, pk4, ptx, pty, pfil⟩ := lw_prm hXR hc20
  have hok := hXR.okX
  have hA : ∀ q, (fun q : Nat => s.heap.size ≤ q) q → xB0 G ≤ q := fun q h => by rw [hB0]; exact h
  have hsz0 : xB0 G ≤ H.size := by rw [hB0]; exact hS.1
  have d17 : xDis (xB0 G) [t5, n0, nv, sn, sv, hi, ha, s0, v0, s1, v1, s2, v2, s3, v3, tx, tc, tr, tw, tn] := xDis_sub hdis [0, 1, 2, 3, 4, 5, 6, 7, 8, 9, 10, 11, 12, 13, 14, 15, 16, 17, 18, 19] (by decide) rfl
  have d5 : xDis (xB0 G) [m0, aN, aH, aS, aT] := xDis_sub hdis [20, 21, 22, 23, 24] (by decide) rfl
  have hLB : ∀ q ∈ [t5, n0, nv, sn, sv, hi, ha, s0, v0, s1, v1, s2, v2, s3, v3, tx, tc, tr, tw, tn], q ∈ [t5, n0, nv, sn, sv, hi, ha, s0, v0, s1, v1, s2, v2, s3, v3, tx, tc, tr, tw, tn, m0, aN, aH, aS, aT] := L_sub [0, 1, 2, 3, 4, 5, 6, 7, 8, 9, 10, 11, 12, 13, 14, 15, 16, 17, 18, 19] rfl
  have hA1 : ∀ q, (q ∈ [t5, n0, nv, sn, sv, hi, ha, s0, v0, s1, v1, s2, v2, s3, v3, tx, tc, tr, tw, tn] ∨ H.size ≤ q) → s.heap.size ≤ q := fun q h => h.elim (fun z => by rw [← hB0]; exact d17.2 q z) (fun z => Nat.le_trans hS.1 z)
  have hA2 : ∀ q, q ∈ [m0, aN, aH, aS, aT] → s.heap.size ≤ q := fun q z => by rw [← hB0]; exact d5.2 q z
  obtain ⟨vf, er, vfs, ers, hcs, r, tfv, tfn, tfl, hPt, -⟩ := id hT
  refine lv_aload_n hx hb dL_law_185 rfl (lv_at hl 1 rfl) ?_
  refine lw_arg C hS 1 (by omega) hl rfl rfl dL_law_186 dL_law_187 dL_law_188 (by decide) dL_law_189 dL_law_190 ?_
  refine lw_arg C hS 2 (by omega) hl rfl rfl dL_law_191 dL_law_192 dL_law_193 (by decide) dL_law_194 dL_law_195 ?_
  refine lw_arg C hS 3 (by omega) hl rfl rfl dL_law_196 dL_law_197 dL_law_198 (by decide) dL_law_199 dL_law_200 ?_
  refine xwr (xrunV (As := [.int (xs (4 * i + 1)), .int (xs (4 * i + 2)), .int (xs (4 * i + 3))]) (rest := []) S (c_X5_set l G [t5, n0, nv, sn, sv, hi, ha, s0, v0, s1, v1, s2, v2, s3, v3, tx, tc, tr, tw, tn, m0, aN, aH, aS, aT] t5 n0 nv sn sv hi ha s0 v0 s1 v1 s2 v2 s3 v3 tx tc tr tw tn X H.size (xs (4 * i + 1)) (xs (4 * i + 2)) (xs (4 * i + 3)) d17 hLB hlt hsz0 hok) (cwV 3 hts gL_law_X5_set rfl rfl rfl (by decide +kernel) ⟨Nat.le_of_ble_eq_true rfl, Nat.le_of_ble_eq_true rfl⟩) hE hS hA 0 5 hPt rfl rfl rfl ⟨rfl, hT⟩ rfl rfl hl.1 (Nat.le_of_ble_eq_true rfl) dL_law_201 ⟨show _ ≤ 600000 by omega, show _ ≤ 7302250 by omega⟩) hS hA1 hA1 (fun uw1 H1 locs1 hT1 hz1 hk1 hS1 => ?_)
  have hMd1 := lw_k1 hdis hMd hk1
  refine lv_aload_n hx hb dL_law_204 rfl (lv_at hl 2 rfl) ?_
  refine lw_arg C hS1 1 (by omega) hl rfl rfl dL_law_205 dL_law_206 dL_law_207 (by decide) dL_law_208 dL_law_209 ?_
  refine lw_arg C hS1 2 (by omega) hl rfl rfl dL_law_210 dL_law_211 dL_law_212 (by decide) dL_law_213 dL_law_214 ?_
  refine lw_arg C hS1 3 (by omega) hl rfl rfl dL_law_215 dL_law_216 dL_law_217 (by decide) dL_law_218 dL_law_219 ?_
  refine xwr (xrunV (As := [.int (xs (4 * i + 1)), .int (xs (4 * i + 2)), .int (xs (4 * i + 3))]) (rest := [.int (cvSet X (xs (4 * i + 1)) (xs (4 * i + 2)) (xs (4 * i + 3))).1]) S (c_X6_set l G m0 aN aH aS aT N Hs Sl txm kept fil ty at_ nu (xs (4 * i + 1)) (xs (4 * i + 2)) (xs (4 * i + 3)) pN d5 pev pev2 prows pwin (Nat.lt_trans pM (by decide)) pk4 ptx pty) (cwV 3 hts gL_law_X6_set rfl rfl rfl (by decide +kernel) ⟨Nat.le_of_ble_eq_true rfl, Nat.le_of_ble_eq_true rfl⟩) hE hS1 hA 0 6 hMd1 rfl rfl rfl hMd1 rfl rfl hl.1 (Nat.le_of_ble_eq_true rfl) dL_law_220 ⟨show _ ≤ 600000 by omega, show _ ≤ 7302250 by omega⟩) hS1 hA2 hA2 (fun uw2 H2 locs2 hM2 hz2 hk2 hS2 => ?_)
  obtain ⟨hans, hXM2⟩ := ac_set (at_ := at_) (nu := nu) hXR hc20 (xs (4 * i + 1)) (xs (4 * i + 2)) (xs (4 * i + 3))
  refine lv_icmp_eq (tgt := 822) hx hb dL_law_223 (by decide) (fun _ => ?_) (fun z => absurd hans z)
  refine W.widen (k := 29 + 4 * (i + 1)) (n := 62785 + 465 * (i + 1)) (by omega) (by omega) ?_
  exact K _ _ H2 locs2 hS2 ⟨lw_k2 hdis hT1 hk2, hM2, hdis, fun q hq => Nat.lt_of_lt_of_le (hlt q hq) (Nat.le_trans hz1 hz2), cc_ + 200, by omega, hXM2⟩
set_option maxHeartbeats 4000000 in
set_option maxRecDepth 100000 in
theorem lw_c2 {p : Program} {e : Env} {s : State} {m : MethodId} {below : List Frame} {meth : Method} {c : Code} (l : Launch) {b L : Nat} {xs : Nat → Int32} {G : xG} (C : lwC p s m c G b L xs) {Q : State → Prop} {i : Nat} (hiL : 4 * i + 4 ≤ L) {t5 n0 nv sn sv hi ha s0 v0 s1 v1 s2 v2 s3 v3 tx tc tr tw tn m0 aN aH aS aT : Nat} {X : Xs} {M : RM} {H : Heap} {locs : List Loc} {ls : Array Slot} (hl : lv_has ls 4 [(0, .ref b), (1, .ref t5), (2, .ref m0), (3, .int (nI (4 * i)))]) (hS : va_S (fun q => s.heap.size ≤ q) s.heap H locs) (hI : lwI G t5 n0 nv sn sv hi ha s0 v0 s1 v1 s2 v2 s3 v3 tx tc tr tw tn m0 aN aH aS aT i X M H) (K : ∀ (X1 : Xs) (M1 : RM) (H1 : Heap) (locs1 : List Loc), va_S (fun q => s.heap.size ≤ q) s.heap H1 locs1 → lwI G t5 n0 nv sn sv hi ha s0 v0 s1 v1 s2 v2 s3 v3 tx tc tr tw tn m0 aN aH aS aT (i + 1) X1 M1 H1 → W p l e room_1 s m #[Value.ref b] below meth c H1 locs1 (29 + 4 * (i + 1)) (62785 + 465 * (i + 1)) Q (F0 m 822 ls [])) : W p l e room_1 s m #[Value.ref b] below meth c H locs (29 + 4 * i) (62785 + 465 * i) Q (F0 m 228 ls []) := by
  obtain ⟨hE, hB0, S, hX, hbl, hL⟩ := id C
  obtain ⟨hx, hb, hml, hown, hts⟩ := id S
  obtain ⟨hT, hMd, hdis, hlt, cc_, hcc, hXM⟩ := id hI
  obtain ⟨N, Hs, Sl, txm, kept, fil, ty, at_, nu⟩ := M
  have hXR : XR X N Hs Sl txm kept fil ty cc_ := hXM
  have hc20 : cc_ < 2 ^ 20 := by omega
  obtain ⟨pN, pev, pev2, prows, pwin, pM, pk4, ptx, pty, pfil⟩ := lw_prm hXR hc20
  have hok := hXR.okX
  have hA : ∀ q, (fun q : Nat => s.heap.size ≤ q) q → xB0 G ≤ q := fun q h => by rw [hB0]; exact h
  have hsz0 : xB0 G ≤ H.size := by rw [hB0]; exact hS.1
  have d17 : xDis (xB0 G) [t5, n0, nv, sn, sv, hi, ha, s0, v0, s1, v1, s2, v2, s3, v3, tx, tc, tr, tw, tn] := xDis_sub hdis [0, 1, 2, 3, 4, 5, 6, 7, 8, 9, 10, 11, 12, 13, 14, 15, 16, 17, 18, 19] (by decide) rfl
  have d5 : xDis (xB0 G) [m0, aN, aH, aS, aT] := xDis_sub hdis [20, 21, 22, 23, 24] (by decide) rfl
  have hLB : ∀ q ∈ [t5, n0, nv, sn, sv, hi, ha, s0, v0, s1, v1, s2, v2, s3, v3, tx, tc, tr, tw, tn], q ∈ [t5, n0, nv, sn, sv, hi, ha, s0, v0, s1, v1, s2, v2, s3, v3, tx, tc, tr, tw, tn, m0, aN, aH, aS, aT] := L_sub [0, 1, 2, 3, 4, 5, 6, 7, 8, 9, 10, 11, 12, 13, 14, 15, 16, 17, 18, 19] rfl
  have hA1 : ∀ q, (q ∈ [t5, n0, nv, sn, sv, hi, ha, s0, v0, s1, v1, s2, v2, s3, v3, tx, tc, tr, tw, tn] ∨ H.size ≤ q) → s.heap.size ≤ q := fun q h => h.elim (fun z => by rw [← hB0]; exact d17.2 q z) (fun z => Nat.le_trans hS.1 z)
  have hA2 : ∀ q, q ∈ [m0, aN, aH, aS, aT] → s.heap.size ≤ q := fun q z => by rw [← hB0]; exact d5.2 q z
  obtain ⟨vf, er, vfs, ers, hcs, r, tfv, tfn, tfl, hPt, -⟩ := id hT
  refine lv_aload_n hx hb dL_law_228 rfl (lv_at hl 1 rfl) ?_
  refine lw_arg C hS 1 (by omega) hl rfl rfl dL_law_229 dL_law_230 dL_law_231 (by decide) dL_law_232 dL_law_233 ?_
  refine xwr (xrunV (As := [.int (xs (4 * i + 1))]) (rest := []) S (c_X5_pop l G [t5, n0, nv, sn, sv, hi, ha, s0, v0, s1, v1, s2, v2, s3, v3, tx, tc, tr, tw, tn, m0, aN, aH, aS, aT] t5 n0 nv sn sv hi ha s0 v0 s1 v1 s2 v2 s3 v3 tx tc tr tw tn X H.size (xs (4 * i + 1)) d17 hLB hlt hsz0 hok) (cwV 1 hts gL_law_X5_pop rfl rfl rfl (by decide +kernel) ⟨Nat.le_of_ble_eq_true rfl, Nat.le_of_ble_eq_true rfl⟩) hE hS hA 0 5 hPt rfl rfl rfl ⟨rfl, hT⟩ rfl rfl hl.1 (Nat.le_of_ble_eq_true rfl) dL_law_234 ⟨show _ ≤ 600000 by omega, show _ ≤ 7302250 by omega⟩) hS hA1 hA1 (fun uw1 H1 locs1 hT1 hz1 hk1 hS1 => ?_)
  have hMd1 := lw_k1 hdis hMd hk1
  refine lv_aload_n hx hb dL_law_237 rfl (lv_at hl 2 rfl) ?_
  refine lw_arg C hS1 1 (by omega) hl rfl rfl dL_law_238 dL_law_239 dL_law_240 (by decide) dL_law_241 dL_law_242 ?_
  refine xwr (xrunV (As := [.int (xs (4 * i + 1))]) (rest := [.int (cvPop X (xs (4 * i + 1))).1]) S (c_X6_pop l G m0 aN aH aS aT N Hs Sl txm kept fil ty at_ nu (xs (4 * i + 1)) pN d5 pev pev2 prows pwin (Nat.lt_trans pM (by decide)) pk4 ptx pty) (cwV 1 hts gL_law_X6_pop rfl rfl rfl (by decide +kernel) ⟨Nat.le_of_ble_eq_true rfl, Nat.le_of_ble_eq_true rfl⟩) hE hS1 hA 0 6 hMd1 rfl rfl rfl hMd1 rfl rfl hl.1 (Nat.le_of_ble_eq_true rfl) dL_law_243 ⟨show _ ≤ 600000 by omega, show _ ≤ 7302250 by omega⟩) hS1 hA2 hA2 (fun uw2 H2 locs2 hM2 hz2 hk2 hS2 => ?_)
  obtain ⟨hans, hXM2⟩ := ac_pop (at_ := at_) (nu := nu) hXR hc20 (xs (4 * i + 1))
  refine lv_icmp_eq (tgt := 822) hx hb dL_law_246 (by decide) (fun _ => ?_) (fun z => absurd hans z)
  refine W.widen (k := 29 + 4 * (i + 1)) (n := 62785 + 465 * (i + 1)) (by omega) (by omega) ?_
  exact K _ _ H2 locs2 hS2 ⟨lw_k2 hdis hT1 hk2, hM2, hdis, fun q hq => Nat.lt_of_lt_of_le (hlt q hq) (Nat.le_trans hz1 hz2), cc_ + 200, by omega, hXM2⟩
set_option maxHeartbeats 4000000 in
set_option maxRecDepth 100000 in
theorem lw_c3 {p : Program} {e : Env} {s : State} {m : MethodId} {below : List Frame} {meth : Method} {c : Code} (l : Launch) {b L : Nat} {xs : Nat → Int32} {G : xG} (C : lwC p s m c G b L xs) {Q : State → Prop} {i : Nat} (hiL : 4 * i + 4 ≤ L) {t5 n0 nv sn sv hi ha s0 v0 s1 v1 s2 v2 s3 v3 tx tc tr tw tn m0 aN aH aS aT : Nat} {X : Xs} {M : RM} {H : Heap} {locs : List Loc} {ls : Array Slot} (hl : lv_has ls 4 [(0, .ref b), (1, .ref t5), (2, .ref m0), (3, .int (nI (4 * i)))]) (hS : va_S (fun q => s.heap.size ≤ q) s.heap H locs) (hI : lwI G t5 n0 nv sn sv hi ha s0 v0 s1 v1 s2 v2 s3 v3 tx tc tr tw tn m0 aN aH aS aT i X M H) (K : ∀ (X1 : Xs) (M1 : RM) (H1 : Heap) (locs1 : List Loc), va_S (fun q => s.heap.size ≤ q) s.heap H1 locs1 → lwI G t5 n0 nv sn sv hi ha s0 v0 s1 v1 s2 v2 s3 v3 tx tc tr tw tn m0 aN aH aS aT (i + 1) X1 M1 H1 → W p l e room_1 s m #[Value.ref b] below meth c H1 locs1 (29 + 4 * (i + 1)) (62785 + 465 * (i + 1)) Q (F0 m 822 ls [])) : W p l e room_1 s m #[Value.ref b] below meth c H locs (29 + 4 * i) (62785 + 465 * i) Q (F0 m 251 ls []) := by
  obtain ⟨hE, hB0, S, hX, hbl, hL⟩ := id C
  obtain ⟨hx, hb, hml, hown, hts⟩ := id S
  obtain ⟨hT, hMd, hdis, hlt, cc_, hcc, hXM⟩ := id hI
  obtain ⟨N, Hs, Sl, txm, kept, fil, ty, at_, nu⟩ := M
  have hXR : XR X N Hs Sl txm kept fil ty cc_ := hXM
  have hc20 : cc_ < 2 ^ 20 := by omega
  obtain ⟨pN, pev, pev2, prows, pwin, pM, pk4, ptx, pty, pfil⟩ := lw_prm hXR hc20
  have hok := hXR.okX
  have hA : ∀ q, (fun q : Nat => s.heap.size ≤ q) q → xB0 G ≤ q := fun q h => by rw [hB0]; exact h
  have hsz0 : xB0 G ≤ H.size := by rw [hB0]; exact hS.1
  have d17 : xDis (xB0 G) [t5, n0, nv, sn, sv, hi, ha, s0, v0, s1, v1, s2, v2, s3, v3, tx, tc, tr, tw, tn] := xDis_sub hdis [0, 1, 2, 3, 4, 5, 6, 7, 8, 9, 10, 11, 12, 13, 14, 15, 16, 17, 18, 19] (by decide) rfl
  have d5 : xDis (xB0 G) [m0, aN, aH, aS, aT] := xDis_sub hdis [20, 21, 22, 23, 24] (by decide) rfl
  have hLB : ∀ q ∈ [t5, n0, nv, sn, sv, hi, ha, s0, v0, s1, v1, s2, v2, s3, v3, tx, tc, tr, tw, tn], q ∈ [t5, n0, nv, sn, sv, hi, ha, s0, v0, s1, v1, s2, v2, s3, v3, tx, tc, tr, tw, tn, m0, aN, aH, aS, aT] := L_sub [0, 1, 2, 3, 4, 5, 6, 7, 8, 9, 10, 11, 12, 13, 14, 15, 16, 17, 18, 19] rfl
  have hA1 : ∀ q, (q ∈ [t5, n0, nv, sn, sv, hi, ha, s0, v0, s1, v1, s2, v2, s3, v3, tx, tc, tr, tw, tn] ∨ H.size ≤ q) → s.heap.size ≤ q := fun q h => h.elim (fun z => by rw [← hB0]; exact d17.2 q z) (fun z => Nat.le_trans hS.1 z)
  have hA2 : ∀ q, q ∈ [m0, aN, aH, aS, aT] → s.heap.size ≤ q := fun q z => by rw [← hB0]; exact d5.2 q z
  obtain ⟨vf, er, vfs, ers, hcs, r, tfv, tfn, tfl, hPt, -⟩ := id hT
  refine lv_aload_n hx hb dL_law_251 rfl (lv_at hl 1 rfl) ?_
  refine lw_arg C hS 1 (by omega) hl rfl rfl dL_law_252 dL_law_253 dL_law_254 (by decide) dL_law_255 dL_law_256 ?_
  refine lw_arg C hS 2 (by omega) hl rfl rfl dL_law_257 dL_law_258 dL_law_259 (by decide) dL_law_260 dL_law_261 ?_
  refine lw_arg C hS 3 (by omega) hl rfl rfl dL_law_262 dL_law_263 dL_law_264 (by decide) dL_law_265 dL_law_266 ?_
  refine xwr (xrunV (As := [.int (xs (4 * i + 1)), .int (xs (4 * i + 2)), .int (xs (4 * i + 3))]) (rest := []) S (c_X5_window l G [t5, n0, nv, sn, sv, hi, ha, s0, v0, s1, v1, s2, v2, s3, v3, tx, tc, tr, tw, tn, m0, aN, aH, aS, aT] t5 n0 nv sn sv hi ha s0 v0 s1 v1 s2 v2 s3 v3 tx tc tr tw tn X H.size (xs (4 * i + 1)) (xs (4 * i + 2)) (xs (4 * i + 3)) d17 hLB hlt hsz0 hok) (cwV 3 hts gL_law_X5_window rfl rfl rfl (by decide +kernel) ⟨Nat.le_of_ble_eq_true rfl, Nat.le_of_ble_eq_true rfl⟩) hE hS hA 0 5 hPt rfl rfl rfl ⟨rfl, hT⟩ rfl rfl hl.1 (Nat.le_of_ble_eq_true rfl) dL_law_267 ⟨show _ ≤ 600000 by omega, show _ ≤ 7302250 by omega⟩) hS hA1 hA1 (fun uw1 H1 locs1 hT1 hz1 hk1 hS1 => ?_)
  have hMd1 := lw_k1 hdis hMd hk1
  refine lv_aload_n hx hb dL_law_270 rfl (lv_at hl 2 rfl) ?_
  refine lw_arg C hS1 1 (by omega) hl rfl rfl dL_law_271 dL_law_272 dL_law_273 (by decide) dL_law_274 dL_law_275 ?_
  refine lw_arg C hS1 2 (by omega) hl rfl rfl dL_law_276 dL_law_277 dL_law_278 (by decide) dL_law_279 dL_law_280 ?_
  refine lw_arg C hS1 3 (by omega) hl rfl rfl dL_law_281 dL_law_282 dL_law_283 (by decide) dL_law_284 dL_law_285 ?_
  refine xwr (xrunV (As := [.int (xs (4 * i + 1)), .int (xs (4 * i + 2)), .int (xs (4 * i + 3))]) (rest := [.int (cvWin X (xs (4 * i + 1)) (xs (4 * i + 2)) (xs (4 * i + 3))).1]) S (c_X6_window l G m0 aN aH aS aT N Hs Sl txm kept fil ty at_ nu (xs (4 * i + 1)) (xs (4 * i + 2)) (xs (4 * i + 3)) pN d5 pev pev2 prows pwin (Nat.lt_trans pM (by decide)) pk4 ptx pty) (cwV 3 hts gL_law_X6_window rfl rfl rfl (by decide +kernel) ⟨Nat.le_of_ble_eq_true rfl, Nat.le_of_ble_eq_true rfl⟩) hE hS1 hA 0 6 hMd1 rfl rfl rfl hMd1 rfl rfl hl.1 (Nat.le_of_ble_eq_true rfl) dL_law_286 ⟨show _ ≤ 600000 by omega, show _ ≤ 7302250 by omega⟩) hS1 hA2 hA2 (fun uw2 H2 locs2 hM2 hz2 hk2 hS2 => ?_)
  obtain ⟨hans, hXM2⟩ := ac_win (at_ := at_) (nu := nu) hXR hc20 (xs (4 * i + 1)) (xs (4 * i + 2)) (xs (4 * i + 3))
  refine lv_icmp_eq (tgt := 822) hx hb dL_law_289 (by decide) (fun _ => ?_) (fun z => absurd hans z)
  refine W.widen (k := 29 + 4 * (i + 1)) (n := 62785 + 465 * (i + 1)) (by omega) (by omega) ?_
  exact K _ _ H2 locs2 hS2 ⟨lw_k2 hdis hT1 hk2, hM2, hdis, fun q hq => Nat.lt_of_lt_of_le (hlt q hq) (Nat.le_trans hz1 hz2), cc_ + 200, by omega, hXM2⟩
set_option maxHeartbeats 4000000 in
set_option maxRecDepth 100000 in
theorem lw_c4 {p : Program} {e : Env} {s : State} {m : MethodId} {below : List Frame} {meth : Method} {c : Code} (l : Launch) {b L : Nat} {xs : Nat → Int32} {G : xG} (C : lwC p s m c G b L xs) {Q : State → Prop} {i : Nat} (hiL : 4 * i + 4 ≤ L) {t5 n0 nv sn sv hi ha s0 v0 s1 v1 s2 v2 s3 v3 tx tc tr tw tn m0 aN aH aS aT : Nat} {X : Xs} {M : RM} {H : Heap} {locs : List Loc} {ls : Array Slot} (hl : lv_has ls 4 [(0, .ref b), (1, .ref t5), (2, .ref m0), (3, .int (nI (4 * i)))]) (hS : va_S (fun q => s.heap.size ≤ q) s.heap H locs) (hI : lwI G t5 n0 nv sn sv hi ha s0 v0 s1 v1 s2 v2 s3 v3 tx tc tr tw tn m0 aN aH aS aT i X M H) (K : ∀ (X1 : Xs) (M1 : RM) (H1 : Heap) (locs1 : List Loc), va_S (fun q => s.heap.size ≤ q) s.heap H1 locs1 → lwI G t5 n0 nv sn sv hi ha s0 v0 s1 v1 s2 v2 s3 v3 tx tc tr tw tn m0 aN aH aS aT (i + 1) X1 M1 H1 → W p l e room_1 s m #[Value.ref b] below meth c H1 locs1 (29 + 4 * (i + 1)) (62785 + 465 * (i + 1)) Q (F0 m 822 ls [])) : W p l e room_1 s m #[Value.ref b] below meth c H locs (29 + 4 * i) (62785 + 465 * i) Q (F0 m 294 ls []) := by
  obtain ⟨hE, hB0, S, hX, hbl, hL⟩ := id C
  obtain ⟨hx, hb, hml, hown, hts⟩ := id S
  obtain ⟨hT, hMd, hdis, hlt, cc_, hcc, hXM⟩ := id hI
  obtain ⟨N, Hs, Sl, txm, kept, fil, ty, at_, nu⟩ := M
  have hXR : XR X N Hs Sl txm kept fil ty cc_ := hXM
  have hc20 : cc_ < 2 ^ 20 := by omega
  obtain ⟨pN, pev, pev2, prows, pwin, pM, pk4, ptx, pty, pfil⟩ := lw_prm hXR hc20
  have hok := hXR.okX
  have hA : ∀ q, (fun q : Nat => s.heap.size ≤ q) q → xB0 G ≤ q := fun q h => by rw [hB0]; exact h
  have hsz0 : xB0 G ≤ H.size := by rw [hB0]; exact hS.1
  have d17 : xDis (xB0 G) [t5, n0, nv, sn, sv, hi, ha, s0, v0, s1, v1, s2, v2, s3, v3, tx, tc, tr, tw, tn] := xDis_sub hdis [0, 1, 2, 3, 4, 5, 6, 7, 8, 9, 10, 11, 12, 13, 14, 15, 16, 17, 18, 19] (by decide) rfl
  have d5 : xDis (xB0 G) [m0, aN, aH, aS, aT] := xDis_sub hdis [20, 21, 22, 23, 24] (by decide) rfl
  have hLB : ∀ q ∈ [t5, n0, nv, sn, sv, hi, ha, s0, v0, s1, v1, s2, v2, s3, v3, tx, tc, tr, tw, tn], q ∈ [t5, n0, nv, sn, sv, hi, ha, s0, v0, s1, v1, s2, v2, s3, v3, tx, tc, tr, tw, tn, m0, aN, aH, aS, aT] := L_sub [0, 1, 2, 3, 4, 5, 6, 7, 8, 9, 10, 11, 12, 13, 14, 15, 16, 17, 18, 19] rfl
  have hA1 : ∀ q, (q ∈ [t5, n0, nv, sn, sv, hi, ha, s0, v0, s1, v1, s2, v2, s3, v3, tx, tc, tr, tw, tn] ∨ H.size ≤ q) → s.heap.size ≤ q := fun q h => h.elim (fun z => by rw [← hB0]; exact d17.2 q z) (fun z => Nat.le_trans hS.1 z)
  have hA2 : ∀ q, q ∈ [m0, aN, aH, aS, aT] → s.heap.size ≤ q := fun q z => by rw [← hB0]; exact d5.2 q z
  obtain ⟨vf, er, vfs, ers, hcs, r, tfv, tfn, tfl, hPt, -⟩ := id hT
  refine lv_aload_n hx hb dL_law_294 rfl (lv_at hl 1 rfl) ?_
  refine lw_arg C hS 1 (by omega) hl rfl rfl dL_law_295 dL_law_296 dL_law_297 (by decide) dL_law_298 dL_law_299 ?_
  refine xwr (xrunV (As := [.int (xs (4 * i + 1))]) (rest := []) S (c_X5_drop l G [t5, n0, nv, sn, sv, hi, ha, s0, v0, s1, v1, s2, v2, s3, v3, tx, tc, tr, tw, tn, m0, aN, aH, aS, aT] t5 n0 nv sn sv hi ha s0 v0 s1 v1 s2 v2 s3 v3 tx tc tr tw tn X H.size (xs (4 * i + 1)) d17 hLB hlt hsz0 hok) (cwV 1 hts gL_law_X5_drop rfl rfl rfl (by decide +kernel) ⟨Nat.le_of_ble_eq_true rfl, Nat.le_of_ble_eq_true rfl⟩) hE hS hA 0 5 hPt rfl rfl rfl ⟨rfl, hT⟩ rfl rfl hl.1 (Nat.le_of_ble_eq_true rfl) dL_law_300 ⟨show _ ≤ 600000 by omega, show _ ≤ 7302250 by omega⟩) hS hA1 hA1 (fun uw1 H1 locs1 hT1 hz1 hk1 hS1 => ?_)
  have hMd1 := lw_k1 hdis hMd hk1
  refine lv_aload_n hx hb dL_law_303 rfl (lv_at hl 2 rfl) ?_
  refine lw_arg C hS1 1 (by omega) hl rfl rfl dL_law_304 dL_law_305 dL_law_306 (by decide) dL_law_307 dL_law_308 ?_
  refine xwr (xrunV (As := [.int (xs (4 * i + 1))]) (rest := [.int (cvDro X (xs (4 * i + 1))).1]) S (c_X6_drop l G m0 aN aH aS aT N Hs Sl txm kept fil ty at_ nu (xs (4 * i + 1)) pN d5 pev pev2 prows pwin (Nat.lt_trans pM (by decide)) pk4 ptx pty) (cwV 1 hts gL_law_X6_drop rfl rfl rfl (by decide +kernel) ⟨Nat.le_of_ble_eq_true rfl, Nat.le_of_ble_eq_true rfl⟩) hE hS1 hA 0 6 hMd1 rfl rfl rfl hMd1 rfl rfl hl.1 (Nat.le_of_ble_eq_true rfl) dL_law_309 ⟨show _ ≤ 600000 by omega, show _ ≤ 7302250 by omega⟩) hS1 hA2 hA2 (fun uw2 H2 locs2 hM2 hz2 hk2 hS2 => ?_)
  obtain ⟨hans, hXM2⟩ := ac_drop (at_ := at_) (nu := nu) hXR (xs (4 * i + 1))
  refine lv_icmp_eq (tgt := 822) hx hb dL_law_312 (by decide) (fun _ => ?_) (fun z => absurd hans z)
  refine W.widen (k := 29 + 4 * (i + 1)) (n := 62785 + 465 * (i + 1)) (by omega) (by omega) ?_
  exact K _ _ H2 locs2 hS2 ⟨lw_k2 hdis hT1 hk2, hM2, hdis, fun q hq => Nat.lt_of_lt_of_le (hlt q hq) (Nat.le_trans hz1 hz2), cc_ + 200, by omega, hXM2⟩
set_option maxHeartbeats 4000000 in
set_option maxRecDepth 100000 in
theorem lw_c5 {p : Program} {e : Env} {s : State} {m : MethodId} {below : List Frame} {meth : Method} {c : Code} (l : Launch) {b L : Nat} {xs : Nat → Int32} {G : xG} (C : lwC p s m c G b L xs) {Q : State → Prop} {i : Nat} (hiL : 4 * i + 4 ≤ L) {t5 n0 nv sn sv hi ha s0 v0 s1 v1 s2 v2 s3 v3 tx tc tr tw tn m0 aN aH aS aT : Nat} {X : Xs} {M : RM} {H : Heap} {locs : List Loc} {ls : Array Slot} (hl : lv_has ls 4 [(0, .ref b), (1, .ref t5), (2, .ref m0), (3, .int (nI (4 * i)))]) (hS : va_S (fun q => s.heap.size ≤ q) s.heap H locs) (hI : lwI G t5 n0 nv sn sv hi ha s0 v0 s1 v1 s2 v2 s3 v3 tx tc tr tw tn m0 aN aH aS aT i X M H) (K : ∀ (X1 : Xs) (M1 : RM) (H1 : Heap) (locs1 : List Loc), va_S (fun q => s.heap.size ≤ q) s.heap H1 locs1 → lwI G t5 n0 nv sn sv hi ha s0 v0 s1 v1 s2 v2 s3 v3 tx tc tr tw tn m0 aN aH aS aT (i + 1) X1 M1 H1 → W p l e room_1 s m #[Value.ref b] below meth c H1 locs1 (29 + 4 * (i + 1)) (62785 + 465 * (i + 1)) Q (F0 m 822 ls [])) : W p l e room_1 s m #[Value.ref b] below meth c H locs (29 + 4 * i) (62785 + 465 * i) Q (F0 m 317 ls []) := by
  obtain ⟨hE, hB0, S, hX, hbl, hL⟩ := id C
  obtain ⟨hx, hb, hml, hown, hts⟩ := id S
  obtain ⟨hT, hMd, hdis, hlt, cc_, hcc, hXM⟩ := id hI
  obtain ⟨N, Hs, Sl, txm, kept, fil, ty, at_, nu⟩ := M
  have hXR : XR X N Hs Sl txm kept fil ty cc_ := hXM
  have hc20 : cc_ < 2 ^ 20 := by omega
  obtain ⟨pN, pev, pev2, prows, pwin, pM, pk4, ptx, pty, pfil⟩ := lw_prm hXR hc20
  have hok := hXR.okX
  have hA : ∀ q, (fun q : Nat => s.heap.size ≤ q) q → xB0 G ≤ q := fun q h => by rw [hB0]; exact h
  have hsz0 : xB0 G ≤ H.size := by rw [hB0]; exact hS.1
  have d17 : xDis (xB0 G) [t5, n0, nv, sn, sv, hi, ha, s0, v0, s1, v1, s2, v2, s3, v3, tx, tc, tr, tw, tn] := xDis_sub hdis [0, 1, 2, 3, 4, 5, 6, 7, 8, 9, 10, 11, 12, 13, 14, 15, 16, 17, 18, 19] (by decide) rfl
  have d5 : xDis (xB0 G) [m0, aN, aH, aS, aT] := xDis_sub hdis [20, 21, 22, 23, 24] (by decide) rfl
  have hLB : ∀ q ∈ [t5, n0, nv, sn, sv, hi, ha, s0, v0, s1, v1, s2, v2, s3, v3, tx, tc, tr, tw, tn], q ∈ [t5, n0, nv, sn, sv, hi, ha, s0, v0, s1, v1, s2, v2, s3, v3, tx, tc, tr, tw, tn, m0, aN, aH, aS, aT] := L_sub [0, 1, 2, 3, 4, 5, 6, 7, 8, 9, 10, 11, 12, 13, 14, 15, 16, 17, 18, 19] rfl
  have hA1 : ∀ q, (q ∈ [t5, n0, nv, sn, sv, hi, ha, s0, v0, s1, v1, s2, v2, s3, v3, tx, tc, tr, tw, tn] ∨ H.size ≤ q) → s.heap.size ≤ q := fun q h => h.elim (fun z => by rw [← hB0]; exact d17.2 q z) (fun z => Nat.le_trans hS.1 z)
  have hA2 : ∀ q, q ∈ [m0, aN, aH, aS, aT] → s.heap.size ≤ q := fun q z => by rw [← hB0]; exact d5.2 q z
  obtain ⟨vf, er, vfs, ers, hcs, r, tfv, tfn, tfl, hPt, -⟩ := id hT
  refine lv_aload_n hx hb dL_law_317 rfl (lv_at hl 1 rfl) ?_
  refine lw_arg C hS 1 (by omega) hl rfl rfl dL_law_318 dL_law_319 dL_law_320 (by decide) dL_law_321 dL_law_322 ?_
  refine xwr (xrunV (As := [.int (xs (4 * i + 1))]) (rest := []) S (c_X5_begin l G [t5, n0, nv, sn, sv, hi, ha, s0, v0, s1, v1, s2, v2, s3, v3, tx, tc, tr, tw, tn, m0, aN, aH, aS, aT] t5 n0 nv sn sv hi ha s0 v0 s1 v1 s2 v2 s3 v3 tx tc tr tw tn X H.size (xs (4 * i + 1)) d17 hLB hlt hsz0 hok) (cwV 1 hts gL_law_X5_begin rfl rfl rfl (by decide +kernel) ⟨Nat.le_of_ble_eq_true rfl, Nat.le_of_ble_eq_true rfl⟩) hE hS hA 0 5 hPt rfl rfl rfl ⟨rfl, hT⟩ rfl rfl hl.1 (Nat.le_of_ble_eq_true rfl) dL_law_323 ⟨show _ ≤ 600000 by omega, show _ ≤ 7302250 by omega⟩) hS hA1 hA1 (fun uw1 H1 locs1 hT1 hz1 hk1 hS1 => ?_)
  have hMd1 := lw_k1 hdis hMd hk1
  refine lv_aload_n hx hb dL_law_326 rfl (lv_at hl 2 rfl) ?_
  refine lw_arg C hS1 1 (by omega) hl rfl rfl dL_law_327 dL_law_328 dL_law_329 (by decide) dL_law_330 dL_law_331 ?_
  refine xwr (xrunV (As := [.int (xs (4 * i + 1))]) (rest := [.int (cvBeg X (xs (4 * i + 1))).1]) S (c_X6_begin l G m0 aN aH aS aT N Hs Sl txm kept fil ty at_ nu (xs (4 * i + 1)) pN d5 pev pev2 prows pwin (Nat.lt_trans pM (by decide)) pk4 ptx pty pfil) (cwV 1 hts gL_law_X6_begin rfl rfl rfl (by decide +kernel) ⟨Nat.le_of_ble_eq_true rfl, Nat.le_of_ble_eq_true rfl⟩) hE hS1 hA 0 6 hMd1 rfl rfl rfl hMd1 rfl rfl hl.1 (Nat.le_of_ble_eq_true rfl) dL_law_332 ⟨show _ ≤ 600000 by omega, show _ ≤ 7302250 by omega⟩) hS1 hA2 hA2 (fun uw2 H2 locs2 hM2 hz2 hk2 hS2 => ?_)
  obtain ⟨hans, hXM2⟩ := ac_beg (at_ := at_) (nu := nu) hXR hc20 (xs (4 * i + 1))
  refine lv_icmp_eq (tgt := 822) hx hb dL_law_335 (by decide) (fun _ => ?_) (fun z => absurd hans z)
  refine W.widen (k := 29 + 4 * (i + 1)) (n := 62785 + 465 * (i + 1)) (by omega) (by omega) ?_
  exact K _ _ H2 locs2 hS2 ⟨lw_k2 hdis hT1 hk2, hM2, hdis, fun q hq => Nat.lt_of_lt_of_le (hlt q hq) (Nat.le_trans hz1 hz2), cc_ + 200, by omega, hXM2⟩
set_option maxHeartbeats 4000000 in
set_option maxRecDepth 100000 in
theorem lw_c6 {p : Program} {e : Env} {s : State} {m : MethodId} {below : List Frame} {meth : Method} {c : Code} (l : Launch) {b L : Nat} {xs : Nat → Int32} {G : xG} (C : lwC p s m c G b L xs) {Q : State → Prop} {i : Nat} (hiL : 4 * i + 4 ≤ L) {t5 n0 nv sn sv hi ha s0 v0 s1 v1 s2 v2 s3 v3 tx tc tr tw tn m0 aN aH aS aT : Nat} {X : Xs} {M : RM} {H : Heap} {locs : List Loc} {ls : Array Slot} (hl : lv_has ls 4 [(0, .ref b), (1, .ref t5), (2, .ref m0), (3, .int (nI (4 * i)))]) (hS : va_S (fun q => s.heap.size ≤ q) s.heap H locs) (hI : lwI G t5 n0 nv sn sv hi ha s0 v0 s1 v1 s2 v2 s3 v3 tx tc tr tw tn m0 aN aH aS aT i X M H) (K : ∀ (X1 : Xs) (M1 : RM) (H1 : Heap) (locs1 : List Loc), va_S (fun q => s.heap.size ≤ q) s.heap H1 locs1 → lwI G t5 n0 nv sn sv hi ha s0 v0 s1 v1 s2 v2 s3 v3 tx tc tr tw tn m0 aN aH aS aT (i + 1) X1 M1 H1 → W p l e room_1 s m #[Value.ref b] below meth c H1 locs1 (29 + 4 * (i + 1)) (62785 + 465 * (i + 1)) Q (F0 m 822 ls [])) : W p l e room_1 s m #[Value.ref b] below meth c H locs (29 + 4 * i) (62785 + 465 * i) Q (F0 m 340 ls []) := by
  obtain ⟨hE, hB0, S, hX, hbl, hL⟩ := id C
  obtain ⟨hx, hb, hml, hown, hts⟩ := id S
  obtain ⟨hT, hMd, hdis, hlt, cc_, hcc, hXM⟩ := id hI
  obtain ⟨N, Hs, Sl, txm, kept, fil, ty, at_, nu⟩ := M
  have hXR : XR X N Hs Sl txm kept fil ty cc_ := hXM
  have hc20 : cc_ < 2 ^ 20 := by omega
  obtain ⟨pN, pev, pev2, prows, pwin, pM, pk4, ptx, pty, pfil⟩ := lw_prm hXR hc20
  have hok := hXR.okX
  have hA : ∀ q, (fun q : Nat => s.heap.size ≤ q) q → xB0 G ≤ q := fun q h => by rw [hB0]; exact h
  have hsz0 : xB0 G ≤ H.size := by rw [hB0]; exact hS.1
  have d17 : xDis (xB0 G) [t5, n0, nv, sn, sv, hi, ha, s0, v0, s1, v1, s2, v2, s3, v3, tx, tc, tr, tw, tn] := xDis_sub hdis [0, 1, 2, 3, 4, 5, 6, 7, 8, 9, 10, 11, 12, 13, 14, 15, 16, 17, 18, 19] (by decide) rfl
  have d5 : xDis (xB0 G) [m0, aN, aH, aS, aT] := xDis_sub hdis [20, 21, 22, 23, 24] (by decide) rfl
  have hLB : ∀ q ∈ [t5, n0, nv, sn, sv, hi, ha, s0, v0, s1, v1, s2, v2, s3, v3, tx, tc, tr, tw, tn], q ∈ [t5, n0, nv, sn, sv, hi, ha, s0, v0, s1, v1, s2, v2, s3, v3, tx, tc, tr, tw, tn, m0, aN, aH, aS, aT] := L_sub [0, 1, 2, 3, 4, 5, 6, 7, 8, 9, 10, 11, 12, 13, 14, 15, 16, 17, 18, 19] rfl
  have hA1 : ∀ q, (q ∈ [t5, n0, nv, sn, sv, hi, ha, s0, v0, s1, v1, s2, v2, s3, v3, tx, tc, tr, tw, tn] ∨ H.size ≤ q) → s.heap.size ≤ q := fun q h => h.elim (fun z => by rw [← hB0]; exact d17.2 q z) (fun z => Nat.le_trans hS.1 z)
  have hA2 : ∀ q, q ∈ [m0, aN, aH, aS, aT] → s.heap.size ≤ q := fun q z => by rw [← hB0]; exact d5.2 q z
  obtain ⟨vf, er, vfs, ers, hcs, r, tfv, tfn, tfl, hPt, -⟩ := id hT
  refine lv_aload_n hx hb dL_law_340 rfl (lv_at hl 1 rfl) ?_
  refine lw_arg C hS 1 (by omega) hl rfl rfl dL_law_341 dL_law_342 dL_law_343 (by decide) dL_law_344 dL_law_345 ?_
  refine xwr (xrunV (As := [.int (xs (4 * i + 1))]) (rest := []) S (c_X5_editPush l G [t5, n0, nv, sn, sv, hi, ha, s0, v0, s1, v1, s2, v2, s3, v3, tx, tc, tr, tw, tn, m0, aN, aH, aS, aT] t5 n0 nv sn sv hi ha s0 v0 s1 v1 s2 v2 s3 v3 tx tc tr tw tn X H.size (xs (4 * i + 1)) d17 hLB hlt hsz0 hok) (cwV 1 hts gL_law_X5_editPush rfl rfl rfl (by decide +kernel) ⟨Nat.le_of_ble_eq_true rfl, Nat.le_of_ble_eq_true rfl⟩) hE hS hA 0 5 hPt rfl rfl rfl ⟨rfl, hT⟩ rfl rfl hl.1 (Nat.le_of_ble_eq_true rfl) dL_law_346 ⟨show _ ≤ 600000 by omega, show _ ≤ 7302250 by omega⟩) hS hA1 hA1 (fun uw1 H1 locs1 hT1 hz1 hk1 hS1 => ?_)
  have hMd1 := lw_k1 hdis hMd hk1
  refine lv_aload_n hx hb dL_law_349 rfl (lv_at hl 2 rfl) ?_
  refine lw_arg C hS1 1 (by omega) hl rfl rfl dL_law_350 dL_law_351 dL_law_352 (by decide) dL_law_353 dL_law_354 ?_
  refine xwr (xrunV (As := [.int (xs (4 * i + 1))]) (rest := [.int (cvEPu X (xs (4 * i + 1))).1]) S (c_X6_editPush l G m0 aN aH aS aT N Hs Sl txm kept fil ty at_ nu (xs (4 * i + 1)) pN d5 pev pev2 prows pwin (Nat.lt_trans pM (by decide)) pk4 ptx pty pfil) (cwV 1 hts gL_law_X6_editPush rfl rfl rfl (by decide +kernel) ⟨Nat.le_of_ble_eq_true rfl, Nat.le_of_ble_eq_true rfl⟩) hE hS1 hA 0 6 hMd1 rfl rfl rfl hMd1 rfl rfl hl.1 (Nat.le_of_ble_eq_true rfl) dL_law_355 ⟨show _ ≤ 600000 by omega, show _ ≤ 7302250 by omega⟩) hS1 hA2 hA2 (fun uw2 H2 locs2 hM2 hz2 hk2 hS2 => ?_)
  obtain ⟨hans, hXM2⟩ := ac_epu (at_ := at_) (nu := nu) hXR hc20 (xs (4 * i + 1))
  refine lv_icmp_eq (tgt := 822) hx hb dL_law_358 (by decide) (fun _ => ?_) (fun z => absurd hans z)
  refine W.widen (k := 29 + 4 * (i + 1)) (n := 62785 + 465 * (i + 1)) (by omega) (by omega) ?_
  exact K _ _ H2 locs2 hS2 ⟨lw_k2 hdis hT1 hk2, hM2, hdis, fun q hq => Nat.lt_of_lt_of_le (hlt q hq) (Nat.le_trans hz1 hz2), cc_ + 200, by omega, hXM2⟩
