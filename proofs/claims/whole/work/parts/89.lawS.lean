/-! ===== the start: both objects are made ===== -/
theorem rN0_71 : rN0 10171 = 1 := updN_s
theorem rN0_75 : rN0 10075 = 1 := by unfold rN0; rw [updN_n (by omega), updN_s]
theorem rN0_z {j : Nat} (h1 : j ≠ 10171) (h2 : j ≠ 10075) : rN0 j = 0 := by unfold rN0; rw [updN_n h1, updN_n h2]
theorem rBl_00 (k : Nat) : rBl (rLv 0) k = 0 := rfl
theorem XR_0 : XR cvX0 rN0 (fun _ => 0) (fun _ => 0) (fun _ => 0) 0 0 0 0 := by
  have hlt : ∀ j, rN0 j < 2 ^ 24 := fun j => by
    by_cases h1 : j = 10171
    · rw [h1, rN0_71]; omega
    · by_cases h2 : j = 10075
      · rw [h2, rN0_75]; omega
      · rw [rN0_z h1 h2]; omega
  have e0 : rN0 0 = 0 := rN0_z (by omega) (by omega)
  have e72 : rN0 10172 = 0 := rN0_z (by omega) (by omega)
  have hrl : rLen rN0 0 = 0 := by
    unfold rLen
    rw [rN0_z (by omega) (by omega), if_neg (by omega)]
    exact e0
  have hrow : rowR rN0 0 cvR0 (fun _ => 0) := by
    refine ⟨e0, Nat.zero_le _, show capN 0 ≤ 300 from capN_le _, fun j hj => absurd hj (Nat.not_lt_zero _), fun k p hk hp => Or.inr ⟨?_, ?_⟩⟩
    · intro z
      have z2 : p < rBl (rLv 0) k := z
      rw [rBl_00] at z2
      omega
    · exact if_pos (sl_lt hk hp)
  refine ⟨⟨rN0_71.symm, e72.symm, fun _ => 0, fun v hv => ?_, Or.inl ⟨rN0_z (by omega) (by omega), rfl⟩⟩, ⟨hlt, ?_, ?_, fun v hv => ?_, fun v hv => ?_, ?_⟩, rfl, by omega, fun z => absurd z (by omega), rfl, by omega, fun j hj => absurd hj (Nat.not_lt_zero _), rfl, rfl, by omega, fun _ => show 0 < 65536 by omega, fun _ => show 0 < 2 ^ 24 by omega, fun _ => show 0 < 2 ^ 24 by omega⟩
  · by_cases h0 : v = 0
    · subst h0
      refine Or.inl ⟨by rw [rN0_71]; omega, rN0_75, (cvR0, 0, 0, 0), rfl, hrow, ?_, by show 0 < 2; omega, ?_, ?_, Nat.le_refl _, fun _ => rfl⟩
      · exact (rN0_z (by omega) (by omega)).symm
      · exact (rN0_z (by omega) (by omega)).symm
      · exact hrl.symm
    · refine Or.inr ⟨Or.inl (by rw [rN0_71]; omega), ?_⟩
      show va_up (fun _ => none) 0 (some (cvR0, 0, 0, 0)) v = none
      rw [va_up_ne _ _ h0]
  · rw [rN0_71]; exact Nat.le_refl _
  · rw [rN0_71]; omega
  · rw [rN0_z (by omega) (by omega)]; omega
  · rw [rN0_71] at hv
    obtain rfl : v = 0 := by omega
    rw [hrl, rN0_z (by omega) (by omega)]
    exact Nat.zero_le _
  · rw [e72]; exact Nat.le_refl _
theorem lwl_cl5 : Cond.classLink RL 7 RX5 ∈ wsL_law := by decide +kernel
theorem lwl_in5 : Cond.instantiable RX5 6 ∈ wsL_law := by decide +kernel
theorem lwl_it5 : Cond.initialized RX5 ∈ wsL_law := by decide +kernel
theorem lwl_cl6 : Cond.classLink RL 10 RX6 ∈ wsL_law := by decide +kernel
theorem lwl_in6 : Cond.instantiable RX6 9 ∈ wsL_law := by decide +kernel
theorem lwl_it6 : Cond.initialized RX6 ∈ wsL_law := by decide +kernel
theorem lwl_m5 : Cond.methodLink RL 9 yX5_init ∈ wsL_law := by decide +kernel
theorem lwl_v5 : Cond.instanceMethod yX5_init ∈ wsL_law := by decide +kernel
set_option maxRecDepth 20000 in
theorem lwl_m6 : Cond.methodLink RL 12 yX6_init ∈ wsL_law := by decide +kernel
set_option maxRecDepth 20000 in
theorem lwl_v6 : Cond.instanceMethod yX6_init ∈ wsL_law := by decide +kernel
theorem xDis_app {B : Nat} {L1 L2 : List Nat} (h1 : xDis B L1) (h2 : xDis B L2) (h : ∀ a ∈ L1, ∀ b ∈ L2, a ≠ b) : xDis B (L1 ++ L2) :=
  ⟨List.pairwise_append.mpr ⟨h1.1, h2.1, h⟩, fun q hq => (List.mem_append.mp hq).elim (h1.2 q) (h2.2 q)⟩
set_option maxHeartbeats 4000000 in
set_option maxRecDepth 100000 in
/-- from the entry, for every script of at most 2048 ints, the law comes to its end with true -/
theorem whole_start {p : Program} {e : Env} {s : State} {m : MethodId} {below : List Frame} {meth : Method} {c : Code} (l : Launch) (hflags : l.flags = flags0) {b L : Nat} {xs : Nat → Int32} (hL : L ≤ 2048) (C0 : lw_At p s m meth c b L xs) : W p l e room_1 s m #[Value.ref b] below meth c s.heap [] 0 0 (lw_Z below #[Value.ref b] s) (entryFrame m ([Value.ref b] : List Value).toArray 4) := by
  obtain ⟨hx, hb, hr, hml, hown, htsT, hX, hbl, hlocks, hgv⟩ := id C0
  obtain ⟨G, hE, hB0⟩ := law_E C0
  have hts : ∀ w ∈ wsL_law, w.before #[Value.ref b] s = true := fun w hw => htsT w (wsL_law_in w hw)
  have hown : s.vm.findClass RL = some m.cls := hown
  have S : CallFix p m c cL_law 4 s #[Value.ref b] wsL_law RL := ⟨hx, hb, hml, hown, hts⟩
  have C : lwC p s m c G b L xs := ⟨hE, hB0, S, hX, hbl, hL⟩
  have hA : ∀ q, (fun q : Nat => s.heap.size ≤ q) q → xB0 G ≤ q := fun q h => by rw [hB0]; exact h
  have hK := hE.1
  have hS : va_S (fun q : Nat => s.heap.size ≤ q) s.heap s.heap [] := va_S.rf
  have hP : va_P G.1 vwCl [] s.heap := fun k q h => by simp at h
  have hD : va_D (fun q : Nat => s.heap.size ≤ q) [] := ⟨fun i j p q h => by simp at h, fun k q h => by simp at h⟩
  have hl := lv_entry ([.ref b]) (n := 4) (Nat.le_of_ble_eq_true rfl)
  rw [lg_entry_eq]
  generalize (lg_sl ([.ref b]) ++ List.replicate (4 - (lg_sl ([.ref b])).length) Slot.unset).toArray = ls at hl ⊢
  have hl : lv_has ls 4 [(0, .ref b)] := hl
  refine va_new (ci := 5) (fs := [.null, .null, .int (nI 0), .null, .null, .null]) (C := RX5) (T := TX5) (N := 6) hx hb hts inlX5 tyX5 tyX5_ok hown (hts _ lwl_cl5) (hts _ lwl_in5) (hts _ lwl_it5) hK hP hD hS (fun _ h => h) rfl (fun j hj => by rcases (show j = 0 ∨ j = 1 ∨ j = 2 ∨ j = 3 ∨ j = 4 ∨ j = 5 by omega) with rfl | rfl | rfl | rfl | rfl | rfl <;> rfl) (Nat.le_of_ble_eq_true rfl) (Nat.le_of_ble_eq_true rfl) dL_law_0 (fun t5 H hP hD hS => ?_)
  have hP : va_P G.1 vwCl [(t5, .inr (5, [.null, .null, .int (nI 0), .null, .null, .null]))] H := hP
  have ht5 : s.heap.size ≤ t5 := hD.2 0 _ rfl
  have ht5z : t5 < H.size := x_lt hP (List.mem_singleton.mpr rfl)
  refine lv_dup hx hb dL_law_3 rfl ?_
  have hA1 : ∀ q, (q ∈ [t5] ∨ H.size ≤ q) → s.heap.size ≤ q := fun q h => h.elim (fun z => by rw [List.mem_singleton.mp z]; exact ht5) (fun z => Nat.le_trans hS.1 z)
  refine xwr (xrunI (As := []) (rest := [.ref t5]) S (c_X5_init l G t5 H.size (by rw [hB0]; exact ht5) (by rw [hB0]; exact hS.1) ht5z) (cwI 0 hts gL_law_X5_init rfl rfl rfl (hts _ lwl_it5) (hts _ lwl_m5) (hts _ lwl_v5) rfl (by decide +kernel) ⟨Nat.le_of_ble_eq_true rfl, Nat.le_of_ble_eq_true rfl⟩) hE hS hA ⟨rfl, hP⟩ rfl rfl hl.1 (Nat.le_of_ble_eq_true rfl) dL_law_4 ⟨Nat.le_of_ble_eq_true rfl, Nat.le_of_ble_eq_true rfl⟩) hS hA1 hA1 (fun uw1 H1 locs1 hΨ hz1 hk1 hS1 => ?_)
  obtain ⟨n0, nv, sn, sv, hi, ha, s0, v0, s1, v1, s2, v2, s3, v3, tx, tc, tr, tw, tn, hT, hdis, hnew⟩ := hΨ
  refine lv_astore_n (lv' := [(1, .ref t5), (0, .ref b)]) hx hb dL_law_7 rfl hl (by decide) rfl (fun ls hl => ?_)
  refine va_forget (fun q hq => hS1.2.2 q hq) ?_
  have hlt17 : ∀ q ∈ [t5, n0, nv, sn, sv, hi, ha, s0, v0, s1, v1, s2, v2, s3, v3, tx, tc, tr, tw, tn], q < H1.size := fun q hq => by
    obtain ⟨vf, er, vfs, ers, hcs, r, tfv, tfn, tfl, hPt, -⟩ := id hT
    exact x_lt hPt hq
  have hP1 : va_P G.1 vwCl [] H1 := fun k q h => by simp at h
  have hD1 : va_D (fun q : Nat => H1.size ≤ q) [] := ⟨fun i j p q h => by simp at h, fun k q h => by simp at h⟩
  refine va_new (A := fun q : Nat => H1.size ≤ q) (H0 := H1) (ci := 6) (fs := [.null, .null, .int (nI 0), .null, .int (nI 0), .int (nI 0), .null, .int (nI 0), .int (nI 0)]) (C := RX6) (T := TX6) (N := 9) hx hb hts inlX6 tyX6 tyX6_ok hown (hts _ lwl_cl6) (hts _ lwl_in6) (hts _ lwl_it6) hK hP1 hD1 va_S.rf (fun _ h => h) rfl (fun j hj => by rcases (show j = 0 ∨ j = 1 ∨ j = 2 ∨ j = 3 ∨ j = 4 ∨ j = 5 ∨ j = 6 ∨ j = 7 ∨ j = 8 by omega) with rfl | rfl | rfl | rfl | rfl | rfl | rfl | rfl | rfl <;> rfl) (Nat.le_of_ble_eq_true rfl) (Nat.le_of_ble_eq_true rfl) dL_law_8 (fun m0 H2 hP2 hD2 hS2 => ?_)
  have hP2 : va_P G.1 vwCl [(m0, .inr (6, [.null, .null, .int (nI 0), .null, .int (nI 0), .int (nI 0), .null, .int (nI 0), .int (nI 0)]))] H2 := hP2
  have hm0 : H1.size ≤ m0 := hD2.2 0 _ rfl
  have hm0z : m0 < H2.size := x_lt hP2 (List.mem_singleton.mpr rfl)
  have hsH1 : s.heap.size ≤ H1.size := hS1.1
  have hS2b : va_S (fun q : Nat => s.heap.size ≤ q) s.heap H2 [] := ⟨Nat.le_trans hsH1 hS2.1, fun q h1 h2 => (hS2.2.1 q (Nat.lt_of_lt_of_le h1 hsH1) (Nat.not_le.mpr (Nat.lt_of_lt_of_le h1 hsH1))).trans (hS1.2.1 q h1 h2), fun _ h => by cases h⟩
  refine lv_dup hx hb dL_law_11 rfl ?_
  have hA2 : ∀ q, (q ∈ [m0] ∨ H2.size ≤ q) → s.heap.size ≤ q := fun q h => h.elim (fun z => by rw [List.mem_singleton.mp z]; exact Nat.le_trans hsH1 hm0) (fun z => Nat.le_trans hS2b.1 z)
  refine xwr (xrunI (As := []) (rest := [.ref m0]) S (c_X6_init l G m0 H2.size (by rw [hB0]; exact Nat.le_trans hsH1 hm0) (by rw [hB0]; exact hS2b.1) hm0z) (cwI 0 hts gL_law_X6_init rfl rfl rfl (hts _ lwl_it6) (hts _ lwl_m6) (hts _ lwl_v6) rfl (by decide +kernel) ⟨Nat.le_of_ble_eq_true rfl, Nat.le_of_ble_eq_true rfl⟩) hE hS2b hA ⟨rfl, hP2⟩ rfl rfl hl.1 (Nat.le_of_ble_eq_true rfl) dL_law_12 ⟨Nat.le_of_ble_eq_true rfl, Nat.le_of_ble_eq_true rfl⟩) hS2b hA2 hA2 (fun u H3 locs3 hΨ3 hz3 hk3 hS3 => ?_)
  obtain ⟨aN, aH, aS, aT⟩ := u
  obtain ⟨hP3, hdis5, hN3, hH3, hS3a, hT3⟩ := hΨ3
  refine lv_astore_n (lv' := [(2, .ref m0), (1, .ref t5), (0, .ref b)]) hx hb dL_law_15 rfl hl (by decide) rfl (fun ls hl => ?_)
  refine lv_iconst (v := nI 0) hx hb dL_law_16 rfl ?_
  refine lv_istore_n (lv' := [(3, .int (nI 0)), (2, .ref m0), (1, .ref t5), (0, .ref b)]) hx hb dL_law_17 rfl hl (by decide) rfl (fun ls hl => ?_)
  refine W.widen (k := 29 + 4 * 0) (n := 62785 + 465 * 0) (by omega) (by omega) ?_
  have hge5 : ∀ q ∈ [m0, aN, aH, aS, aT], H1.size ≤ q := fun q hq => by
    have h12 := hS2.1
    simp only [List.mem_cons, List.not_mem_nil, or_false] at hq
    rcases hq with rfl | rfl | rfl | rfl | rfl
    · exact hm0
    · exact Nat.le_trans h12 hN3
    · exact Nat.le_trans h12 hH3
    · exact Nat.le_trans h12 hS3a
    · exact Nat.le_trans h12 hT3
  have hne : ∀ a ∈ [t5, n0, nv, sn, sv, hi, ha, s0, v0, s1, v1, s2, v2, s3, v3, tx, tc, tr, tw, tn], ∀ b ∈ [m0, aN, aH, aS, aT], a ≠ b := fun a h1 b h2 h3 => by
    have q1 := hlt17 a h1
    have q2 := hge5 b h2
    omega
  have hd22 : xDis (xB0 G) [t5, n0, nv, sn, sv, hi, ha, s0, v0, s1, v1, s2, v2, s3, v3, tx, tc, tr, tw, tn, m0, aN, aH, aS, aT] := xDis_app hdis hdis5 hne
  have hM3 : mdI G m0 aN aH aS aT (rN0, fun _ => 0, fun _ => 0, fun _ => 0, 0, 0, 0, 0, 0) H3 := hP3
  have hkeep : ∀ q, q < H1.size → H3[q]? = H1[q]? := fun q hq => (hk3 q (Nat.lt_of_lt_of_le hq hS2.1) (fun z => z.elim (fun y => by rw [List.mem_singleton.mp y] at hq; omega) (fun y => absurd (Nat.le_trans hS2.1 y) (Nat.not_le.mpr hq)))).trans (hS2.2.1 q hq (Nat.not_le.mpr hq))
  have hT22 := (hT.out (B2 := [t5, n0, nv, sn, sv, hi, ha, s0, v0, s1, v1, s2, v2, s3, v3, tx, tc, tr, tw, tn, m0, aN, aH, aS, aT]) (fun q hq => (List.mem_append.mp (show q ∈ [t5, n0, nv, sn, sv, hi, ha, s0, v0, s1, v1, s2, v2, s3, v3, tx, tc, tr, tw, tn] ++ [m0, aN, aH, aS, aT] from hq)).imp id (hge5 q))).moved (fun q hq _ => hkeep q hq)
  have hlt22 : ∀ q ∈ [t5, n0, nv, sn, sv, hi, ha, s0, v0, s1, v1, s2, v2, s3, v3, tx, tc, tr, tw, tn, m0, aN, aH, aS, aT], q < H3.size := fun q hq => (List.mem_append.mp (show q ∈ [t5, n0, nv, sn, sv, hi, ha, s0, v0, s1, v1, s2, v2, s3, v3, tx, tc, tr, tw, tn] ++ [m0, aN, aH, aS, aT] from hq)).elim (fun z => Nat.lt_of_lt_of_le (hlt17 q z) (Nat.le_trans hS2.1 hz3)) (fun z => hM3.lt q z)
  exact law_loop l C hr hlocks (L + 1) 0 cvX0 _ H3 locs3 ls (by omega) (by omega) (lv_sub hl [3, 2, 1, 0] rfl) hS3 ⟨hT22, hM3, hd22, hlt22, 0, Nat.le_refl _, XR_0⟩
