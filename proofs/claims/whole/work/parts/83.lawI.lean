/-! ===== the law's invariant ===== -/
/-- the reference's picture -/
def mdI (G : xG) (m0 aN aH aS aT : Nat) (M : RM) (H : Heap) : Prop := va_P G.1 vwCl [(m0, .inr (6, [.ref aN, .ref aH, .int (nI M.2.2.2.2.1), .ref aS, .int (nI M.2.2.2.2.2.1), .int (nI M.2.2.2.2.2.2.1), .ref aT, .int (nI M.2.2.2.2.2.2.2.1), .int (nI M.2.2.2.2.2.2.2.2)])), (aN, .inl (xcI G, 10276, .inl (nf M.1))), (aH, .inl (xcI G, 41104, .inl (nf M.2.1))), (aS, .inl (xcI G, 10276, .inl (nf M.2.2.1))), (aT, .inl (xcC G, 60, .inl (nf M.2.2.2.1)))] H
theorem mdI.kept {G : xG} {m0 aN aH aS aT : Nat} {M : RM} {H H1 : Heap} (h : mdI G m0 aN aH aS aT M H) (hq : ∀ q ∈ [m0, aN, aH, aS, aT], H1[q]? = H[q]?) : mdI G m0 aN aH aS aT M H1 :=
  va_P.kept h (fun k q hk => by
    have h9 : q.1 ∈ List.map (fun x : Nat × va_E => x.1) _ := List.mem_map.mpr ⟨q, List.mem_of_getElem? hk, rfl⟩
    exact hq q.1 h9)
theorem mdI.lt {G : xG} {m0 aN aH aS aT : Nat} {M : RM} {H : Heap} (h : mdI G m0 aN aH aS aT M H) : ∀ q ∈ [m0, aN, aH, aS, aT], q < H.size := fun q hq => x_lt (show va_P G.1 vwCl _ H from h) (by exact hq)
/-- what holds at the head of the law's loop -/
def lwI (G : xG) (t5 n0 nv sn sv hi ha s0 v0 s1 v1 s2 v2 s3 v3 tx tc tr tw tn m0 aN aH aS aT : Nat) (i : Nat) (X : Xs) (M : RM) (H : Heap) : Prop := tvI G [t5, n0, nv, sn, sv, hi, ha, s0, v0, s1, v1, s2, v2, s3, v3, tx, tc, tr, tw, tn, m0, aN, aH, aS, aT] t5 n0 nv sn sv hi ha s0 v0 s1 v1 s2 v2 s3 v3 tx tc tr tw tn X H ∧ mdI G m0 aN aH aS aT M H ∧ xDis (xB0 G) [t5, n0, nv, sn, sv, hi, ha, s0, v0, s1, v1, s2, v2, s3, v3, tx, tc, tr, tw, tn, m0, aN, aH, aS, aT] ∧ (∀ q ∈ [t5, n0, nv, sn, sv, hi, ha, s0, v0, s1, v1, s2, v2, s3, v3, tx, tc, tr, tw, tn, m0, aN, aH, aS, aT], q < H.size) ∧ ∃ c, c ≤ 200 * i ∧ XM X M c
/-- what does not change in the law -/
def lwC (p : Program) (s : State) (m : MethodId) (c : Code) (G : xG) (b L : Nat) (xs : Nat → Int32) : Prop := xE G s ∧ xB0 G = s.heap.size ∧ CallFix p m c cL_law 4 s #[Value.ref b] wsL_law RL ∧ va_X b L xs s s.heap ∧ b < s.heap.size ∧ L ≤ 2048
theorem lw_prm {X : Xs} {N Hs Sl tx : Nat → Nat} {kept fil ty c : Nat} (h : XR X N Hs Sl tx kept fil ty c) (hc : c < 2 ^ 20) : (∀ j, N j < 2 ^ 24) ∧ 1 ≤ N 10171 ∧ N 10171 ≤ 24 ∧ (∀ v, v ≤ 24 → N (403 * v) ≤ 300) ∧ (∀ v, v < N 10171 → N (10075 + 4 * v + 2) + rLen N v ≤ N (403 * v)) ∧ N 10172 < 2 ^ 22 ∧ kept ≤ 4 ∧ (∀ j, tx j < 65536) ∧ ty ≤ 60 ∧ fil < 2 := by
  obtain ⟨h1, h2, h3, h4, h5, h6, h7, h8, h9, h10, h11, h12, h13, h14⟩ := h
  obtain ⟨q1, q2, q3, q4, q5, q6⟩ := h2
  exact ⟨q1, q2, q3, q4, q5, by omega, h7, h12, h11, h4⟩
/-- the reference's cells stay when the class acts -/
theorem lw_k1 {G : xG} {t5 n0 nv sn sv hi ha s0 v0 s1 v1 s2 v2 s3 v3 tx tc tr tw tn m0 aN aH aS aT B : Nat} {M : RM} {H H1 : Heap} (hdis : xDis B [t5, n0, nv, sn, sv, hi, ha, s0, v0, s1, v1, s2, v2, s3, v3, tx, tc, tr, tw, tn, m0, aN, aH, aS, aT]) (h : mdI G m0 aN aH aS aT M H) (hk : ∀ q : Nat, q < H.size → ¬ (q ∈ [t5, n0, nv, sn, sv, hi, ha, s0, v0, s1, v1, s2, v2, s3, v3, tx, tc, tr, tw, tn] ∨ H.size ≤ q) → H1[q]? = H[q]?) : mdI G m0 aN aH aS aT M H1 :=
  h.kept (fun q hq => hk q (h.lt q hq) (fun z => z.elim (fun y => xDis_off hdis [20, 21, 22, 23, 24] [0, 1, 2, 3, 4, 5, 6, 7, 8, 9, 10, 11, 12, 13, 14, 15, 16, 17, 18, 19] (by decide) rfl rfl q hq y) (fun y => absurd (h.lt q hq) (Nat.not_lt.mpr y))))
/-- the class's cells stay when the reference acts -/
theorem lw_k2 {G : xG} {t5 n0 nv sn sv hi ha s0 v0 s1 v1 s2 v2 s3 v3 tx tc tr tw tn m0 aN aH aS aT B : Nat} {X : Xs} {H H1 : Heap} (hdis : xDis B [t5, n0, nv, sn, sv, hi, ha, s0, v0, s1, v1, s2, v2, s3, v3, tx, tc, tr, tw, tn, m0, aN, aH, aS, aT]) (h : tvI G [t5, n0, nv, sn, sv, hi, ha, s0, v0, s1, v1, s2, v2, s3, v3, tx, tc, tr, tw, tn, m0, aN, aH, aS, aT] t5 n0 nv sn sv hi ha s0 v0 s1 v1 s2 v2 s3 v3 tx tc tr tw tn X H) (hk : ∀ q : Nat, q < H.size → ¬ q ∈ [m0, aN, aH, aS, aT] → H1[q]? = H[q]?) : tvI G [t5, n0, nv, sn, sv, hi, ha, s0, v0, s1, v1, s2, v2, s3, v3, tx, tc, tr, tw, tn, m0, aN, aH, aS, aT] t5 n0 nv sn sv hi ha s0 v0 s1 v1 s2 v2 s3 v3 tx tc tr tw tn X H1 :=
  h.moved (fun q hq hm => hk q hq (fun y => hm.elim (fun z => xDis_off hdis [0, 1, 2, 3, 4, 5, 6, 7, 8, 9, 10, 11, 12, 13, 14, 15, 16, 17, 18, 19] [20, 21, 22, 23, 24] (by decide) rfl rfl q z y) (fun z => z (L_sub [20, 21, 22, 23, 24] rfl q y))))
/-- one int of the script -/
theorem lw_arg {p : Program} {l : Launch} {e : Env} {R : Room} {s : State} {m : MethodId} {args : Array Value} {below : List Frame} {meth : Method} {c : Code} {H : Heap} {locs : List Loc} {cells slots : Nat} {Q : State → Prop} {G : xG} {b L : Nat} {xs : Nat → Int32} {ls : Array Slot} {st : List Value} {lv : List (Nat × Value)} (C : lwC p s m c G b L xs) (hS : va_S (fun q => s.heap.size ≤ q) s.heap H locs) {i pc : Nat} (j : Nat) (hj : 4 * i + j < L) (hl : lv_has ls 4 lv) (h0 : lv[0]? = some (0, .ref b)) (h3 : lv[3]? = some (3, .int (nI (4 * i)))) (d0 : decode cL_law pc = .ok (.aload_n 0, 1)) (d1 : decode cL_law (pc + 1) = .ok (.iload_n 3, 1)) {jj : Int} (d2 : decode cL_law (pc + 2) = .ok (.iconst jj, 1)) (hjj : Int32.ofInt jj = nI j) (d3 : decode cL_law (pc + 3) = .ok (.iadd, 1)) (d4 : decode cL_law (pc + 4) = .ok (.iaload, 1)) (kk : W p l e R s m args below meth c H locs cells slots Q (F0 m (pc + 5) ls (.int (xs (4 * i + j)) :: st))) : W p l e R s m args below meth c H locs cells slots Q (F0 m pc ls st) := by
  obtain ⟨hE, hB0, S, hX, hbl, hL⟩ := id C
  obtain ⟨hx, hb, hml, hown, hts⟩ := id S
  have hbA : ¬ (fun q : Nat => s.heap.size ≤ q) b := Nat.not_le.mpr hbl
  refine lv_aload_n hx hb d0 rfl (lv_at hl 0 h0) ?_
  refine lv_iload_n hx hb d1 rfl (lv_at hl 3 h3) ?_
  refine lv_iconst (v := nI j) hx hb d2 hjj ?_
  refine n_iadd hx hb d3 ?_
  refine va_sld hx hb hX hbl hbA hS (vp_in_nI hj (by omega)) d4 ?_
  rw [nI_clamp (by omega)]
  exact kk
