/-! ===== making: which class an array is of, fresh addresses ===== -/
theorem va_RA.name {U : State} {cA : ClassId} {ty : FieldType} (h : va_RA U cA ty) : U.vm.findClass ("[" ++ ty.toString) = some cA := by
  cases ty with
  | object C =>
    obtain ⟨_, _, _, _, _, h4⟩ := h
    exact h4
  | _ => exact h
theorem x_sameA {D : va_G} {cl : List vw_C} {tys : List (ClassId × FieldType)} {s : State} {c1 cA : ClassId} {ty : FieldType} {t0 : Nat} (h1 : va_K D cl tys s) (ht : tys[t0]? = some (c1, ty)) (h2 : va_K D cl (tys ++ [(cA, ty)]) s) : cA = c1 := by
  have a := (h1.2 t0 _ ht).2.name
  have b := (h2.2 tys.length (cA, ty) (by simp)).2.name
  exact Option.some.inj (b.symm.trans a)
theorem x_fresh {L : List Nat} {ws : va_W} {q sz : Nat} {e : va_E} (hD : va_D (fun q => q ∈ L ∨ sz ≤ q) (ws ++ [(q, e)])) (hL : ∀ r ∈ L, r ∈ ws.map (fun x => x.1)) : sz ≤ q := by
  have hlast : (ws ++ [(q, e)])[ws.length]? = some (q, e) := by simp
  rcases hD.2 ws.length (q, e) hlast with h | h
  · obtain ⟨x, hx, hxq⟩ := List.mem_map.mp (hL q h)
    obtain ⟨i, hi⟩ := List.getElem?_of_mem hx
    have hlt : i < ws.length := (List.getElem?_eq_some_iff.mp hi).1
    have hi2 : (ws ++ [(q, e)])[i]? = some x := by rw [List.getElem?_append_left hlt]; exact hi
    have := hD.1 i ws.length x (q, e) hi2 hlast hxq
    omega
  · exact h
theorem x_new_ne {A : Nat → Prop} {ws : va_W} {q : Nat} {e : va_E} (hD : va_D A (ws ++ [(q, e)])) : q ∉ ws.map (fun x => x.1) := by
  intro h
  obtain ⟨x, hx, hxq⟩ := List.mem_map.mp h
  obtain ⟨i, hi⟩ := List.getElem?_of_mem hx
  have hlt : i < ws.length := (List.getElem?_eq_some_iff.mp hi).1
  have hi2 : (ws ++ [(q, e)])[i]? = some x := by rw [List.getElem?_append_left hlt]; exact hi
  have := hD.1 i ws.length x (q, e) hi2 (by simp) hxq
  omega
theorem xDis.of {A : Nat → Prop} {ws : va_W} {B : Nat} (hD : va_D A ws) (h : ∀ q ∈ ws.map (fun x => x.1), B ≤ q) : xDis B (ws.map (fun x => x.1)) := by
  refine ⟨List.pairwise_iff_getElem.mpr (fun i j hi hj hij e => ?_), h⟩
  have hi1 : i < ws.length := by simpa using hi
  have hj1 : j < ws.length := by simpa using hj
  have := hD.1 i j ws[i] ws[j] (by simp [hi1]) (by simp [hj1]) (by simpa using e)
  omega
/-- behind a call that writes its cells alone -/
theorem x_join {A0 : Nat → Prop} {D : va_G} {cl : List vw_C} {ws wc wr w1 : va_W} {H H1 : Heap} (hP : va_P D cl ws H) (hD : va_D A0 ws) (isC isR : List Nat) (hC : isC.map (fun i => ws[i]?) = wc.map some) (hR : isR.map (fun i => ws[i]?) = wr.map some) (hdis : ∀ i ∈ isR, i ∉ isC)
    (hk : ∀ q : Nat, q < H.size → ¬ q ∈ wc.map (fun x => x.1) → H1[q]? = H[q]?) (hP1 : va_P D cl w1 H1) : va_P D cl (wr ++ w1) H1 := by
  refine va_P.app (fun k q hq => ?_) hP1
  have h1 : (isR.map (fun i => ws[i]?))[k]? = some (some q) := by rw [hR, List.getElem?_map, hq]; rfl
  rw [List.getElem?_map] at h1
  cases hi : isR[k]? with
  | none => rw [hi] at h1; cases h1
  | some i =>
    rw [hi] at h1
    have hi2 : ws[i]? = some q := Option.some.inj h1
    refine (hP i q hi2).kept (hk q.1 (hP i q hi2).lt (fun hm => ?_))
    obtain ⟨x, hx, hxq⟩ := List.mem_map.mp hm
    have hx2 : some x ∈ wc.map some := List.mem_map.mpr ⟨x, hx, rfl⟩
    rw [← hC] at hx2
    obtain ⟨j, hj, hj2⟩ := List.mem_map.mp hx2
    have hij := hD.1 j i x q hj2 hi2 hxq
    subst hij
    exact hdis j (List.mem_of_getElem? hi) hj
theorem x_Dadr {A : Nat → Prop} {ws ws' : va_W} (h : va_D A ws) (e : ws'.map (fun x => x.1) = ws.map (fun x => x.1)) : va_D A ws' := by
  have key : ∀ (k : Nat) (q : Nat × va_E), ws'[k]? = some q → ∃ q0, ws[k]? = some q0 ∧ q0.1 = q.1 := by
    intro k q hk
    have h1 : (ws'.map (fun x => x.1))[k]? = some q.1 := by rw [List.getElem?_map, hk]; rfl
    rw [e, List.getElem?_map] at h1
    cases hw : ws[k]? with
    | none => rw [hw] at h1; cases h1
    | some q0 => rw [hw] at h1; exact ⟨q0, rfl, Option.some.inj h1⟩
  refine ⟨fun i j p q hi hj hpq => ?_, fun k q hk => ?_⟩
  · obtain ⟨p0, a1, a2⟩ := key i p hi
    obtain ⟨q0, b1, b2⟩ := key j q hj
    exact h.1 i j p0 q0 a1 b1 (a2.trans (hpq.trans b2.symm))
  · obtain ⟨q0, b1, b2⟩ := key k q hk
    rw [← b2]
    exact h.2 k q0 b1
/-- cells that are only read: what is written lies elsewhere -/
theorem x_ro {A : Nat → Prop} {D : va_G} {cl : List vw_C} {ws : va_W} {H0 H : Heap} {locs : List Loc} (h : va_P D cl ws H0) (hS : va_S A H0 H locs) (hn : ∀ q ∈ ws.map (fun x => x.1), ¬ A q) : va_P D cl ws H :=
  h.kept (fun k q hk => hS.2.1 q.1 (h k q hk).lt (hn q.1 (List.mem_map.mpr ⟨q, List.mem_of_getElem? hk, rfl⟩)))
theorem x_lt {D : va_G} {cl : List vw_C} {ws : va_W} {H : Heap} (h : va_P D cl ws H) {q : Nat} (hq : q ∈ ws.map (fun x => x.1)) : q < H.size := by
  obtain ⟨x, hx, hxq⟩ := List.mem_map.mp hq
  obtain ⟨i, hi⟩ := List.getElem?_of_mem hx
  rw [← hxq]
  exact (h i x hi).lt
theorem xDis1 {B q : Nat} (h : B ≤ q) : xDis B [q] := ⟨List.pairwise_singleton _ _, fun z hz => by rw [List.mem_singleton.mp hz]; exact h⟩
theorem xDis3 {B a b c : Nat} (h1 : B ≤ a) (h2 : B ≤ b) (h3 : B ≤ c) (h4 : a ≠ b) (h5 : a ≠ c) (h6 : b ≠ c) : xDis B [a, b, c] := by
  refine ⟨?_, ?_⟩
  · simp [h4, h5, h6]
  · intro q hq
    simp only [List.mem_cons, List.not_mem_nil, or_false] at hq
    rcases hq with rfl | rfl | rfl <;> assumption
/-- behind a call that writes its cells and makes new ones -/
theorem x_joinA {A0 : Nat → Prop} {D : va_G} {cl : List vw_C} {ws wc wr w1 : va_W} {H0 H H1 : Heap} {locs : List Loc} (hP : va_P D cl ws H) (hD : va_D A0 ws) (hS : va_S A0 H0 H locs) (hA : ∀ q, H0.size ≤ q → A0 q) (isC isR : List Nat) (hC : isC.map (fun i => ws[i]?) = wc.map some) (hR : isR.map (fun i => ws[i]?) = wr.map some) (hn : va_nd isR = true) (hdis : ∀ i ∈ isR, i ∉ isC)
    (hk : ∀ q : Nat, q < H.size → ¬ q ∈ wc.map (fun x => x.1) → H1[q]? = H[q]?) (hP1 : va_P D cl w1 H1) (hnd : (w1.map (fun x => x.1)).Nodup) (hw : ∀ q ∈ w1.map (fun x => x.1), q ∈ wc.map (fun x => x.1) ∨ H.size ≤ q) : va_P D cl (wr ++ w1) H1 ∧ va_D A0 (wr ++ w1) := by
  refine va_join hP hD isC isR hC hR hn hdis (fun q h1 h2 => hk q h1 (fun z => h2 ?_)) (va_free hD hS hA isC hC) hP1 ?_
  · obtain ⟨x, hx, hxq⟩ := List.mem_map.mp z
    obtain ⟨i, hi⟩ := List.getElem?_of_mem hx
    exact Or.inl ⟨i, x.2, by rw [hi, ← hxq]⟩
  · have hnd2 := List.pairwise_iff_getElem.mp hnd
    refine ⟨fun i j p q hi hj hpq => ?_, fun k q hk => ?_⟩
    · obtain ⟨hi1, hi2⟩ := List.getElem?_eq_some_iff.mp hi
      obtain ⟨hj1, hj2⟩ := List.getElem?_eq_some_iff.mp hj
      have hi1' : i < (w1.map (fun x => x.1)).length := by simpa using hi1
      have hj1' : j < (w1.map (fun x => x.1)).length := by simpa using hj1
      rcases Nat.lt_trichotomy i j with hlt | heq | hlt
      · exact absurd (by simp [hi2, hj2, hpq]) (hnd2 i j hi1' hj1' hlt)
      · exact heq
      · exact absurd (by simp [hi2, hj2, hpq]) (hnd2 j i hj1' hi1' hlt)
    · rcases hw q.1 (List.mem_map.mpr ⟨q, List.mem_of_getElem? hk, rfl⟩) with h | h
      · obtain ⟨x, hx, hxq⟩ := List.mem_map.mp h
        obtain ⟨i, hi⟩ := List.getElem?_of_mem hx
        exact Or.inl ⟨i, x.2, by rw [hi, ← hxq]⟩
      · exact Or.inr h
theorem x_up {A : Nat → Prop} {sz : Nat} {H0 H : Heap} {locs : List Loc} (hS : va_S A H0 H locs) (h : H0.size = sz) : sz ≤ H.size := by rw [← h]; exact hS.1
/-- an object of the row's class, wherever it lies -/
theorem x_any {D : va_G} {cl : List vw_C} {tys : List (ClassId × FieldType)} {s : State} {H : Heap} {ws : va_W} {a q0 ci : Nat} {fs : List Value} {r : vw_C} (hK : va_K D cl tys s) (hP : va_P D cl ws H) (he : ws[q0]? = some (a, .inr (ci, fs))) (hc : cl[ci]? = some r) : va_Any r.1 s H a :=
  va_rAny hK hP he hc (fun comp c0 h1 h2 => by
    have hcls := (hK.1 ci r hc).2
    have e1 : comp = D.1 ci := Option.some.inj (h1.symm.trans hcls.1)
    have e2 : c0 = D.1 ci := Option.some.inj (h2.symm.trans hcls.1)
    subst e1
    subst e2
    exact va_assign hcls)
section XQ
variable {p : Program} {l : Launch} {e : Env} {R : Room} {s : State} {m : MethodId} {args : Array Value} {below : List Frame} {meth : Method} {c : Code} {H : Heap} {locs : List Loc} {cells slots : Nat} {Q : State → Prop}
variable {cc : ByteArray} {pc : Nat} {ls : Array Slot} {rest : List Value} {D : va_G} {cl : List vw_C} {A : Nat → Prop} {a : Nat} {tys : List (ClassId × FieldType)} {ws : va_W} {H0 : Heap}
theorem q_aast (hx : p.tables.exec = Jvm.exec) (hb : c.code = cc) (hK : va_K D cl tys s) (hP : va_P D cl ws H) (hD : va_D A ws) (hS : va_S A H0 H locs) (q0 t0 : Nat) {E : String} {cA : ClassId} {n v k : Nat} {f : Nat → Option Nat} (ha : ws[q0]? = some (a, .inl (cA, n, .inr (.inr (.inr (.inr f)))))) (ht : tys[t0]? = some (cA, .object E)) (hr : va_Any E s H v) (hk : k < n) (hn : n < 2 ^ 31) (hdg : decode cc pc = .ok (.aastore, 1))
    (kk : ∀ (H1 : Heap) (locs1 : List Loc), va_P D cl (ws.set q0 (a, .inl (cA, n, .inr (.inr (.inr (.inr (va_up f k (some v)))))))) H1 → va_D A (ws.set q0 (a, .inl (cA, n, .inr (.inr (.inr (.inr (va_up f k (some v)))))))) → va_S A H0 H1 locs1 → W p l e R s m args below meth c H1 locs1 cells slots Q (F0 m (pc + 1) ls rest)) : W p l e R s m args below meth c H locs cells slots Q (F0 m pc ls (.ref v :: .int (nI k) :: .ref a :: rest)) := by
  refine va_astqM hx hb hK hP hD hS q0 t0 ha ht hr (vp_in_nI hk hn) hdg ?_
  rw [nI_clamp (Nat.lt_trans hk hn)]
  exact kk
theorem q_aastN (hx : p.tables.exec = Jvm.exec) (hb : c.code = cc) (hK : va_K D cl tys s) (hP : va_P D cl ws H) (hD : va_D A ws) (hS : va_S A H0 H locs) (q0 t0 : Nat) {E : String} {cA : ClassId} {n k : Nat} {f : Nat → Option Nat} (ha : ws[q0]? = some (a, .inl (cA, n, .inr (.inr (.inr (.inr f)))))) (ht : tys[t0]? = some (cA, .object E)) (hk : k < n) (hn : n < 2 ^ 31) (hdg : decode cc pc = .ok (.aastore, 1))
    (kk : ∀ (H1 : Heap) (locs1 : List Loc), va_P D cl (ws.set q0 (a, .inl (cA, n, .inr (.inr (.inr (.inr (va_up f k none))))))) H1 → va_D A (ws.set q0 (a, .inl (cA, n, .inr (.inr (.inr (.inr (va_up f k none))))))) → va_S A H0 H1 locs1 → W p l e R s m args below meth c H1 locs1 cells slots Q (F0 m (pc + 1) ls rest)) : W p l e R s m args below meth c H locs cells slots Q (F0 m pc ls (.null :: .int (nI k) :: .ref a :: rest)) := by
  refine va_astqN hx hb hK hP hD hS q0 t0 ha ht (vp_in_nI hk hn) hdg ?_
  rw [nI_clamp (Nat.lt_trans hk hn)]
  exact kk
end XQ
