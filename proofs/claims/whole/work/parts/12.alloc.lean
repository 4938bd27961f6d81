/-! ===== making: which class an array is of, fresh addresses ===== -/
theorem va_RA.name {U : State} {cA : ClassId} {ty : FieldType} (h : va_RA U cA ty) : U.vm.findClass ("[" ++ ty.toString) = some cA := by
  cases ty with
  | object C =>
    obtain ⟨_, _, _, _, _, h4⟩ := h
    exact h4
  | _ => exact h
theorem x_sameA {D : va_G} {cl : List vw_C} {tys : List (ClassId × FieldType)} {s : State} {c1 cA : ClassId} {ty : FieldType} {t0 : Nat} (h1 : va_K D cl tys s) (ht : tys[t0]? = some (c1, ty)) (h2 : va_K D cl (tys ++ [(cA, ty)]) s) : cA = c1 := by
  have a := (h1.2 t0 _ ht).2.name
  have b := (h2.2 tys.length (cA, ty) (by simp)).2.name
  exact Option.some.inj (b.symm.trans a)
theorem x_fresh {L : List Nat} {ws : va_W} {q sz : Nat} {e : va_E} (hD : va_D (fun q => q ∈ L ∨ sz ≤ q) (ws ++ [(q, e)])) (hL : ∀ r ∈ L, r ∈ ws.map (fun x => x.1)) : sz ≤ q := by
  have hlast : (ws ++ [(q, e)])[ws.length]? = some (q, e) := by simp
  rcases hD.2 ws.length (q, e) hlast with h | h
  · obtain ⟨x, hx, hxq⟩ := List.mem_map.mp (hL q h)
    obtain ⟨i, hi⟩ := List.getElem?_of_mem hx
    have hlt : i < ws.length := (List.getElem?_eq_some_iff.mp hi).1
    have hi2 : (ws ++ [(q, e)])[i]? = some x := by rw [List.getElem?_append_left hlt]; exact hi
    have := hD.1 i ws.length x (q, e) hi2 hlast hxq
    omega
  · exact h
theorem x_new_ne {A : Nat → Prop} {ws : va_W} {q : Nat} {e : va_E} (hD : va_D A (ws ++ [(q, e)])) : q ∉ ws.map (fun x => x.1) := by
  intro h
  obtain ⟨x, hx, hxq⟩ := List.mem_map.mp h
  obtain ⟨i, hi⟩ := List.getElem?_of_mem hx
  have hlt : i < ws.length := (List.getElem?_eq_some_iff.mp hi).1
  have hi2 : (ws ++ [(q, e)])[i]? = some x := by rw [List.getElem?_append_left hlt]; exact hi
  have := hD.1 i ws.length x (q, e) hi2 (by simp) hxq
  omega
theorem xDis.of {A : Nat → Prop} {ws : va_W} {B : Nat} (hD : va_D A ws) (h : ∀ q ∈ ws.map (fun x => x.1), B ≤ q) : xDis B (ws.map (fun x => x.1)) := by
  refine ⟨List.pairwise_iff_getElem.mpr (fun i j hi hj hij e => ?_), h⟩
  have hi1 : i < ws.length := by simpa using hi
  have hj1 : j < ws.length := by simpa using hj
  have := hD.1 i j ws[i] ws[j] (by simp [hi1]) (by simp [hj1]) (by simpa using e)
  omega
