/-! ===== the simulation: the class's rows and the reference's ===== -/
def wdN (k : Nat) : Nat := lvN (k + 1) - lvN k
theorem wdN_cs {k : Nat} (hk : k < 5) : (k = 0 ∧ lvN k = 0 ∧ wdN k = 74 ∧ rBg k = 0) ∨ (k = 1 ∧ lvN k = 74 ∧ wdN k = 19 ∧ rBg k = 75) ∨ (k = 2 ∧ lvN k = 93 ∧ wdN k = 5 ∧ rBg k = 94) ∨ (k = 3 ∧ lvN k = 98 ∧ wdN k = 2 ∧ rBg k = 99) ∨ (k = 4 ∧ lvN k = 100 ∧ wdN k = 1 ∧ rBg k = 101) := by
  rcases (show k = 0 ∨ k = 1 ∨ k = 2 ∨ k = 3 ∨ k = 4 by omega) with rfl | rfl | rfl | rfl | rfl <;> simp [wdN, lvN, rBg]
theorem sl_inj {k p k2 p2 : Nat} (hk : k < 5) (hp : p < wdN k) (hk2 : k2 < 5) (hp2 : p2 < wdN k2) (h : lvN k + p = lvN k2 + p2) : k = k2 ∧ p = p2 := by
  have a := wdN_cs hk
  have b := wdN_cs hk2
  omega
theorem id_inj {k p k2 p2 : Nat} (hk : k < 5) (hp : p < wdN k) (hk2 : k2 < 5) (hp2 : p2 < wdN k2) (h : rBg k + p = rBg k2 + p2) : k = k2 ∧ p = p2 := by
  have a := wdN_cs hk
  have b := wdN_cs hk2
  omega
theorem sl_lt {k p : Nat} (hk : k < 5) (hp : p < wdN k) : lvN k + p < 101 := by
  have a := wdN_cs hk
  omega
theorem id_lt {k p : Nat} (hk : k < 5) (hp : p < wdN k) : rBg k + p < 102 := by
  have a := wdN_cs hk
  omega
theorem rMk_go {N : Nat → Nat} {r k q w : Nat} (hr : r ≤ 24) (hk : k < 5) (hq : q < wdN k) (h : ¬ (r = 24 ∧ w ≠ 0 ∧ N (10174 + (rBg k + q)) = 1)) : rMk N r k q w (403 * r + 301 + (rBg k + q)) = N 10172 ∧ rMk N r k q w 10172 = N 10172 + 1 ∧ (r = 24 → rMk N r k q w (10174 + (rBg k + q)) = 1) := by
  have hb := id_lt hk hq
  unfold rMk
  rw [if_neg h]
  by_cases h24 : r = 24
  · rw [if_pos h24]
    refine ⟨?_, ?_, fun _ => updN_s⟩
    · rw [updN_n (by omega), updN_n (by omega), updN_s]
    · rw [updN_n (by omega), updN_s, updN_n (by omega)]
  · rw [if_neg h24]
    refine ⟨?_, ?_, fun z => absurd z h24⟩
    · rw [updN_n (by omega), updN_s]
    · rw [updN_s, updN_n (by omega)]
theorem rMk_fr {N : Nat → Nat} {r k q w j : Nat} (h1 : j ≠ 403 * r + 301 + (rBg k + q)) (h2 : j ≠ 10172) (h3 : ¬ (r = 24 ∧ j = 10174 + (rBg k + q))) : rMk N r k q w j = N j := by
  unfold rMk
  split
  · rfl
  · split
    · rename_i h
      rw [updN_n (fun z => h3 ⟨h, z⟩), updN_n h2, updN_n h1]
    · rw [updN_n h2, updN_n h1]
/-- the numbers of a row's blocks: U = which blocks the row has; a number tells its slot -/
def slR (N : Nat → Nat) (v : Nat) (nums : Nat → Int32) (U : Nat → Nat → Prop) (σ : Nat → Nat) : Prop := ∀ k p, k < 5 → p < wdN k → (U k p ∧ N (403 * v + 301 + (rBg k + p)) < N 10172 ∧ nums (lvN k + p) = nI (N (403 * v + 301 + (rBg k + p))) ∧ σ (N (403 * v + 301 + (rBg k + p))) = lvN k + p) ∨ (¬ U k p ∧ nums (lvN k + p) = -5)
/-- which of them are the edit's own -/
def owR (N : Nat → Nat) (v : Nat) (nums : Nat → Int32) (U : Nat → Nat → Prop) (fo : Int32) : Prop := (v ≠ 24 → fo = cNO) ∧ (v = 24 → (∃ f0, fo = nI f0 ∧ f0 ≤ N 10172) ∧ ∀ k p, k < 5 → p < wdN k → U k p → (N (10174 + (rBg k + p)) = 1 ↔ fo ≤ nums (lvN k + p)))
theorem slR.iff {N : Nat → Nat} {v : Nat} {nums : Nat → Int32} {U V : Nat → Nat → Prop} {σ : Nat → Nat} (h : slR N v nums U σ) (hUV : ∀ k p, k < 5 → p < wdN k → (U k p ↔ V k p)) : slR N v nums V σ := fun k p hk hp => (h k p hk hp).elim (fun ⟨a, b⟩ => Or.inl ⟨(hUV k p hk hp).mp a, b⟩) (fun ⟨a, b⟩ => Or.inr ⟨fun z => a ((hUV k p hk hp).mpr z), b⟩)
theorem owR.iff {N : Nat → Nat} {v : Nat} {nums : Nat → Int32} {U V : Nat → Nat → Prop} {fo : Int32} (h : owR N v nums U fo) (hUV : ∀ k p, k < 5 → p < wdN k → (U k p ↔ V k p)) : owR N v nums V fo := ⟨h.1, fun hv => ⟨(h.2 hv).1, fun k p hk hp hV => (h.2 hv).2 k p hk hp ((hUV k p hk hp).mpr hV)⟩⟩
theorem no_le {n : Nat} (h : n < 2 ^ 24) : ¬ cNO ≤ nI n := fun z => absurd ((nI_leI (by decide) (by omega)).mp z) (by omega)
theorem mk_key {N : Nat → Nat} {v : Nat} {nums : Nat → Int32} {U : Nat → Nat → Prop} {σ : Nat → Nat} {fo : Int32} {k q w : Nat} (hs : slR N v nums U σ) (ho : owR N v nums U fo) (hM : N 10172 < 2 ^ 24) (hk : k < 5) (hq : q < wdN k) (hw : v = 24 → (w ≠ 0 ↔ U k q)) : fo ≤ nums (lvN k + q) ↔ (v = 24 ∧ w ≠ 0 ∧ N (10174 + (rBg k + q)) = 1) := by
  by_cases hv : v = 24
  · obtain ⟨⟨f0, hf, hf0⟩, ho2⟩ := ho.2 hv
    rcases hs k q hk hq with ⟨hU, h1, h2, h3⟩ | ⟨hU, h2⟩
    · rw [← ho2 k q hk hq hU]
      exact ⟨fun z => ⟨hv, (hw hv).mpr hU, z⟩, fun z => z.2.2⟩
    · rw [h2, hf]
      constructor
      · intro z
        rw [Int32.le_iff_toInt_le, nI_toInt (by omega)] at z
        have e : (-5 : Int32).toInt = -5 := rfl
        omega
      · intro z
        exact absurd ((hw hv).mp z.2.1) hU
  · rw [ho.1 hv]
    rcases hs k q hk hq with ⟨hU, h1, h2, h3⟩ | ⟨hU, h2⟩
    · rw [h2]
      exact ⟨fun z => absurd z (no_le (by omega)), fun z => absurd z.1 hv⟩
    · rw [h2]
      exact ⟨fun z => absurd z (by decide), fun z => absurd z.1 hv⟩
theorem mk_ok {N : Nat → Nat} {v : Nat} {nums : Nat → Int32} {U : Nat → Nat → Prop} {σ : Nat → Nat} {fo : Int32} {k q w : Nat} (hs : slR N v nums U σ) (ho : owR N v nums U fo) (hv : v ≤ 24) (hM : N 10172 < 2 ^ 24) (hk : k < 5) (hq : q < wdN k) (hw : v = 24 → (w ≠ 0 ↔ U k q)) :
    ∃ σ2, slR (rMk N v k q w) v (mbN nums (lvN k + q) (N 10172) fo) (fun a b => U a b ∨ (a = k ∧ b = q)) σ2 ∧ owR (rMk N v k q w) v (mbN nums (lvN k + q) (N 10172) fo) (fun a b => U a b ∨ (a = k ∧ b = q)) fo ∧ rMk N v k q w 10172 = N 10172 + mbC nums (lvN k + q) fo ∧ ∀ n, n < N 10172 → σ2 n = σ n := by
  have key := mk_key hs ho hM hk hq hw
  by_cases hc : fo ≤ nums (lvN k + q)
  · have h3 := key.mp hc
    have hU : U k q := (hw h3.1).mp h3.2.1
    have e : rMk N v k q w = N := if_pos h3
    have e2 : mbN nums (lvN k + q) (N 10172) fo = nums := if_pos hc
    have e3 : mbC nums (lvN k + q) fo = 0 := if_pos hc
    have hUV : ∀ a b, a < 5 → b < wdN a → (U a b ↔ (U a b ∨ (a = k ∧ b = q))) := fun a b _ _ => ⟨Or.inl, fun z => z.elim id (fun y => by rw [y.1, y.2]; exact hU)⟩
    rw [e, e2, e3]
    exact ⟨σ, hs.iff hUV, ho.iff hUV, rfl, fun _ _ => rfl⟩
  · have h3 : ¬ (v = 24 ∧ w ≠ 0 ∧ N (10174 + (rBg k + q)) = 1) := fun z => hc (key.mpr z)
    have e2 : mbN nums (lvN k + q) (N 10172) fo = upd nums (lvN k + q) (nI (N 10172)) := if_neg hc
    have e3 : mbC nums (lvN k + q) fo = 1 := if_neg hc
    obtain ⟨g1, g2, g3⟩ := rMk_go (N := N) (w := w) hv hk hq h3
    have hb := id_lt hk hq
    rw [e2, e3]
    refine ⟨fun n => if n = N 10172 then lvN k + q else σ n, fun a b ha hb2 => ?_, ⟨ho.1, fun h24 => ?_⟩, g2, fun n hn => if_neg (by omega)⟩
    · by_cases hab : a = k ∧ b = q
      · obtain ⟨rfl, rfl⟩ := hab
        refine Or.inl ⟨Or.inr ⟨rfl, rfl⟩, by rw [g1, g2]; omega, by rw [g1, pk_us], ?_⟩
        show (if _ = _ then _ else _) = _
        rw [g1, if_pos rfl]
      · have hne : rBg a + b ≠ rBg k + q := fun z => hab (id_inj ha hb2 hk hq z)
        have hns : lvN a + b ≠ lvN k + q := fun z => hab (sl_inj ha hb2 hk hq z)
        have hba := id_lt ha hb2
        have ef : rMk N v k q w (403 * v + 301 + (rBg a + b)) = N (403 * v + 301 + (rBg a + b)) := rMk_fr (by omega) (by omega) (by omega)
        rcases hs a b ha hb2 with ⟨hU, h1, h2, h4⟩ | ⟨hU, h2⟩
        · refine Or.inl ⟨Or.inl hU, by rw [ef, g2]; omega, by rw [ef, pk_un hns, h2], ?_⟩
          show (if _ = _ then _ else _) = _
          rw [ef, if_neg (by omega), h4]
        · exact Or.inr ⟨fun z => z.elim hU hab, by rw [pk_un hns, h2]⟩
    · obtain ⟨⟨f0, hf, hf0⟩, ho2⟩ := ho.2 h24
      refine ⟨⟨f0, hf, by rw [g2]; omega⟩, fun a b ha hb2 hUa => ?_⟩
      by_cases hab : a = k ∧ b = q
      · obtain ⟨rfl, rfl⟩ := hab
        rw [g3 h24, pk_us, hf]
        exact ⟨fun _ => (nI_leI (by omega) (by omega)).mpr hf0, fun _ => rfl⟩
      · have hne : rBg a + b ≠ rBg k + q := fun z => hab (id_inj ha hb2 hk hq z)
        have hns : lvN a + b ≠ lvN k + q := fun z => hab (sl_inj ha hb2 hk hq z)
        have hba := id_lt ha hb2
        have ef : rMk N v k q w (10174 + (rBg a + b)) = N (10174 + (rBg a + b)) := rMk_fr (by omega) (by omega) (by omega)
        rw [ef, pk_un hns]
        exact ho2 a b ha hb2 (hUa.resolve_right hab)
theorem rmv_ok {N : Nat → Nat} {v : Nat} {nums : Nat → Int32} {U : Nat → Nat → Prop} {σ : Nat → Nat} {fo : Int32} {k q : Nat} (hs : slR N v nums U σ) (ho : owR N v nums U fo) (hk : k < 5) (hq : q < wdN k) : slR N v (upd nums (lvN k + q) (-5)) (fun a b => U a b ∧ ¬ (a = k ∧ b = q)) σ ∧ owR N v (upd nums (lvN k + q) (-5)) (fun a b => U a b ∧ ¬ (a = k ∧ b = q)) fo := by
  refine ⟨fun a b ha hb => ?_, ho.1, fun h24 => ⟨(ho.2 h24).1, fun a b ha hb hU => ?_⟩⟩
  · by_cases hab : a = k ∧ b = q
    · obtain ⟨rfl, rfl⟩ := hab
      exact Or.inr ⟨fun z => z.2 ⟨rfl, rfl⟩, pk_us⟩
    · have hns : lvN a + b ≠ lvN k + q := fun z => hab (sl_inj ha hb hk hq z)
      rw [pk_un hns]
      exact (hs a b ha hb).elim (fun z => Or.inl ⟨⟨z.1, hab⟩, z.2⟩) (fun z => Or.inr ⟨fun y => z.1 y.1, z.2⟩)
  · have hns : lvN a + b ≠ lvN k + q := fun z => hU.2 (sl_inj ha hb hk hq z)
    rw [pk_un hns]
    exact (ho.2 h24).2 a b ha hb hU.1
