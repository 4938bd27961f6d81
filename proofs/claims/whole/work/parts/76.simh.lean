/-! ===== the edit, counts over all rows ===== -/
theorem rNo_alive {N : Nat → Nat} {v : Nat} (h1 : v < N 10171) (h2 : N 10171 ≤ 24) (h3 : N (10075 + 4 * v) = 1) : ¬ rNo N (nI v) := by
  rintro (z | z)
  · exact z ⟨(nI_leI (by omega) (by omega)).mpr (Nat.zero_le _), (nI_leI (by omega) (by omega)).mpr (by omega)⟩
  · rw [nI_clamp (by omega)] at z; omega
theorem rNo_dead {N : Nat → Nat} {v : Nat} (h1 : v < 24) (h3 : N (10075 + 4 * v) = 0) : rNo N (nI v) := Or.inr (by rw [nI_clamp (by omega)]; exact h3)
theorem rowsA_24 {vs : Nat → Option Vw} {ed : Option Rw} {i : Nat} (h : i < 24) : rowsA vs ed i = oel (vs i) none (fun w => some w.1) := if_pos h
theorem rowsA_ed {vs : Nat → Option Vw} {ed : Option Rw} : rowsA vs ed 24 = ed := if_neg (by omega)
theorem rows_at {vs : Nat → Option Vw} {ed : Option Rw} {fo : Int32} {N : Nat → Nat} {σ : Nat → Nat} (hV : vsR vs N σ) (hE : edR ed fo N σ) {i : Nat} {r : Rw} (hi : i ≤ 24) (h : rowsA vs ed i = some r) : rowR N i r σ ∧ (i < 24 → i < N 10171 ∧ N (10075 + 4 * i) = 1) ∧ (i = 24 → ¬ N 10173 = 0) := by
  by_cases h24 : i < 24
  · rw [rowsA_24 h24] at h
    rcases hV i h24 with ⟨a, b, w, d, e⟩ | ⟨_, d⟩
    · rw [d, oel_s] at h
      cases h
      exact ⟨e.1, fun _ => ⟨a, b⟩, fun z => by omega⟩
    · rw [d, oel_n] at h; cases h
  · obtain rfl : i = 24 := by omega
    rw [rowsA_ed] at h
    rcases hE with ⟨_, d⟩ | ⟨a, r2, d, e, _⟩
    · rw [d] at h; cases h
    · rw [d] at h; cases h
      exact ⟨e, fun z => by omega, fun _ => by omega⟩
/-- a row of the i-th place has a number -/
def hasA (rs : Nat → Option Rw) (i n : Nat) : Prop := ∃ r, rs i = some r ∧ ∃ j, j < 101 ∧ r.2.2.1 j = nI n
theorem isof_iff {vs : Nat → Option Vw} {ed : Option Rw} {fo : Int32} {N : Nat → Nat} {σ : Nat → Nat} {c : Nat} (hV : vsR vs N σ) (hE : edR ed fo N σ) (hok : okN N c) {n : Nat} (hn : n < 2 ^ 24) : rIsOf N n ↔ ∃ i, i < 24 ∧ hasA (rowsA vs ed) i n := by
  have hN := hok.1
  have he := hok.2.2.1
  constructor
  · rintro ⟨v, hv, h1, h2⟩
    have hv24 : v < 24 := by omega
    rcases hV v hv24 with ⟨a, b, w, d, e⟩ | ⟨a, d⟩
    · exact ⟨v, hv24, w.1, by rw [rowsA_24 hv24, d, oel_s], (has_iff e.1 hN hn).mp h2⟩
    · exact absurd (rNo_dead hv24 (by omega)) h1
  · rintro ⟨i, hi, r, h1, h2⟩
    obtain ⟨g1, g2, _⟩ := rows_at hV hE (by omega) h1
    obtain ⟨g3, g4⟩ := g2 hi
    exact ⟨i, g3, rNo_alive g3 he g4, (has_iff g1 hN hn).mpr h2⟩
theorem us_iff {vs : Nat → Option Vw} {ed : Option Rw} {fo : Int32} {N : Nat → Nat} {σ : Nat → Nat} {c : Nat} (hV : vsR vs N σ) (hE : edR ed fo N σ) (hok : okN N c) {n : Nat} (hn : n < 2 ^ 24) : rUs N n ↔ ∃ i, i < 25 ∧ hasA (rowsA vs ed) i n := by
  have hN := hok.1
  constructor
  · rintro (⟨h1, h2⟩ | h1)
    · rcases hE with ⟨a, _⟩ | ⟨a, r, d, e, _⟩
      · exact absurd a h1
      · exact ⟨24, by omega, r, by rw [rowsA_ed]; exact d, (has_iff e hN hn).mp h2⟩
    · obtain ⟨i, hi, h2⟩ := (isof_iff hV hE hok hn).mp h1
      exact ⟨i, by omega, h2⟩
  · rintro ⟨i, hi, h1⟩
    by_cases h24 : i < 24
    · exact Or.inr ((isof_iff hV hE hok hn).mpr ⟨i, h24, h1⟩)
    · obtain rfl : i = 24 := by omega
      obtain ⟨r, h2, h3⟩ := h1
      obtain ⟨g1, _, g3⟩ := rows_at hV hE (by omega) h2
      exact Or.inl ⟨g3 rfl, (has_iff g1 hN hn).mpr h3⟩
/-- a row's number stands at its slot, also in another row -/
theorem in_one {rs : Nat → Option Rw} {N σ : Nat → Nat} (hrs : ∀ i r, i ≤ 24 → rs i = some r → rowR N i r σ) (hN : ∀ j, N j < 2 ^ 24) {m j n : Nat} (hm : m ≤ 25) (hj : j < 101) (hn : n < 2 ^ 24) (hs : σ n = j) : inOne rs m j (nI n) ↔ ∃ i, i < m ∧ hasA rs i n := by
  constructor
  · rintro ⟨i, hi, r, h1, _, h2⟩
    exact ⟨i, hi, r, h1, j, hj, h2⟩
  · rintro ⟨i, hi, r, h1, j2, hj2, h2⟩
    have := (slot_of (hrs i r (by omega) h1) hN hj2 hn h2).1
    rw [hs] at this
    exact ⟨i, hi, r, h1, nI_pos' (by omega), by rw [this]; exact h2⟩
/-- the new blocks of a row, by their numbers -/
theorem new_ok {rs : Nat → Option Rw} {N σ : Nat → Nat} (hrs : ∀ i r, i ≤ 24 → rs i = some r → rowR N i r σ) (hN : ∀ j, N j < 2 ^ 24) {i : Nat} (hi : i ≤ 24) : biU rs i = sumN (fun n => bN (hasA rs i n ∧ ¬ ∃ i2, i2 < i ∧ hasA rs i2 n)) (N 10172) := by
  have hM := hN 10172
  cases hr : rs i with
  | none =>
    have e : biU rs i = 0 := by unfold biU; rw [hr]
    rw [e, sumN_0]
    intro n _
    refine bN_f (fun z => ?_)
    obtain ⟨⟨r, h1, _⟩, _⟩ := z
    rw [hr] at h1; cases h1
  | some r =>
    have hrow := hrs i r hi hr
    have e : biU rs i = biN rs i r.2.2.1 := by unfold biU; rw [hr]
    have e1 : biN rs i r.2.2.1 = sumN (fun j => bN (∃ n, n < N 10172 ∧ (r.2.2.1 j = nI n ∧ ¬ ∃ i2, i2 < i ∧ hasA rs i2 n))) 101 := by
      refine sumN_congr (fun j hj => bN_iff ⟨fun z => ?_, fun z => ?_⟩)
      · obtain ⟨z1, z2⟩ := z
        obtain ⟨k, p, hk, hp, rfl⟩ := sl_ex hj
        rcases hrow.2.2.2.2 k p hk hp with ⟨u1, u2, u3, u4⟩ | ⟨u1, u2⟩
        · refine ⟨_, u2, u3, fun y => z2 ?_⟩
          rw [u3]
          exact (in_one hrs hN (by omega) hj (hN _) u4).mpr y
        · rw [u2] at z1
          exact absurd z1 m5_neg
      · obtain ⟨n, z1, z2, z3⟩ := z
        rw [z2]
        have hs := (slot_of hrow hN hj (by omega) z2).1
        exact ⟨nI_pos' (by omega), fun y => z3 ((in_one hrs hN (by omega) hj (by omega) hs).mp y)⟩
    rw [e, e1, dcount]
    · refine sumN_congr (fun n hn => bN_iff ⟨fun z => ?_, fun z => ?_⟩)
      · obtain ⟨j, hj, z1, z2⟩ := z
        exact ⟨⟨r, hr, j, hj, z1⟩, z2⟩
      · obtain ⟨⟨r2, h2, j, hj, z1⟩, z2⟩ := z
        rw [hr] at h2; cases h2
        exact ⟨j, hj, z1, z2⟩
    · intro j n n2 _ hn hn2 z1 z2
      have e := z1.1.symm.trans z2.1
      exact (nI_eq (by omega) (by omega)).mp e
    · intro j j2 n hj hj2 hn z1 z2
      exact (slot_of hrow hN hj (by omega) z1.1).1.symm.trans (slot_of hrow hN hj2 (by omega) z2.1).1
theorem all_ok {rs : Nat → Option Rw} {N σ : Nat → Nat} (hrs : ∀ i r, i ≤ 24 → rs i = some r → rowR N i r σ) (hN : ∀ j, N j < 2 ^ 24) : ∀ m, m ≤ 25 → sumN (biU rs) m = sumN (fun n => bN (∃ i, i < m ∧ hasA rs i n)) (N 10172)
  | 0, _ => (sumN_0 (fun n _ => bN_f (fun ⟨i, hi, _⟩ => by omega))).symm
  | m + 1, hm => by
    show sumN (biU rs) m + biU rs m = _
    rw [all_ok hrs hN m (by omega), new_ok hrs hN (by omega), ← sumN_plus]
    refine sumN_congr (fun n _ => ?_)
    show bN (∃ i, i < m ∧ hasA rs i n) + bN (hasA rs m n ∧ ¬ ∃ i2, i2 < m ∧ hasA rs i2 n) = bN (∃ i, i < m + 1 ∧ hasA rs i n)
    by_cases h1 : ∃ i, i < m ∧ hasA rs i n
    · rw [bN_t h1, bN_f (fun z => z.2 h1), bN_t]
      obtain ⟨i, a, b⟩ := h1
      exact ⟨i, by omega, b⟩
    · by_cases h2 : hasA rs m n
      · rw [bN_f h1, bN_t ⟨h2, h1⟩, bN_t ⟨m, by omega, h2⟩]
      · rw [bN_f h1, bN_f (fun z => h2 z.1), bN_f]
        rintro ⟨i, a, b⟩
        by_cases him : i = m
        · rw [him] at b; exact h2 b
        · exact h1 ⟨i, by omega, b⟩
theorem used_ok {vs : Nat → Option Vw} {ed : Option Rw} {fo : Int32} {N : Nat → Nat} {σ : Nat → Nat} {c : Nat} (hV : vsR vs N σ) (hE : edR ed fo N σ) (hok : okN N c) : sumN (biU (rowsA vs ed)) 25 = sumN (fun z => bN (rUs N z)) (N 10172) := by
  have hM := hok.1 10172
  rw [all_ok (fun i r hi hr => (rows_at hV hE hi hr).1) hok.1 25 (by omega)]
  exact sumN_congr (fun n hn => bN_iff (us_iff hV hE hok (by omega)).symm)
theorem len_ok {vs : Nat → Option Vw} {N : Nat → Nat} {σ : Nat → Nat} {c : Nat} (hV : vsR vs N σ) (hok : okN N c) : sumN (manyA vs) 24 = sumN (rLs N) (N 10171) := by
  have he := hok.2.2.1
  rw [show 24 = N 10171 + (24 - N 10171) by omega, sumN_add, sumN_0 (n := 24 - N 10171), Nat.add_zero]
  · refine sumN_congr (fun i hi => ?_)
    unfold manyA rLs
    rcases hV i (by omega) with ⟨a, b, w, d, e⟩ | ⟨a, b⟩
    · rw [d, oel_s, if_neg (rNo_alive a he b)]
      exact e.2.2.2.2.1
    · rw [b, oel_n, if_pos (rNo_dead (by omega) (by omega))]
  · intro i hi
    show manyA vs (N 10171 + i) = 0
    unfold manyA
    rcases hV (N 10171 + i) (by omega) with ⟨a, _⟩ | ⟨a, b⟩
    · omega
    · rw [b, oel_n]
theorem rd_cou {X : Xs} {N Hs Sl tx : Nat → Nat} {kept fil ty c : Nat} (h : XR X N Hs Sl tx kept fil ty c) (b : Int32) : cvCou X b = rmCou N kept ty b := by
  obtain ⟨⟨a1, a2, σ, hV, hE⟩, hok, h3, h4, h5, h6, h7, h8, h9, h10, h11, h12, h13, h14⟩ := id h
  rw [cvCou, rmCou, a1, a2, used_ok hV hE hok, h6, h10, left_ok hV hok, len_ok hV hok]
  refine ite_congr rfl (fun _ => rfl) (fun _ => ?_)
  refine ite_congr rfl (fun _ => rfl) (fun _ => ?_)
  refine ite_congr rfl (fun _ => rfl) (fun _ => ?_)
  refine ite_congr rfl (fun _ => rfl) (fun _ => ?_)
  refine ite_congr rfl (fun _ => rfl) (fun _ => ?_)
  refine ite_congr rfl (fun _ => ?_) (fun _ => rfl)
  rcases hE with ⟨q1, q2⟩ | ⟨q1, r, q2, _⟩
  · rw [q1, bI_f (fun z => z q2)]; exact nI_0.symm
  · rw [q1, bI_t (by rw [q2]; intro z; cases z)]; rfl
theorem own_ok {N : Nat → Nat} {r : Rw} {σ : Nat → Nat} {fo : Int32} (h : rowR N 24 r σ) (ho : owR N 24 r.2.2.1 (fun k p => p < rBl (rLv r.2.2.2) k) fo) (hfl : flR N) (hN : ∀ j, N j < 2 ^ 24) : sumN (fun z => bN (fo ≤ r.2.2.1 z)) 101 = sumN (rOwn N) 5 := by
  have hl := row_len h
  obtain ⟨⟨f0, hf, hf0⟩, ho2⟩ := ho.2 rfl
  have hM := hN 10172
  have key := cnt_lv (f := fun j => bN (fo ≤ r.2.2.1 j)) (g := fun k p => N (10174 + rBg k + p)) (b := fun k => rBl (rLv (N (403 * 24))) k) (fun k hk => by rw [h.1]; exact rBl_wd hl.2 hk) (fun k p hk hp => by
    have hp : p < rBl (rLv (N (403 * 24))) k := hp
    rw [h.1] at hp
    have hpw := Nat.lt_of_lt_of_le hp (rBl_wd hl.2 hk)
    have hq := ho2 k p hk hpw hp
    have hle := hfl _ (id_lt hk hpw)
    show bN (fo ≤ r.2.2.1 (lvN k + p)) = N (10174 + rBg k + p)
    rw [Nat.add_assoc]
    by_cases hc : fo ≤ r.2.2.1 (lvN k + p)
    · rw [bN_t hc, hq.mpr hc]
    · rw [bN_f hc]
      have : ¬ N (10174 + (rBg k + p)) = 1 := fun z => hc (hq.mp z)
      omega) (fun k p hk hp hpw => by
    have hp : rBl (rLv (N (403 * 24))) k ≤ p := hp
    rw [h.1] at hp
    rcases h.2.2.2.2 k p hk hpw with ⟨u1, u2, u3, u4⟩ | ⟨u1, u2⟩
    · exact absurd u1 (Nat.not_lt.mpr hp)
    · refine bN_f (fun z => ?_)
      rw [u2, hf, Int32.le_iff_toInt_le, nI_toInt (by omega)] at z
      have e : (-5 : Int32).toInt = -5 := rfl
      omega)
  exact key
theorem rd_edi {X : Xs} {N Hs Sl tx : Nat → Nat} {kept fil ty c : Nat} (h : XR X N Hs Sl tx kept fil ty c) (b : Int32) : cvEdi X b = rmEdi N b := by
  obtain ⟨⟨a1, a2, σ, hV, hE⟩, hok, hrest⟩ := id h
  have hN := hok.1
  rw [cvEdi, rmEdi]
  by_cases hb : b < 0 ∨ nI 4 < b
  · rw [if_pos hb, if_pos (fun z => hb.elim (fun y => absurd (show (0 : Int32) ≤ b from z.1) (Int32.not_le.mpr y)) (fun y => absurd z.2 (Int32.not_le.mpr y)))]
  · have hnb : ¬ ¬ (nI 0 ≤ b ∧ b ≤ nI 4) := fun z => z ⟨(Int32.not_lt.mp (fun y => hb (Or.inl y)) : (0 : Int32) ≤ b), Int32.not_lt.mp (fun y => hb (Or.inr y))⟩
    rw [if_neg hb, if_neg hnb]
    rcases ed_at hE with ⟨h0, he⟩ | ⟨h0, h1, r, he, hr, ho, hfl⟩
    · rw [he, oel_n, if_pos h0]
    · have hl := row_len hr
      have hlen : N (403 * 24) = r.2.2.2 := hr.1
      rw [he, oel_s, if_neg h0, cvEdiK, rmEdiK, own_ok hr ho hfl hN, blk_ok hr hN, hlen]
      refine ite_congr rfl (fun _ => rfl) (fun _ => ?_)
      refine ite_congr rfl (fun _ => rfl) (fun _ => ?_)
      refine ite_congr rfl (fun _ => rfl) (fun _ => ?_)
      refine ite_congr rfl (fun _ => ?_) (fun _ => ?_)
      · have e1 := sum_split (fun j => nI 0 ≤ r.2.2.1 j) (fun j => inOne (rowsA X.1.1 (some r)) 24 j (r.2.2.1 j)) 101
        have e2 : sumN (fun j => bN (nI 0 ≤ r.2.2.1 j ∧ inOne (rowsA X.1.1 (some r)) 24 j (r.2.2.1 j))) 101 = sumN (rSh N 24 (fun z => rIsOf N z)) 5 := by
          rw [he] at hE
          refine sh_ok hr hN (P := fun z => rIsOf N z) (Q := fun j => inOne (rowsA X.1.1 (some r)) 24 j (r.2.2.1 j)) (fun j n hj hn e hs => ?_)
          rw [e, isof_iff hV hE hok hn]
          exact (in_one (fun i r hi hr => (rows_at hV hE hi hr).1) hN (by omega) hj hn hs).symm
        have e3 : biN (rowsA X.1.1 (some r)) 24 r.2.2.1 = sumN (fun j => bN (nI 0 ≤ r.2.2.1 j ∧ ¬ inOne (rowsA X.1.1 (some r)) 24 j (r.2.2.1 j))) 101 := rfl
        rw [← blk_ok hr hN, he, e3, e1, e2, nI_sub (Nat.le_add_right _ _), Nat.add_sub_cancel_left]
      · rw [cRI]
        by_cases hq : rLv r.2.2.2 = 0
        · rw [if_pos hq, if_pos hq, nuI, slI, if_pos (Or.inl (by decide)), if_pos (by decide)]
        · have hrt := rRt_le (rLv r.2.2.2)
          have hu := rBl_u (rLv r.2.2.2) (rRt (rLv r.2.2.2))
          have hp : 0 < 4 ^ rRt (rLv r.2.2.2) := Nat.pow_pos (by omega)
          have hpos : 0 < rBl (rLv r.2.2.2) (rRt (rLv r.2.2.2)) := by
            rcases hu with ⟨a, _⟩ | ⟨_, a, _⟩ | ⟨_, _, a⟩
            · exact absurd a hq
            · omega
            · rw [a]; exact Nat.div_pos (by omega) hp
          rw [if_neg hq, if_neg hq, nu_ok hr (by omega) (by omega), if_pos ⟨by omega, hpos⟩]
